-- 63.b02.lean.txt
section
def kq_X11_tries_h : sf_Q := ([(1, 11, 0)], [], none, [], [(139, 0, 132)])
set_option maxRecDepth 100000 in
set_option maxHeartbeats 4000000 in
theorem ct_X11_tries_h : sf_ct kq_X11_tries_h Z_X11_tries := by
  intro t hp as H hl hj hpre
  match as, hl with
  | [v0], _ =>
    obtain ⟨a0, rfl, ra0⟩ := bs_aR (hj 0 _ rfl)
    obtain rfl := ra0.eq H (p := 69) rfl
    clear hpre hj
    have F0 : sf_fr [(139, 0, 132)] t hp t hp := sf_fr_rf
    refine bs_fin (K := kq_X11_tries_h) (L := L_X11_tries) (nL := 2) (Nat.le_of_ble_eq_true rfl) ?_
    obtain ⟨Q, hQ⟩ : ∃ Q : ab_O → Prop, Q = (fun o => ∃ t', sf_h t' o.2 ∧ sf_fr (kq_X11_tries_h).2.2.2.2 t hp t' o.2 ∧ sf_an t' o.2.1 (kq_X11_tries_h).2.2.1 o.1 ∧ sf_S (sf_v1 o.1 [.ref 69] o.2) (kq_X11_tries_h).2.2.2.1) := ⟨_, rfl⟩
    rw [← hQ]
    refine (show Ev (ab_T L_X11_tries) 0 ([some (.ref 69), none], [], (0, 0), hp) Q from ?_)
    refine bs_lit (k := 0) rfl rfl fun z1 hz1 => ?_
    refine Ev.step (j := 2) (s' := ([some (.ref 69), some (.int z1)], [], (0, 0), hp)) rfl rfl ?_
    exact by
     refine bs_loop (ι := Int32 × ab_H × (Nat → Nat)) (fun ⟨k2, hp3, t4⟩ => ([some (.ref 69), some (.int k2)], [], (0, 0), hp3)) (fun ⟨k2, hp3, t4⟩ => (sf_h t4 hp3) ∧ (sf_fr [(139, 0, 132)] t hp t4 hp3) ∧ (0 ≤ k2.toInt ∧ k2.toInt ≤ 133)) (fun ⟨k2, hp3, t4⟩ => (133 - k2.toInt).toNat) ?_ (z1, hp, t) ⟨H, F0, (by first | omega | assumption)⟩
     rintro ⟨k2, hp3, t4⟩ ⟨Hhp3, Fhp3, i6⟩ ih5
     refine (show Ev _ 2 ([some (.ref 69), some (.int k2)], [], (0, 0), hp3) _ from ?_)
     refine Ev.step (j := 3) (s' := ([some (.ref 69), some (.int k2)], [.int k2], (0, 0), hp3)) rfl rfl ?_
     refine bs_lit (k := 133) rfl rfl fun z7 hz7 => ?_
     refine bs_ge rfl (fun c8 => ?_) (fun c8 => ?_)
     · skip
       exact Ev.ret rfl rfl (by rw [hQ]; exact ⟨t4, Hhp3, Fhp3, bs_anU, sf_S_nil⟩)
     · skip
       refine Ev.step (j := 10) (s' := ([some (.ref 69), some (.int k2)], [.ref 69], (0, 0), hp3)) rfl rfl ?_
       refine bs_getU (g := 11) (g1 := 139) rfl rfl Hhp3 (bs_R.uq Hhp3 (g := 11) rfl) (by decide) rfl rfl ?_
       exact by
        refine Ev.step (j := 14) (s' := ([some (.ref 69), some (.int k2)], [.int k2, .ref 78], (0, 0), hp3)) rfl rfl ?_
        refine Ev.step (j := 15) (s' := ([some (.ref 69), some (.int k2)], [.ref 69, .int k2, .ref 78], (0, 0), hp3)) rfl rfl ?_
        refine bs_getU (g := 11) (g1 := 132) rfl rfl Hhp3 (bs_R.uq Hhp3 (g := 11) rfl) (by decide) rfl rfl ?_
        refine bs_lit (k := 120) rfl rfl fun z9 hz9 => ?_
        refine Ev.step (j := 21) (s' := ([some (.ref 69), some (.int k2)], [.int k2, .int z9, .ref 71, .int k2, .ref 78], (0, 0), hp3)) rfl rfl ?_
        first | (refine bs_add rfl (by omega) (by omega) fun z10 hz10 => ?_) | (refine bs_any rfl fun z10 => ?_)
        have rz10 := n_range z10
        refine bs_ldK (g := 132) rfl Hhp3 (bs_R.uq Hhp3 (g := 132) rfl) (by decide) rfl (by omega) (by show _ < ((434 : Nat) : Int); omega) fun z11 hz11 kz11 => ?_
        have rz11 := n_range z11
        have kv : ∀ n, sf_v t4 n (sf_e (sf_A 139).2.2 k2.toInt.toNat) (.int z11) := fun n => by
          have h1 := sg_132 (z10.toInt.toNat - 120) (by omega)
          have h2 := sg_139 k2.toInt.toNat (by omega)
          rw [show 120 + (z10.toInt.toNat - 120) = z10.toInt.toNat by omega] at h1
          have h3 := kz11 n
          rw [h1] at h3
          rw [h2]
          have e9 : 120 + k2.toInt.toNat % 133 = 120 + (z10.toInt.toNat - 120) % 133 := by omega
          rw [e9]
          exact h3
        refine bs_stK (W := [(139, 0, 132)]) (g := 139) 0 132 rfl Hhp3 (bs_R.uq Hhp3 (g := 139) rfl) (by decide) rfl (by decide) rfl rfl (by omega) (by omega) (kv _) fun hp12 Hhp12 fhp12 rhp12 ehp12 qhp12 nhp12 => ?_
        clear kv
        have Fhp12 := sf_fr_tr Fhp3 (sf_fr_wider (W := [(139, 0, 132)]) rfl fhp12)
        refine bs_iinc (1) rfl rfl rfl rfl (by omega) (by omega) fun z13 hz13 => ?_
        exact by
         refine (show Ev _ 27 ([some (.ref 69), some (.int z13)], [], (0, 0), hp12) _ from ?_)
         refine Ev.step (j := 2) (s' := ([some (.ref 69), some (.int z13)], [], (0, 0), hp12)) rfl rfl ?_
         refine ih5 (z13, hp12, t4) ⟨Hhp12, Fhp12, (by first | omega | assumption)⟩ ?_
         show (133 - z13.toInt).toNat < (133 - k2.toInt).toNat
         omega
def kq_X11_back_h : sf_Q := ([(1, 11, 0)], [], none, [], [(132, 120, 252)])
set_option maxRecDepth 100000 in
set_option maxHeartbeats 4000000 in
theorem ct_X11_back_h : sf_ct kq_X11_back_h Z_X11_back := by
  intro t hp as H hl hj hpre
  match as, hl with
  | [v0], _ =>
    obtain ⟨a0, rfl, ra0⟩ := bs_aR (hj 0 _ rfl)
    obtain rfl := ra0.eq H (p := 69) rfl
    clear hpre hj
    have F0 : sf_fr [(132, 120, 252)] t hp t hp := sf_fr_rf
    refine bs_fin (K := kq_X11_back_h) (L := L_X11_back) (nL := 2) (Nat.le_of_ble_eq_true rfl) ?_
    obtain ⟨Q, hQ⟩ : ∃ Q : ab_O → Prop, Q = (fun o => ∃ t', sf_h t' o.2 ∧ sf_fr (kq_X11_back_h).2.2.2.2 t hp t' o.2 ∧ sf_an t' o.2.1 (kq_X11_back_h).2.2.1 o.1 ∧ sf_S (sf_v1 o.1 [.ref 69] o.2) (kq_X11_back_h).2.2.2.1) := ⟨_, rfl⟩
    rw [← hQ]
    refine (show Ev (ab_T L_X11_back) 0 ([some (.ref 69), none], [], (0, 0), hp) Q from ?_)
    refine bs_lit (k := 0) rfl rfl fun z1 hz1 => ?_
    refine Ev.step (j := 2) (s' := ([some (.ref 69), some (.int z1)], [], (0, 0), hp)) rfl rfl ?_
    exact by
     refine bs_loop (ι := Int32 × ab_H × (Nat → Nat)) (fun ⟨k2, hp3, t4⟩ => ([some (.ref 69), some (.int k2)], [], (0, 0), hp3)) (fun ⟨k2, hp3, t4⟩ => (sf_h t4 hp3) ∧ (sf_fr [(132, 120, 252)] t hp t4 hp3) ∧ (0 ≤ k2.toInt ∧ k2.toInt ≤ 133)) (fun ⟨k2, hp3, t4⟩ => (133 - k2.toInt).toNat) ?_ (z1, hp, t) ⟨H, F0, (by first | omega | assumption)⟩
     rintro ⟨k2, hp3, t4⟩ ⟨Hhp3, Fhp3, i6⟩ ih5
     refine (show Ev _ 2 ([some (.ref 69), some (.int k2)], [], (0, 0), hp3) _ from ?_)
     refine Ev.step (j := 3) (s' := ([some (.ref 69), some (.int k2)], [.int k2], (0, 0), hp3)) rfl rfl ?_
     refine bs_lit (k := 133) rfl rfl fun z7 hz7 => ?_
     refine bs_ge rfl (fun c8 => ?_) (fun c8 => ?_)
     · skip
       exact Ev.ret rfl rfl (by rw [hQ]; exact ⟨t4, Hhp3, Fhp3, bs_anU, sf_S_nil⟩)
     · skip
       refine Ev.step (j := 10) (s' := ([some (.ref 69), some (.int k2)], [.ref 69], (0, 0), hp3)) rfl rfl ?_
       refine bs_getU (g := 11) (g1 := 132) rfl rfl Hhp3 (bs_R.uq Hhp3 (g := 11) rfl) (by decide) rfl rfl ?_
       exact by
        refine bs_lit (k := 120) rfl rfl fun z9 hz9 => ?_
        refine Ev.step (j := 16) (s' := ([some (.ref 69), some (.int k2)], [.int k2, .int z9, .ref 71], (0, 0), hp3)) rfl rfl ?_
        first | (refine bs_add rfl (by omega) (by omega) fun z10 hz10 => ?_) | (refine bs_any rfl fun z10 => ?_)
        have rz10 := n_range z10
        refine Ev.step (j := 18) (s' := ([some (.ref 69), some (.int k2)], [.ref 69, .int z10, .ref 71], (0, 0), hp3)) rfl rfl ?_
        refine bs_getU (g := 11) (g1 := 139) rfl rfl Hhp3 (bs_R.uq Hhp3 (g := 11) rfl) (by decide) rfl rfl ?_
        refine Ev.step (j := 22) (s' := ([some (.ref 69), some (.int k2)], [.int k2, .ref 78, .int z10, .ref 71], (0, 0), hp3)) rfl rfl ?_
        refine bs_ldK (g := 139) rfl Hhp3 (bs_R.uq Hhp3 (g := 139) rfl) (by decide) rfl (by omega) (by show _ < ((133 : Nat) : Int); omega) fun z11 hz11 kz11 => ?_
        have rz11 := n_range z11
        have kv : ∀ n, sf_v t4 n (sf_e (sf_A 132).2.2 z10.toInt.toNat) (.int z11) := fun n => by
          have h1 := sg_139 k2.toInt.toNat (by omega)
          have h2 := sg_132 (z10.toInt.toNat - 120) (by omega)
          rw [show 120 + (z10.toInt.toNat - 120) = z10.toInt.toNat by omega] at h2
          have h3 := kz11 n
          rw [h1] at h3
          rw [h2]
          have e9 : 120 + (z10.toInt.toNat - 120) % 133 = 120 + k2.toInt.toNat % 133 := by omega
          rw [e9]
          exact h3
        refine bs_stK (W := [(132, 120, 252)]) (g := 132) 120 252 rfl Hhp3 (bs_R.uq Hhp3 (g := 132) rfl) (by decide) rfl (by decide) rfl rfl (by omega) (by omega) (kv _) fun hp12 Hhp12 fhp12 rhp12 ehp12 qhp12 nhp12 => ?_
        clear kv
        have Fhp12 := sf_fr_tr Fhp3 (sf_fr_wider (W := [(132, 120, 252)]) rfl fhp12)
        refine bs_iinc (1) rfl rfl rfl rfl (by omega) (by omega) fun z13 hz13 => ?_
        exact by
         refine (show Ev _ 27 ([some (.ref 69), some (.int z13)], [], (0, 0), hp12) _ from ?_)
         refine Ev.step (j := 2) (s' := ([some (.ref 69), some (.int z13)], [], (0, 0), hp12)) rfl rfl ?_
         refine ih5 (z13, hp12, t4) ⟨Hhp12, Fhp12, (by first | omega | assumption)⟩ ?_
         show (133 - z13.toInt).toNat < (133 - k2.toInt).toNat
         omega
def kq_X11_keep_h : sf_Q := ([(1, 11, 0)], [], none, [], [(11, 25, 25), (138, 0, 1063)])
set_option maxRecDepth 100000 in
set_option maxHeartbeats 4000000 in
theorem ct_X11_keep_h : sf_ct kq_X11_keep_h Z_X11_keep := by
  intro t hp as H hl hj hpre
  match as, hl with
  | [v0], _ =>
    obtain ⟨a0, rfl, ra0⟩ := bs_aR (hj 0 _ rfl)
    obtain rfl := ra0.eq H (p := 69) rfl
    clear hpre hj
    have F0 : sf_fr [(11, 25, 25), (138, 0, 1063)] t hp t hp := sf_fr_rf
    refine bs_fin (K := kq_X11_keep_h) (L := L_X11_keep) (nL := 2) (Nat.le_of_ble_eq_true rfl) ?_
    obtain ⟨Q, hQ⟩ : ∃ Q : ab_O → Prop, Q = (fun o => ∃ t', sf_h t' o.2 ∧ sf_fr (kq_X11_keep_h).2.2.2.2 t hp t' o.2 ∧ sf_an t' o.2.1 (kq_X11_keep_h).2.2.1 o.1 ∧ sf_S (sf_v1 o.1 [.ref 69] o.2) (kq_X11_keep_h).2.2.2.1) := ⟨_, rfl⟩
    rw [← hQ]
    refine (show Ev (ab_T L_X11_keep) 0 ([some (.ref 69), none], [], (0, 0), hp) Q from ?_)
    refine Ev.step (j := 1) (s' := ([some (.ref 69), none], [.ref 69], (0, 0), hp)) rfl rfl ?_
    refine bs_getI 11 rfl rfl rfl H (bs_R.uq H (g := 11) rfl) (by decide) rfl fun z1 hz1 lz1 gz1 => ?_
    exact by
     refine bs_lit (k := 8) rfl rfl fun z2 hz2 => ?_
     refine bs_ne rfl (fun c3 => ?_) (fun c3 => ?_)
     · skip
       refine bs_lit (k := 0) rfl rfl fun z4 hz4 => ?_
       refine Ev.step (j := 48) (s' := ([some (.ref 69), some (.int z4)], [], (0, 0), hp)) rfl rfl ?_
       refine bs_loop (ι := Int32 × ab_H × (Nat → Nat)) (fun ⟨k5, hp6, t7⟩ => ([some (.ref 69), some (.int k5)], [], (0, 0), hp6)) (fun ⟨k5, hp6, t7⟩ => (sf_h t7 hp6) ∧ (sf_fr [(11, 25, 25), (138, 0, 1063)] t hp t7 hp6) ∧ (sf_rd hp6 69 25 = some z1.toInt) ∧ (0 ≤ k5.toInt ∧ k5.toInt ≤ 133)) (fun ⟨k5, hp6, t7⟩ => (133 - k5.toInt).toNat) ?_ (z4, hp, t) ⟨H, F0, hz1, (by first | omega | assumption)⟩
       rintro ⟨k5, hp6, t7⟩ ⟨Hhp6, Fhp6, i9, i10⟩ ih8
       refine (show Ev _ 48 ([some (.ref 69), some (.int k5)], [], (0, 0), hp6) _ from ?_)
       refine Ev.step (j := 49) (s' := ([some (.ref 69), some (.int k5)], [.int k5], (0, 0), hp6)) rfl rfl ?_
       exact by
        refine bs_lit (k := 133) rfl rfl fun z11 hz11 => ?_
        refine bs_ge rfl (fun c12 => ?_) (fun c12 => ?_)
        · skip
          refine Ev.step (j := 86) (s' := ([some (.ref 69), some (.int k5)], [.ref 69], (0, 0), hp6)) rfl rfl ?_
          refine Ev.step (j := 87) (s' := ([some (.ref 69), some (.int k5)], [.ref 69, .ref 69], (0, 0), hp6)) rfl rfl ?_
          refine bs_getI 11 rfl rfl rfl Hhp6 (bs_R.uq Hhp6 (g := 11) rfl) (by decide) rfl fun z13 hz13 lz13 gz13 => ?_
          have e14 : z13.toInt = z1.toInt := Option.some.inj (hz13.symm.trans i9)
          refine bs_lit (k := 1) rfl rfl fun z15 hz15 => ?_
          first | (refine bs_add rfl (by omega) (by omega) fun z16 hz16 => ?_) | (refine bs_any rfl fun z16 => ?_)
          have rz16 := n_range z16
          refine bs_putI (W := [(11, 25, 25)]) (g := 11) rfl rfl Hhp6 (bs_R.uq Hhp6 (g := 11) rfl) (by decide) rfl rfl rfl rfl (Or.inl rfl) (by omega) (by omega) fun hp17 Hhp17 fhp17 rhp17 ehp17 qhp17 nhp17 => ?_
          have Fhp17 := sf_fr_tr Fhp6 (sf_fr_wider (W := [(11, 25, 25), (138, 0, 1063)]) rfl fhp17)
          exact Ev.ret rfl rfl (by rw [hQ]; exact ⟨t7, Hhp17, Fhp17, bs_anU, sf_S_nil⟩)
        · skip
          refine Ev.step (j := 56) (s' := ([some (.ref 69), some (.int k5)], [.ref 69], (0, 0), hp6)) rfl rfl ?_
          exact by
           refine bs_getU (g := 11) (g1 := 138) rfl rfl Hhp6 (bs_R.uq Hhp6 (g := 11) rfl) (by decide) rfl rfl ?_
           refine bs_lit (k := 133) rfl rfl fun z18 hz18 => ?_
           refine Ev.step (j := 63) (s' := ([some (.ref 69), some (.int k5)], [.ref 69, .int z18, .ref 77], (0, 0), hp6)) rfl rfl ?_
           refine bs_getI 11 rfl rfl rfl Hhp6 (bs_R.uq Hhp6 (g := 11) rfl) (by decide) rfl fun z19 hz19 lz19 gz19 => ?_
           have e20 : z19.toInt = z1.toInt := Option.some.inj (hz19.symm.trans i9)
           refine bs_mul (133) rfl (Or.inl hz18) (by rw [hz18]; omega) (by rw [hz18]; omega) fun z21 hz21 => ?_
           rw [hz18] at hz21
           refine Ev.step (j := 68) (s' := ([some (.ref 69), some (.int k5)], [.int k5, .int z21, .ref 77], (0, 0), hp6)) rfl rfl ?_
           first | (refine bs_add rfl (by omega) (by omega) fun z22 hz22 => ?_) | (refine bs_any rfl fun z22 => ?_)
           have rz22 := n_range z22
           refine Ev.step (j := 70) (s' := ([some (.ref 69), some (.int k5)], [.ref 69, .int z22, .ref 77], (0, 0), hp6)) rfl rfl ?_
           exact by
            refine bs_getU (g := 11) (g1 := 132) rfl rfl Hhp6 (bs_R.uq Hhp6 (g := 11) rfl) (by decide) rfl rfl ?_
            refine bs_lit (k := 120) rfl rfl fun z23 hz23 => ?_
            refine Ev.step (j := 76) (s' := ([some (.ref 69), some (.int k5)], [.int k5, .int z23, .ref 71, .int z22, .ref 77], (0, 0), hp6)) rfl rfl ?_
            first | (refine bs_add rfl (by omega) (by omega) fun z24 hz24 => ?_) | (refine bs_any rfl fun z24 => ?_)
            have rz24 := n_range z24
            refine bs_ldK (g := 132) rfl Hhp6 (bs_R.uq Hhp6 (g := 132) rfl) (by decide) rfl (by omega) (by show _ < ((434 : Nat) : Int); omega) fun z25 hz25 kz25 => ?_
            have rz25 := n_range z25
            have kv : ∀ n, sf_v t7 n (sf_e (sf_A 138).2.2 z22.toInt.toNat) (.int z25) := fun n => by
              have h1 := sg_132 (z24.toInt.toNat - 120) (by omega)
              have h2 := sg_138 z22.toInt.toNat (by omega)
              rw [show 120 + (z24.toInt.toNat - 120) = z24.toInt.toNat by omega] at h1
              have h3 := kz25 n
              rw [h1] at h3
              rw [h2]
              have e9 : 120 + z22.toInt.toNat % 133 = 120 + (z24.toInt.toNat - 120) % 133 := by omega
              rw [e9]
              exact h3
            refine bs_stK (W := [(138, 0, 1063)]) (g := 138) 0 1063 rfl Hhp6 (bs_R.uq Hhp6 (g := 138) rfl) (by decide) rfl (by decide) rfl rfl (by omega) (by omega) (kv _) fun hp26 Hhp26 fhp26 rhp26 ehp26 qhp26 nhp26 => ?_
            clear kv
            have Fhp26 := sf_fr_tr Fhp6 (sf_fr_wider (W := [(11, 25, 25), (138, 0, 1063)]) rfl fhp26)
            have h27 : sf_rd hp26 69 25 = some z1.toInt := (ehp26 _ _ (Or.inl (by decide))).trans i9
            refine bs_iinc (1) rfl rfl rfl rfl (by omega) (by omega) fun z28 hz28 => ?_
            exact by
             refine (show Ev _ 82 ([some (.ref 69), some (.int z28)], [], (0, 0), hp26) _ from ?_)
             refine Ev.step (j := 48) (s' := ([some (.ref 69), some (.int z28)], [], (0, 0), hp26)) rfl rfl ?_
             refine ih8 (z28, hp26, t7) ⟨Hhp26, Fhp26, h27, (by first | omega | assumption)⟩ ?_
             show (133 - z28.toInt).toNat < (133 - k5.toInt).toNat
             omega
     · skip
       have c29 : z1.toInt = 8 := by omega
       refine bs_lit (k := 0) rfl rfl fun z30 hz30 => ?_
       exact by
        refine Ev.step (j := 11) (s' := ([some (.ref 69), some (.int z30)], [], (0, 0), hp)) rfl rfl ?_
        refine bs_loop (ι := Int32 × ab_H × (Nat → Nat)) (fun ⟨k31, hp32, t33⟩ => ([some (.ref 69), some (.int k31)], [], (0, 0), hp32)) (fun ⟨k31, hp32, t33⟩ => (sf_h t33 hp32) ∧ (sf_fr [(11, 25, 25), (138, 0, 1063)] t hp t33 hp32) ∧ (0 ≤ k31.toInt ∧ k31.toInt ≤ 931)) (fun ⟨k31, hp32, t33⟩ => (931 - k31.toInt).toNat) ?_ (z30, hp, t) ⟨H, F0, (by first | omega | assumption)⟩
        rintro ⟨k31, hp32, t33⟩ ⟨Hhp32, Fhp32, i35⟩ ih34
        refine (show Ev _ 11 ([some (.ref 69), some (.int k31)], [], (0, 0), hp32) _ from ?_)
        refine Ev.step (j := 12) (s' := ([some (.ref 69), some (.int k31)], [.int k31], (0, 0), hp32)) rfl rfl ?_
        refine bs_lit (k := 931) rfl rfl fun z36 hz36 => ?_
        refine bs_ge rfl (fun c37 => ?_) (fun c37 => ?_)
        · skip
          refine Ev.step (j := 41) (s' := ([some (.ref 69), some (.int k31)], [.ref 69], (0, 0), hp32)) rfl rfl ?_
          exact by
           refine bs_lit (k := 7) rfl rfl fun z38 hz38 => ?_
           refine bs_putI (W := [(11, 25, 25)]) (g := 11) rfl rfl Hhp32 (bs_R.uq Hhp32 (g := 11) rfl) (by decide) rfl rfl rfl rfl (Or.inl rfl) (by omega) (by omega) fun hp39 Hhp39 fhp39 rhp39 ehp39 qhp39 nhp39 => ?_
           have Fhp39 := sf_fr_tr Fhp32 (sf_fr_wider (W := [(11, 25, 25), (138, 0, 1063)]) rfl fhp39)
           refine bs_lit (k := 0) rfl rfl fun z40 hz40 => ?_
           refine Ev.step (j := 48) (s' := ([some (.ref 69), some (.int z40)], [], (0, 0), hp39)) rfl rfl ?_
           refine bs_loop (ι := Int32 × ab_H × (Nat → Nat)) (fun ⟨k41, hp42, t43⟩ => ([some (.ref 69), some (.int k41)], [], (0, 0), hp42)) (fun ⟨k41, hp42, t43⟩ => (sf_h t43 hp42) ∧ (sf_fr [(11, 25, 25), (138, 0, 1063)] t hp t43 hp42) ∧ (sf_rd hp42 69 25 = some z38.toInt) ∧ (0 ≤ k41.toInt ∧ k41.toInt ≤ 133)) (fun ⟨k41, hp42, t43⟩ => (133 - k41.toInt).toNat) ?_ (z40, hp39, t33) ⟨Hhp39, Fhp39, rhp39, (by first | omega | assumption)⟩
           rintro ⟨k41, hp42, t43⟩ ⟨Hhp42, Fhp42, i45, i46⟩ ih44
           refine (show Ev _ 48 ([some (.ref 69), some (.int k41)], [], (0, 0), hp42) _ from ?_)
           exact by
            refine Ev.step (j := 49) (s' := ([some (.ref 69), some (.int k41)], [.int k41], (0, 0), hp42)) rfl rfl ?_
            refine bs_lit (k := 133) rfl rfl fun z47 hz47 => ?_
            refine bs_ge rfl (fun c48 => ?_) (fun c48 => ?_)
            · skip
              refine Ev.step (j := 86) (s' := ([some (.ref 69), some (.int k41)], [.ref 69], (0, 0), hp42)) rfl rfl ?_
              refine Ev.step (j := 87) (s' := ([some (.ref 69), some (.int k41)], [.ref 69, .ref 69], (0, 0), hp42)) rfl rfl ?_
              refine bs_getI 11 rfl rfl rfl Hhp42 (bs_R.uq Hhp42 (g := 11) rfl) (by decide) rfl fun z49 hz49 lz49 gz49 => ?_
              have e50 : z49.toInt = z38.toInt := Option.some.inj (hz49.symm.trans i45)
              refine bs_lit (k := 1) rfl rfl fun z51 hz51 => ?_
              first | (refine bs_add rfl (by omega) (by omega) fun z52 hz52 => ?_) | (refine bs_any rfl fun z52 => ?_)
              have rz52 := n_range z52
              refine bs_putI (W := [(11, 25, 25)]) (g := 11) rfl rfl Hhp42 (bs_R.uq Hhp42 (g := 11) rfl) (by decide) rfl rfl rfl rfl (Or.inl rfl) (by omega) (by omega) fun hp53 Hhp53 fhp53 rhp53 ehp53 qhp53 nhp53 => ?_
              have Fhp53 := sf_fr_tr Fhp42 (sf_fr_wider (W := [(11, 25, 25), (138, 0, 1063)]) rfl fhp53)
              exact Ev.ret rfl rfl (by rw [hQ]; exact ⟨t43, Hhp53, Fhp53, bs_anU, sf_S_nil⟩)
            · skip
              refine Ev.step (j := 56) (s' := ([some (.ref 69), some (.int k41)], [.ref 69], (0, 0), hp42)) rfl rfl ?_
              exact by
               refine bs_getU (g := 11) (g1 := 138) rfl rfl Hhp42 (bs_R.uq Hhp42 (g := 11) rfl) (by decide) rfl rfl ?_
               refine bs_lit (k := 133) rfl rfl fun z54 hz54 => ?_
               refine Ev.step (j := 63) (s' := ([some (.ref 69), some (.int k41)], [.ref 69, .int z54, .ref 77], (0, 0), hp42)) rfl rfl ?_
               refine bs_getI 11 rfl rfl rfl Hhp42 (bs_R.uq Hhp42 (g := 11) rfl) (by decide) rfl fun z55 hz55 lz55 gz55 => ?_
               have e56 : z55.toInt = z38.toInt := Option.some.inj (hz55.symm.trans i45)
               refine bs_mul (133) rfl (Or.inl hz54) (by rw [hz54]; omega) (by rw [hz54]; omega) fun z57 hz57 => ?_
               rw [hz54] at hz57
               refine Ev.step (j := 68) (s' := ([some (.ref 69), some (.int k41)], [.int k41, .int z57, .ref 77], (0, 0), hp42)) rfl rfl ?_
               first | (refine bs_add rfl (by omega) (by omega) fun z58 hz58 => ?_) | (refine bs_any rfl fun z58 => ?_)
               have rz58 := n_range z58
               refine Ev.step (j := 70) (s' := ([some (.ref 69), some (.int k41)], [.ref 69, .int z58, .ref 77], (0, 0), hp42)) rfl rfl ?_
               exact by
                refine bs_getU (g := 11) (g1 := 132) rfl rfl Hhp42 (bs_R.uq Hhp42 (g := 11) rfl) (by decide) rfl rfl ?_
                refine bs_lit (k := 120) rfl rfl fun z59 hz59 => ?_
                refine Ev.step (j := 76) (s' := ([some (.ref 69), some (.int k41)], [.int k41, .int z59, .ref 71, .int z58, .ref 77], (0, 0), hp42)) rfl rfl ?_
                first | (refine bs_add rfl (by omega) (by omega) fun z60 hz60 => ?_) | (refine bs_any rfl fun z60 => ?_)
                have rz60 := n_range z60
                refine bs_ldK (g := 132) rfl Hhp42 (bs_R.uq Hhp42 (g := 132) rfl) (by decide) rfl (by omega) (by show _ < ((434 : Nat) : Int); omega) fun z61 hz61 kz61 => ?_
                have rz61 := n_range z61
                have kv : ∀ n, sf_v t43 n (sf_e (sf_A 138).2.2 z58.toInt.toNat) (.int z61) := fun n => by
                  have h1 := sg_132 (z60.toInt.toNat - 120) (by omega)
                  have h2 := sg_138 z58.toInt.toNat (by omega)
                  rw [show 120 + (z60.toInt.toNat - 120) = z60.toInt.toNat by omega] at h1
                  have h3 := kz61 n
                  rw [h1] at h3
                  rw [h2]
                  have e9 : 120 + z58.toInt.toNat % 133 = 120 + (z60.toInt.toNat - 120) % 133 := by omega
                  rw [e9]
                  exact h3
                refine bs_stK (W := [(138, 0, 1063)]) (g := 138) 0 1063 rfl Hhp42 (bs_R.uq Hhp42 (g := 138) rfl) (by decide) rfl (by decide) rfl rfl (by omega) (by omega) (kv _) fun hp62 Hhp62 fhp62 rhp62 ehp62 qhp62 nhp62 => ?_
                clear kv
                have Fhp62 := sf_fr_tr Fhp42 (sf_fr_wider (W := [(11, 25, 25), (138, 0, 1063)]) rfl fhp62)
                have h63 : sf_rd hp62 69 25 = some z38.toInt := (ehp62 _ _ (Or.inl (by decide))).trans i45
                refine bs_iinc (1) rfl rfl rfl rfl (by omega) (by omega) fun z64 hz64 => ?_
                exact by
                 refine (show Ev _ 82 ([some (.ref 69), some (.int z64)], [], (0, 0), hp62) _ from ?_)
                 refine Ev.step (j := 48) (s' := ([some (.ref 69), some (.int z64)], [], (0, 0), hp62)) rfl rfl ?_
                 refine ih44 (z64, hp62, t43) ⟨Hhp62, Fhp62, h63, (by first | omega | assumption)⟩ ?_
                 show (133 - z64.toInt).toNat < (133 - k41.toInt).toNat
                 omega
        · skip
          refine Ev.step (j := 19) (s' := ([some (.ref 69), some (.int k31)], [.ref 69], (0, 0), hp32)) rfl rfl ?_
          exact by
           refine bs_getU (g := 11) (g1 := 138) rfl rfl Hhp32 (bs_R.uq Hhp32 (g := 11) rfl) (by decide) rfl rfl ?_
           refine Ev.step (j := 23) (s' := ([some (.ref 69), some (.int k31)], [.int k31, .ref 77], (0, 0), hp32)) rfl rfl ?_
           refine Ev.step (j := 24) (s' := ([some (.ref 69), some (.int k31)], [.ref 69, .int k31, .ref 77], (0, 0), hp32)) rfl rfl ?_
           refine bs_getU (g := 11) (g1 := 138) rfl rfl Hhp32 (bs_R.uq Hhp32 (g := 11) rfl) (by decide) rfl rfl ?_
           refine Ev.step (j := 28) (s' := ([some (.ref 69), some (.int k31)], [.int k31, .ref 77, .int k31, .ref 77], (0, 0), hp32)) rfl rfl ?_
           refine bs_lit (k := 133) rfl rfl fun z65 hz65 => ?_
           first | (refine bs_add rfl (by omega) (by omega) fun z66 hz66 => ?_) | (refine bs_any rfl fun z66 => ?_)
           have rz66 := n_range z66
           refine bs_ldK (g := 138) rfl Hhp32 (bs_R.uq Hhp32 (g := 138) rfl) (by decide) rfl (by omega) (by show _ < ((1064 : Nat) : Int); omega) fun z67 hz67 kz67 => ?_
           have rz67 := n_range z67
           have kv : ∀ n, sf_v t33 n (sf_e (sf_A 138).2.2 k31.toInt.toNat) (.int z67) := fun n => by
             have h1 := sg_138 z66.toInt.toNat (by omega)
             have h2 := sg_138 k31.toInt.toNat (by omega)
             have h3 := kz67 n
             rw [h1] at h3
             rw [h2]
             have e9 : 120 + k31.toInt.toNat % 133 = 120 + z66.toInt.toNat % 133 := by omega
             rw [e9]
             exact h3
           refine bs_stK (W := [(138, 0, 1063)]) (g := 138) 0 1063 rfl Hhp32 (bs_R.uq Hhp32 (g := 138) rfl) (by decide) rfl (by decide) rfl rfl (by omega) (by omega) (kv _) fun hp68 Hhp68 fhp68 rhp68 ehp68 qhp68 nhp68 => ?_
           clear kv
           have Fhp68 := sf_fr_tr Fhp32 (sf_fr_wider (W := [(11, 25, 25), (138, 0, 1063)]) rfl fhp68)
           refine bs_iinc (1) rfl rfl rfl rfl (by omega) (by omega) fun z69 hz69 => ?_
           exact by
            refine (show Ev _ 37 ([some (.ref 69), some (.int z69)], [], (0, 0), hp68) _ from ?_)
            refine Ev.step (j := 11) (s' := ([some (.ref 69), some (.int z69)], [], (0, 0), hp68)) rfl rfl ?_
            refine ih34 (z69, hp68, t33) ⟨Hhp68, Fhp68, (by first | omega | assumption)⟩ ?_
            show (931 - z69.toInt).toNat < (931 - k31.toInt).toNat
            omega
def kq_X11_undo_h : sf_Q := ([(1, 11, 0)], [], some (0, 0, 0), [], [(11, 0, 0), (11, 25, 25), (132, 120, 252)])
set_option maxRecDepth 100000 in
set_option maxHeartbeats 4000000 in
theorem ct_X11_undo_h : sf_ct kq_X11_undo_h Z_X11_undo := by
  intro t hp as H hl hj hpre
  match as, hl with
  | [v0], _ =>
    obtain ⟨a0, rfl, ra0⟩ := bs_aR (hj 0 _ rfl)
    obtain rfl := ra0.eq H (p := 69) rfl
    clear hpre hj
    have F0 : sf_fr [(11, 0, 0), (11, 25, 25), (132, 120, 252)] t hp t hp := sf_fr_rf
    refine bs_fin (K := kq_X11_undo_h) (L := L_X11_undo) (nL := 2) (Nat.le_of_ble_eq_true rfl) ?_
    obtain ⟨Q, hQ⟩ : ∃ Q : ab_O → Prop, Q = (fun o => ∃ t', sf_h t' o.2 ∧ sf_fr (kq_X11_undo_h).2.2.2.2 t hp t' o.2 ∧ sf_an t' o.2.1 (kq_X11_undo_h).2.2.1 o.1 ∧ sf_S (sf_v1 o.1 [.ref 69] o.2) (kq_X11_undo_h).2.2.2.1) := ⟨_, rfl⟩
    rw [← hQ]
    refine (show Ev (ab_T L_X11_undo) 0 ([some (.ref 69), none], [], (0, 0), hp) Q from ?_)
    refine Ev.step (j := 1) (s' := ([some (.ref 69), none], [.ref 69], (0, 0), hp)) rfl rfl ?_
    refine bs_lit (k := 0) rfl rfl fun z1 hz1 => ?_
    exact by
     refine bs_putI (W := [(11, 0, 0)]) (g := 11) rfl rfl H (bs_R.uq H (g := 11) rfl) (by decide) rfl rfl rfl rfl (Or.inl rfl) (by omega) (by omega) fun hp2 Hhp2 fhp2 rhp2 ehp2 qhp2 nhp2 => ?_
     have Fhp2 := sf_fr_tr F0 (sf_fr_wider (W := [(11, 0, 0), (11, 25, 25), (132, 120, 252)]) rfl fhp2)
     refine Ev.step (j := 6) (s' := ([some (.ref 69), none], [.ref 69], (0, 0), hp2)) rfl rfl ?_
     refine bs_getI 11 rfl rfl rfl Hhp2 (bs_R.uq Hhp2 (g := 11) rfl) (by decide) rfl fun z3 hz3 lz3 gz3 => ?_
     refine bs_ifne rfl (fun c4 => ?_) (fun c4 => ?_)
     · skip
       refine Ev.step (j := 15) (s' := ([some (.ref 69), none], [.ref 69], (0, 0), hp2)) rfl rfl ?_
       refine Ev.step (j := 16) (s' := ([some (.ref 69), none], [.ref 69, .ref 69], (0, 0), hp2)) rfl rfl ?_
       refine bs_getI 11 rfl rfl rfl Hhp2 (bs_R.uq Hhp2 (g := 11) rfl) (by decide) rfl fun z5 hz5 lz5 gz5 => ?_
       have e6 : z5.toInt = z3.toInt := Option.some.inj (hz5.symm.trans hz3)
       refine bs_lit (k := 1) rfl rfl fun z7 hz7 => ?_
       first | (refine bs_sub rfl (by omega) (by omega) fun z8 hz8 => ?_) | (refine bs_any rfl fun z8 => ?_)
       have rz8 := n_range z8
       refine bs_putI (W := [(11, 25, 25)]) (g := 11) rfl rfl Hhp2 (bs_R.uq Hhp2 (g := 11) rfl) (by decide) rfl rfl rfl rfl (Or.inl rfl) (by omega) (by omega) fun hp9 Hhp9 fhp9 rhp9 ehp9 qhp9 nhp9 => ?_
       have Fhp9 := sf_fr_tr Fhp2 (sf_fr_wider (W := [(11, 0, 0), (11, 25, 25), (132, 120, 252)]) rfl fhp9)
       have h10 : sf_rd hp9 69 0 = some z1.toInt := (ehp9 _ _ (Or.inr (by omega))).trans rhp2
       refine bs_lit (k := 0) rfl rfl fun z11 hz11 => ?_
       exact by
        refine Ev.step (j := 26) (s' := ([some (.ref 69), some (.int z11)], [], (0, 0), hp9)) rfl rfl ?_
        refine bs_loop (ι := Int32 × ab_H × (Nat → Nat)) (fun ⟨k12, hp13, t14⟩ => ([some (.ref 69), some (.int k12)], [], (0, 0), hp13)) (fun ⟨k12, hp13, t14⟩ => (sf_h t14 hp13) ∧ (sf_fr [(11, 0, 0), (11, 25, 25), (132, 120, 252)] t hp t14 hp13) ∧ (sf_rd hp13 69 25 = some z8.toInt) ∧ (0 ≤ k12.toInt ∧ k12.toInt ≤ 133)) (fun ⟨k12, hp13, t14⟩ => (133 - k12.toInt).toNat) ?_ (z11, hp9, t) ⟨Hhp9, Fhp9, rhp9, (by first | omega | assumption)⟩
        rintro ⟨k12, hp13, t14⟩ ⟨Hhp13, Fhp13, i16, i17⟩ ih15
        refine (show Ev _ 26 ([some (.ref 69), some (.int k12)], [], (0, 0), hp13) _ from ?_)
        refine Ev.step (j := 27) (s' := ([some (.ref 69), some (.int k12)], [.int k12], (0, 0), hp13)) rfl rfl ?_
        refine bs_lit (k := 133) rfl rfl fun z18 hz18 => ?_
        refine bs_ge rfl (fun c19 => ?_) (fun c19 => ?_)
        · skip
          refine Ev.step (j := 64) (s' := ([some (.ref 69), some (.int k12)], [.ref 69], (0, 0), hp13)) rfl rfl ?_
          exact by
           refine bs_getI 11 rfl rfl rfl Hhp13 (bs_R.uq Hhp13 (g := 11) rfl) (by decide) rfl fun z20 hz20 lz20 gz20 => ?_
           have e21 : z20.toInt = z8.toInt := Option.some.inj (hz20.symm.trans i16)
           exact Ev.ret rfl rfl (by rw [hQ]; exact ⟨t14, Hhp13, Fhp13, bs_an0, sf_S_nil⟩)
        · skip
          refine Ev.step (j := 34) (s' := ([some (.ref 69), some (.int k12)], [.ref 69], (0, 0), hp13)) rfl rfl ?_
          exact by
           refine bs_getU (g := 11) (g1 := 132) rfl rfl Hhp13 (bs_R.uq Hhp13 (g := 11) rfl) (by decide) rfl rfl ?_
           refine bs_lit (k := 120) rfl rfl fun z22 hz22 => ?_
           refine Ev.step (j := 40) (s' := ([some (.ref 69), some (.int k12)], [.int k12, .int z22, .ref 71], (0, 0), hp13)) rfl rfl ?_
           first | (refine bs_add rfl (by omega) (by omega) fun z23 hz23 => ?_) | (refine bs_any rfl fun z23 => ?_)
           have rz23 := n_range z23
           refine Ev.step (j := 42) (s' := ([some (.ref 69), some (.int k12)], [.ref 69, .int z23, .ref 71], (0, 0), hp13)) rfl rfl ?_
           refine bs_getU (g := 11) (g1 := 138) rfl rfl Hhp13 (bs_R.uq Hhp13 (g := 11) rfl) (by decide) rfl rfl ?_
           refine bs_lit (k := 133) rfl rfl fun z24 hz24 => ?_
           exact by
            refine Ev.step (j := 49) (s' := ([some (.ref 69), some (.int k12)], [.ref 69, .int z24, .ref 77, .int z23, .ref 71], (0, 0), hp13)) rfl rfl ?_
            refine bs_getI 11 rfl rfl rfl Hhp13 (bs_R.uq Hhp13 (g := 11) rfl) (by decide) rfl fun z25 hz25 lz25 gz25 => ?_
            have e26 : z25.toInt = z8.toInt := Option.some.inj (hz25.symm.trans i16)
            refine bs_mul (133) rfl (Or.inl hz24) (by rw [hz24]; omega) (by rw [hz24]; omega) fun z27 hz27 => ?_
            rw [hz24] at hz27
            refine Ev.step (j := 54) (s' := ([some (.ref 69), some (.int k12)], [.int k12, .int z27, .ref 77, .int z23, .ref 71], (0, 0), hp13)) rfl rfl ?_
            first | (refine bs_add rfl (by omega) (by omega) fun z28 hz28 => ?_) | (refine bs_any rfl fun z28 => ?_)
            have rz28 := n_range z28
            refine bs_ldK (g := 138) rfl Hhp13 (bs_R.uq Hhp13 (g := 138) rfl) (by decide) rfl (by omega) (by show _ < ((1064 : Nat) : Int); omega) fun z29 hz29 kz29 => ?_
            have rz29 := n_range z29
            have kv : ∀ n, sf_v t14 n (sf_e (sf_A 132).2.2 z23.toInt.toNat) (.int z29) := fun n => by
              have h1 := sg_138 z28.toInt.toNat (by omega)
              have h2 := sg_132 (z23.toInt.toNat - 120) (by omega)
              rw [show 120 + (z23.toInt.toNat - 120) = z23.toInt.toNat by omega] at h2
              have h3 := kz29 n
              rw [h1] at h3
              rw [h2]
              have e9 : 120 + (z23.toInt.toNat - 120) % 133 = 120 + z28.toInt.toNat % 133 := by omega
              rw [e9]
              exact h3
            refine bs_stK (W := [(132, 120, 252)]) (g := 132) 120 252 rfl Hhp13 (bs_R.uq Hhp13 (g := 132) rfl) (by decide) rfl (by decide) rfl rfl (by omega) (by omega) (kv _) fun hp30 Hhp30 fhp30 rhp30 ehp30 qhp30 nhp30 => ?_
            clear kv
            have Fhp30 := sf_fr_tr Fhp13 (sf_fr_wider (W := [(11, 0, 0), (11, 25, 25), (132, 120, 252)]) rfl fhp30)
            have h31 : sf_rd hp30 69 25 = some z8.toInt := (ehp30 _ _ (Or.inl (by decide))).trans i16
            refine bs_iinc (1) rfl rfl rfl rfl (by omega) (by omega) fun z32 hz32 => ?_
            exact by
             refine (show Ev _ 60 ([some (.ref 69), some (.int z32)], [], (0, 0), hp30) _ from ?_)
             refine Ev.step (j := 26) (s' := ([some (.ref 69), some (.int z32)], [], (0, 0), hp30)) rfl rfl ?_
             refine ih15 (z32, hp30, t14) ⟨Hhp30, Fhp30, h31, (by first | omega | assumption)⟩ ?_
             show (133 - z32.toInt).toNat < (133 - k12.toInt).toNat
             omega
     · skip
       have c33 : z3.toInt = 0 := by omega
       refine bs_lit (k := -1) rfl rfl fun z34 hz34 => ?_
       exact Ev.ret rfl rfl (by rw [hQ]; exact ⟨t, Hhp2, Fhp2, bs_an0, sf_S_nil⟩)
def kq_X11_hoard_h : sf_Q := ([(1, 11, 0), (0, 0, 0), (0, 0, 0), (0, 0, 0)], [], some (0, 0, 0), [], [(11, 0, 0), (11, 25, 25), (132, 124, 147), (138, 0, 1063)])
set_option maxRecDepth 100000 in
set_option maxHeartbeats 4000000 in
theorem ct_X11_hoard_h : sf_ct kq_X11_hoard_h Z_X11_hoard := by
  intro t hp as H hl hj hpre
  match as, hl with
  | [v0, v1, v2, v3], _ =>
    obtain ⟨a0, rfl, ra0⟩ := bs_aR (hj 0 _ rfl)
    obtain rfl := ra0.eq H (p := 69) rfl
    obtain ⟨x1, rfl⟩ := bs_aI (hj 1 _ rfl)
    have rg1 := n_range x1
    obtain ⟨x2, rfl⟩ := bs_aI (hj 2 _ rfl)
    have rg2 := n_range x2
    obtain ⟨x3, rfl⟩ := bs_aI (hj 3 _ rfl)
    have rg3 := n_range x3
    clear hpre hj
    have F0 : sf_fr [(11, 0, 0), (11, 25, 25), (132, 124, 147), (138, 0, 1063)] t hp t hp := sf_fr_rf
    refine bs_fin (K := kq_X11_hoard_h) (L := (L_X11_hoard Z_X11_isPlace Z_X11_isIn Z_X11_cell Z_X11_whyHoard Z_X11_keep Z_X11_hoards)) (nL := 4) (Nat.le_of_ble_eq_true rfl) ?_
    obtain ⟨Q, hQ⟩ : ∃ Q : ab_O → Prop, Q = (fun o => ∃ t', sf_h t' o.2 ∧ sf_fr (kq_X11_hoard_h).2.2.2.2 t hp t' o.2 ∧ sf_an t' o.2.1 (kq_X11_hoard_h).2.2.1 o.1 ∧ sf_S (sf_v1 o.1 [.ref 69, .int x1, .int x2, .int x3] o.2) (kq_X11_hoard_h).2.2.2.1) := ⟨_, rfl⟩
    rw [← hQ]
    refine (show Ev (ab_T (L_X11_hoard Z_X11_isPlace Z_X11_isIn Z_X11_cell Z_X11_whyHoard Z_X11_keep Z_X11_hoards)) 0 ([some (.ref 69), some (.int x1), some (.int x2), some (.int x3)], [], (0, 0), hp) Q from ?_)
    exact by
     refine Ev.step (j := 1) (s' := ([some (.ref 69), some (.int x1), some (.int x2), some (.int x3)], [.ref 69], (0, 0), hp)) rfl rfl ?_
     refine bs_lit (k := 0) rfl rfl fun z1 hz1 => ?_
     refine bs_putI (W := [(11, 0, 0)]) (g := 11) rfl rfl H (bs_R.uq H (g := 11) rfl) (by decide) rfl rfl rfl rfl (Or.inl rfl) (by omega) (by omega) fun hp2 Hhp2 fhp2 rhp2 ehp2 qhp2 nhp2 => ?_
     have Fhp2 := sf_fr_tr F0 (sf_fr_wider (W := [(11, 0, 0), (11, 25, 25), (132, 124, 147), (138, 0, 1063)]) rfl fhp2)
     refine Ev.step (j := 6) (s' := ([some (.ref 69), some (.int x1), some (.int x2), some (.int x3)], [.ref 69], (0, 0), hp2)) rfl rfl ?_
     refine Ev.step (j := 7) (s' := ([some (.ref 69), some (.int x1), some (.int x2), some (.int x3)], [.int x1, .ref 69], (0, 0), hp2)) rfl rfl ?_
     refine Ev.step (j := 8) (s' := ([some (.ref 69), some (.int x1), some (.int x2), some (.int x3)], [.int x2, .int x1, .ref 69], (0, 0), hp2)) rfl rfl ?_
     refine Ev.inl (L := (L_X11_isPlace Z_X11_isGood Z_X11_isShore)) (nL := 3) rfl (bs_rcv (g := 11) Hhp2 (bs_R.uq Hhp2 (g := 11) rfl) (by decide) rfl) rfl (Nat.le_of_ble_eq_true rfl) ?_
     generalize hQ3 : (fun (o : ab_O) => Ev _ _ _ _) = Q3
     refine (show Ev (ab_T (L_X11_isPlace Z_X11_isGood Z_X11_isShore)) 0 ([some (.ref 69), some (.int x1), some (.int x2)], [], (0, 0), hp2) Q3 from ?_)
     exact by
      refine Ev.step (j := 1) (s' := ([some (.ref 69), some (.int x1), some (.int x2)], [.ref 69], (0, 0), hp2)) rfl rfl ?_
      refine Ev.step (j := 2) (s' := ([some (.ref 69), some (.int x1), some (.int x2)], [.int x1, .ref 69], (0, 0), hp2)) rfl rfl ?_
      refine Ev.inl (L := (L_X11_isGood Z_X11_isIn)) (nL := 2) rfl (bs_rcv (g := 11) Hhp2 (bs_R.uq Hhp2 (g := 11) rfl) (by decide) rfl) rfl (Nat.le_of_ble_eq_true rfl) ?_
      generalize hQ4 : (fun (o : ab_O) => Ev _ _ _ _) = Q4
      refine (show Ev (ab_T (L_X11_isGood Z_X11_isIn)) 0 ([some (.ref 69), some (.int x1)], [], (0, 0), hp2) Q4 from ?_)
      refine Ev.step (j := 1) (s' := ([some (.ref 69), some (.int x1)], [.int x1], (0, 0), hp2)) rfl rfl ?_
      refine bs_lit (k := 0) rfl rfl fun z5 hz5 => ?_
      refine Ev.step (j := 3) (s' := ([some (.ref 69), some (.int x1)], [.ref 69, .int z5, .int x1], (0, 0), hp2)) rfl rfl ?_
      refine bs_getU (g := 11) (g1 := 132) rfl rfl Hhp2 (bs_R.uq Hhp2 (g := 11) rfl) (by decide) rfl rfl ?_
      exact by
       refine bs_lit (k := 0) rfl rfl fun z6 hz6 => ?_
       refine bs_ld (g := 132) 0 0 (0, 6) rfl Hhp2 (bs_R.uq Hhp2 (g := 132) rfl) (by decide) rfl (by decide) (by decide) rfl (by decide) (by omega) (by omega) fun z7 hz7 lz7 gz7 => ?_
       dsimp only at lz7 gz7
       replace hz7 := bs_at hz7 (show z6.toInt.toNat = 0 by omega)
       refine bs_lit (k := 1) rfl rfl fun z8 hz8 => ?_
       first | (refine bs_sub rfl (by omega) (by omega) fun z9 hz9 => ?_) | (refine bs_any rfl fun z9 => ?_)
       have rz9 := n_range z9
       refine Ev.inlS (L := L_X11_isIn) (nL := 3) rfl rfl (Nat.le_of_ble_eq_true rfl) ?_
       generalize hQ10 : (fun (o : ab_O) => Ev _ _ _ _) = Q10
       refine (show Ev (ab_T L_X11_isIn) 0 ([some (.int x1), some (.int z5), some (.int z9)], [], (0, 0), hp2) Q10 from ?_)
       exact by
        refine Ev.step (j := 1) (s' := ([some (.int x1), some (.int z5), some (.int z9)], [.int x1], (0, 0), hp2)) rfl rfl ?_
        refine Ev.step (j := 2) (s' := ([some (.int x1), some (.int z5), some (.int z9)], [.int z5, .int x1], (0, 0), hp2)) rfl rfl ?_
        refine bs_lt rfl (fun c11 => ?_) (fun c11 => ?_)
        · skip
          refine bs_lit (k := 0) rfl rfl fun z12 hz12 => ?_
          refine bs_zret rfl rfl (by omega) (by omega) ?_
          rw [← hQ10]
          refine (show Ev _ 13 ([some (.ref 69), some (.int x1)], [.int z12], (0, 0), hp2) _ from ?_)
          refine bs_zret rfl rfl (by omega) (by omega) ?_
          rw [← hQ4]
          refine (show Ev _ 5 ([some (.ref 69), some (.int x1), some (.int x2)], [.int z12], (0, 0), hp2) _ from ?_)
          exact by
           refine bs_ifeq rfl (fun c13 => ?_) (fun c13 => ?_)
           · skip
             refine bs_lit (k := 0) rfl rfl fun z14 hz14 => ?_
             refine bs_zret rfl rfl (by omega) (by omega) ?_
             rw [← hQ3]
             refine (show Ev _ 11 ([some (.ref 69), some (.int x1), some (.int x2), some (.int x3)], [.int z14], (0, 0), hp2) _ from ?_)
             refine bs_ifeq rfl (fun c15 => ?_) (fun c15 => ?_)
             · skip
               refine bs_lit (k := -1) rfl rfl fun z16 hz16 => ?_
               exact Ev.ret rfl rfl (by rw [hQ]; exact ⟨t, Hhp2, Fhp2, bs_an0, sf_S_nil⟩)
             · exfalso; omega
           · exfalso; omega
        · skip
          refine Ev.step (j := 6) (s' := ([some (.int x1), some (.int z5), some (.int z9)], [.int x1], (0, 0), hp2)) rfl rfl ?_
          exact by
           refine Ev.step (j := 7) (s' := ([some (.int x1), some (.int z5), some (.int z9)], [.int z9, .int x1], (0, 0), hp2)) rfl rfl ?_
           refine bs_gt rfl (fun c17 => ?_) (fun c17 => ?_)
           · skip
             refine bs_lit (k := 0) rfl rfl fun z18 hz18 => ?_
             refine bs_zret rfl rfl (by omega) (by omega) ?_
             rw [← hQ10]
             refine (show Ev _ 13 ([some (.ref 69), some (.int x1)], [.int z18], (0, 0), hp2) _ from ?_)
             refine bs_zret rfl rfl (by omega) (by omega) ?_
             rw [← hQ4]
             refine (show Ev _ 5 ([some (.ref 69), some (.int x1), some (.int x2)], [.int z18], (0, 0), hp2) _ from ?_)
             refine bs_ifeq rfl (fun c19 => ?_) (fun c19 => ?_)
             · skip
               refine bs_lit (k := 0) rfl rfl fun z20 hz20 => ?_
               exact by
                refine bs_zret rfl rfl (by omega) (by omega) ?_
                rw [← hQ3]
                refine (show Ev _ 11 ([some (.ref 69), some (.int x1), some (.int x2), some (.int x3)], [.int z20], (0, 0), hp2) _ from ?_)
                refine bs_ifeq rfl (fun c21 => ?_) (fun c21 => ?_)
                · skip
                  refine bs_lit (k := -1) rfl rfl fun z22 hz22 => ?_
                  exact Ev.ret rfl rfl (by rw [hQ]; exact ⟨t, Hhp2, Fhp2, bs_an0, sf_S_nil⟩)
                · exfalso; omega
             · exfalso; omega
           · skip
             refine bs_lit (k := 1) rfl rfl fun z23 hz23 => ?_
             exact by
              refine Ev.step (j := 15) (s' := ([some (.int x1), some (.int z5), some (.int z9)], [.int z23], (0, 0), hp2)) rfl rfl ?_
              refine bs_zret rfl rfl (by omega) (by omega) ?_
              rw [← hQ10]
              refine (show Ev _ 13 ([some (.ref 69), some (.int x1)], [.int z23], (0, 0), hp2) _ from ?_)
              refine bs_zret rfl rfl (by omega) (by omega) ?_
              rw [← hQ4]
              refine (show Ev _ 5 ([some (.ref 69), some (.int x1), some (.int x2)], [.int z23], (0, 0), hp2) _ from ?_)
              refine bs_ifeq rfl (fun c24 => ?_) (fun c24 => ?_)
              · exfalso; omega
              · skip
                refine Ev.step (j := 9) (s' := ([some (.ref 69), some (.int x1), some (.int x2)], [.ref 69], (0, 0), hp2)) rfl rfl ?_
                refine Ev.step (j := 10) (s' := ([some (.ref 69), some (.int x1), some (.int x2)], [.int x2, .ref 69], (0, 0), hp2)) rfl rfl ?_
                exact by
                 refine Ev.inl (L := (L_X11_isShore Z_X11_isIn)) (nL := 2) rfl (bs_rcv (g := 11) Hhp2 (bs_R.uq Hhp2 (g := 11) rfl) (by decide) rfl) rfl (Nat.le_of_ble_eq_true rfl) ?_
                 generalize hQ25 : (fun (o : ab_O) => Ev _ _ _ _) = Q25
                 refine (show Ev (ab_T (L_X11_isShore Z_X11_isIn)) 0 ([some (.ref 69), some (.int x2)], [], (0, 0), hp2) Q25 from ?_)
                 refine Ev.step (j := 1) (s' := ([some (.ref 69), some (.int x2)], [.int x2], (0, 0), hp2)) rfl rfl ?_
                 refine bs_lit (k := 0) rfl rfl fun z26 hz26 => ?_
                 refine bs_lit (k := 1) rfl rfl fun z27 hz27 => ?_
                 refine Ev.inlS (L := L_X11_isIn) (nL := 3) rfl rfl (Nat.le_of_ble_eq_true rfl) ?_
                 generalize hQ28 : (fun (o : ab_O) => Ev _ _ _ _) = Q28
                 refine (show Ev (ab_T L_X11_isIn) 0 ([some (.int x2), some (.int z26), some (.int z27)], [], (0, 0), hp2) Q28 from ?_)
                 refine Ev.step (j := 1) (s' := ([some (.int x2), some (.int z26), some (.int z27)], [.int x2], (0, 0), hp2)) rfl rfl ?_
                 exact by
                  refine Ev.step (j := 2) (s' := ([some (.int x2), some (.int z26), some (.int z27)], [.int z26, .int x2], (0, 0), hp2)) rfl rfl ?_
                  refine bs_lt rfl (fun c29 => ?_) (fun c29 => ?_)
                  · skip
                    refine bs_lit (k := 0) rfl rfl fun z30 hz30 => ?_
                    refine bs_zret rfl rfl (by omega) (by omega) ?_
                    rw [← hQ28]
                    refine (show Ev _ 6 ([some (.ref 69), some (.int x2)], [.int z30], (0, 0), hp2) _ from ?_)
                    refine bs_zret rfl rfl (by omega) (by omega) ?_
                    rw [← hQ25]
                    refine (show Ev _ 13 ([some (.ref 69), some (.int x1), some (.int x2)], [.int z30], (0, 0), hp2) _ from ?_)
                    refine bs_ifeq rfl (fun c31 => ?_) (fun c31 => ?_)
                    · skip
                      refine bs_lit (k := 0) rfl rfl fun z32 hz32 => ?_
                      exact by
                       refine bs_zret rfl rfl (by omega) (by omega) ?_
                       rw [← hQ3]
                       refine (show Ev _ 11 ([some (.ref 69), some (.int x1), some (.int x2), some (.int x3)], [.int z32], (0, 0), hp2) _ from ?_)
                       refine bs_ifeq rfl (fun c33 => ?_) (fun c33 => ?_)
                       · skip
                         refine bs_lit (k := -1) rfl rfl fun z34 hz34 => ?_
                         exact Ev.ret rfl rfl (by rw [hQ]; exact ⟨t, Hhp2, Fhp2, bs_an0, sf_S_nil⟩)
                       · exfalso; omega
                    · exfalso; omega
                  · skip
                    refine Ev.step (j := 6) (s' := ([some (.int x2), some (.int z26), some (.int z27)], [.int x2], (0, 0), hp2)) rfl rfl ?_
                    exact by
                     refine Ev.step (j := 7) (s' := ([some (.int x2), some (.int z26), some (.int z27)], [.int z27, .int x2], (0, 0), hp2)) rfl rfl ?_
                     refine bs_gt rfl (fun c35 => ?_) (fun c35 => ?_)
                     · skip
                       refine bs_lit (k := 0) rfl rfl fun z36 hz36 => ?_
                       refine bs_zret rfl rfl (by omega) (by omega) ?_
                       rw [← hQ28]
                       refine (show Ev _ 6 ([some (.ref 69), some (.int x2)], [.int z36], (0, 0), hp2) _ from ?_)
                       refine bs_zret rfl rfl (by omega) (by omega) ?_
                       rw [← hQ25]
                       refine (show Ev _ 13 ([some (.ref 69), some (.int x1), some (.int x2)], [.int z36], (0, 0), hp2) _ from ?_)
                       refine bs_ifeq rfl (fun c37 => ?_) (fun c37 => ?_)
                       · skip
                         refine bs_lit (k := 0) rfl rfl fun z38 hz38 => ?_
                         exact by
                          refine bs_zret rfl rfl (by omega) (by omega) ?_
                          rw [← hQ3]
                          refine (show Ev _ 11 ([some (.ref 69), some (.int x1), some (.int x2), some (.int x3)], [.int z38], (0, 0), hp2) _ from ?_)
                          refine bs_ifeq rfl (fun c39 => ?_) (fun c39 => ?_)
                          · skip
                            refine bs_lit (k := -1) rfl rfl fun z40 hz40 => ?_
                            exact Ev.ret rfl rfl (by rw [hQ]; exact ⟨t, Hhp2, Fhp2, bs_an0, sf_S_nil⟩)
                          · exfalso; omega
                       · exfalso; omega
                     · skip
                       refine bs_lit (k := 1) rfl rfl fun z41 hz41 => ?_
                       exact by
                        refine Ev.step (j := 15) (s' := ([some (.int x2), some (.int z26), some (.int z27)], [.int z41], (0, 0), hp2)) rfl rfl ?_
                        refine bs_zret rfl rfl (by omega) (by omega) ?_
                        rw [← hQ28]
                        refine (show Ev _ 6 ([some (.ref 69), some (.int x2)], [.int z41], (0, 0), hp2) _ from ?_)
                        refine bs_zret rfl rfl (by omega) (by omega) ?_
                        rw [← hQ25]
                        refine (show Ev _ 13 ([some (.ref 69), some (.int x1), some (.int x2)], [.int z41], (0, 0), hp2) _ from ?_)
                        refine bs_ifeq rfl (fun c42 => ?_) (fun c42 => ?_)
                        · exfalso; omega
                        · skip
                          refine bs_lit (k := 1) rfl rfl fun z43 hz43 => ?_
                          refine Ev.step (j := 21) (s' := ([some (.ref 69), some (.int x1), some (.int x2)], [.int z43], (0, 0), hp2)) rfl rfl ?_
                          exact by
                           refine bs_zret rfl rfl (by omega) (by omega) ?_
                           rw [← hQ3]
                           refine (show Ev _ 11 ([some (.ref 69), some (.int x1), some (.int x2), some (.int x3)], [.int z43], (0, 0), hp2) _ from ?_)
                           refine bs_ifeq rfl (fun c44 => ?_) (fun c44 => ?_)
                           · exfalso; omega
                           · skip
                             refine Ev.step (j := 15) (s' := ([some (.ref 69), some (.int x1), some (.int x2), some (.int x3)], [.int x3], (0, 0), hp2)) rfl rfl ?_
                             refine bs_lit (k := 1) rfl rfl fun z45 hz45 => ?_
                             refine bs_lit (k := 250) rfl rfl fun z46 hz46 => ?_
                             refine Ev.inlS (L := L_X11_isIn) (nL := 3) rfl rfl (Nat.le_of_ble_eq_true rfl) ?_
                             generalize hQ47 : (fun (o : ab_O) => Ev _ _ _ _) = Q47
                             refine (show Ev (ab_T L_X11_isIn) 0 ([some (.int x3), some (.int z45), some (.int z46)], [], (0, 0), hp2) Q47 from ?_)
                             exact by
                              refine Ev.step (j := 1) (s' := ([some (.int x3), some (.int z45), some (.int z46)], [.int x3], (0, 0), hp2)) rfl rfl ?_
                              refine Ev.step (j := 2) (s' := ([some (.int x3), some (.int z45), some (.int z46)], [.int z45, .int x3], (0, 0), hp2)) rfl rfl ?_
                              refine bs_lt rfl (fun c48 => ?_) (fun c48 => ?_)
                              · skip
                                refine bs_lit (k := 0) rfl rfl fun z49 hz49 => ?_
                                refine bs_zret rfl rfl (by omega) (by omega) ?_
                                rw [← hQ47]
                                refine (show Ev _ 22 ([some (.ref 69), some (.int x1), some (.int x2), some (.int x3)], [.int z49], (0, 0), hp2) _ from ?_)
                                refine bs_ifne rfl (fun c50 => ?_) (fun c50 => ?_)
                                · exfalso; omega
                                · skip
                                  refine bs_lit (k := -1) rfl rfl fun z51 hz51 => ?_
                                  exact Ev.ret rfl rfl (by rw [hQ]; exact ⟨t, Hhp2, Fhp2, bs_an0, sf_S_nil⟩)
                              · skip
                                refine Ev.step (j := 6) (s' := ([some (.int x3), some (.int z45), some (.int z46)], [.int x3], (0, 0), hp2)) rfl rfl ?_
                                exact by
                                 refine Ev.step (j := 7) (s' := ([some (.int x3), some (.int z45), some (.int z46)], [.int z46, .int x3], (0, 0), hp2)) rfl rfl ?_
                                 refine bs_gt rfl (fun c52 => ?_) (fun c52 => ?_)
                                 · skip
                                   refine bs_lit (k := 0) rfl rfl fun z53 hz53 => ?_
                                   refine bs_zret rfl rfl (by omega) (by omega) ?_
                                   rw [← hQ47]
                                   refine (show Ev _ 22 ([some (.ref 69), some (.int x1), some (.int x2), some (.int x3)], [.int z53], (0, 0), hp2) _ from ?_)
                                   refine bs_ifne rfl (fun c54 => ?_) (fun c54 => ?_)
                                   · exfalso; omega
                                   · skip
                                     refine bs_lit (k := -1) rfl rfl fun z55 hz55 => ?_
                                     exact Ev.ret rfl rfl (by rw [hQ]; exact ⟨t, Hhp2, Fhp2, bs_an0, sf_S_nil⟩)
                                 · skip
                                   refine bs_lit (k := 1) rfl rfl fun z56 hz56 => ?_
                                   exact by
                                    refine Ev.step (j := 15) (s' := ([some (.int x3), some (.int z45), some (.int z46)], [.int z56], (0, 0), hp2)) rfl rfl ?_
                                    refine bs_zret rfl rfl (by omega) (by omega) ?_
                                    rw [← hQ47]
                                    refine (show Ev _ 22 ([some (.ref 69), some (.int x1), some (.int x2), some (.int x3)], [.int z56], (0, 0), hp2) _ from ?_)
                                    refine bs_ifne rfl (fun c57 => ?_) (fun c57 => ?_)
                                    · skip
                                      refine Ev.step (j := 28) (s' := ([some (.ref 69), some (.int x1), some (.int x2), some (.int x3)], [.ref 69], (0, 0), hp2)) rfl rfl ?_
                                      refine Ev.step (j := 29) (s' := ([some (.ref 69), some (.int x1), some (.int x2), some (.int x3)], [.int x1, .ref 69], (0, 0), hp2)) rfl rfl ?_
                                      refine Ev.step (j := 30) (s' := ([some (.ref 69), some (.int x1), some (.int x2), some (.int x3)], [.int x2, .int x1, .ref 69], (0, 0), hp2)) rfl rfl ?_
                                      refine Ev.inlS (L := L_X11_cell) (nL := 2) rfl rfl (Nat.le_of_ble_eq_true rfl) ?_
                                      generalize hQ58 : (fun (o : ab_O) => Ev _ _ _ _) = Q58
                                      refine (show Ev (ab_T L_X11_cell) 0 ([some (.int x1), some (.int x2)], [], (0, 0), hp2) Q58 from ?_)
                                      exact by
                                       refine bs_lit (k := 2) rfl rfl fun z59 hz59 => ?_
                                       refine Ev.step (j := 2) (s' := ([some (.int x1), some (.int x2)], [.int x1, .int z59], (0, 0), hp2)) rfl rfl ?_
                                       refine bs_mul (2) rfl (Or.inl hz59) (by rw [hz59]; omega) (by rw [hz59]; omega) fun z60 hz60 => ?_
                                       rw [hz59] at hz60
                                       refine Ev.step (j := 4) (s' := ([some (.int x1), some (.int x2)], [.int x2, .int z60], (0, 0), hp2)) rfl rfl ?_
                                       first | (refine bs_add rfl (by omega) (by omega) fun z61 hz61 => ?_) | (refine bs_any rfl fun z61 => ?_)
                                       have rz61 := n_range z61
                                       refine Ev.ret rfl rfl ?_
                                       rw [← hQ58]
                                       refine (show Ev _ 33 ([some (.ref 69), some (.int x1), some (.int x2), some (.int x3)], [.int z61, .ref 69], (0, 0), hp2) _ from ?_)
                                       exact by
                                        refine Ev.step (j := 34) (s' := ([some (.ref 69), some (.int x1), some (.int x2), some (.int x3)], [.int x3, .int z61, .ref 69], (0, 0), hp2)) rfl rfl ?_
                                        refine Ev.inl (L := L_X11_whyHoard) (nL := 3) rfl (bs_rcv (g := 11) Hhp2 (bs_R.uq Hhp2 (g := 11) rfl) (by decide) rfl) rfl (Nat.le_of_ble_eq_true rfl) ?_
                                        generalize hQ62 : (fun (o : ab_O) => Ev _ _ _ _) = Q62
                                        refine (show Ev (ab_T L_X11_whyHoard) 0 ([some (.ref 69), some (.int z61), some (.int x3)], [], (0, 0), hp2) Q62 from ?_)
                                        refine Ev.step (j := 1) (s' := ([some (.ref 69), some (.int z61), some (.int x3)], [.ref 69], (0, 0), hp2)) rfl rfl ?_
                                        refine bs_getU (g := 11) (g1 := 132) rfl rfl Hhp2 (bs_R.uq Hhp2 (g := 11) rfl) (by decide) rfl rfl ?_
                                        refine bs_lit (k := 124) rfl rfl fun z63 hz63 => ?_
                                        refine Ev.step (j := 7) (s' := ([some (.ref 69), some (.int z61), some (.int x3)], [.int z61, .int z63, .ref 71], (0, 0), hp2)) rfl rfl ?_
                                        first | (refine bs_add rfl (by omega) (by omega) fun z64 hz64 => ?_) | (refine bs_any rfl fun z64 => ?_)
                                        have rz64 := n_range z64
                                        refine bs_ld (g := 132) 124 135 (0, 999) rfl Hhp2 (bs_R.uq Hhp2 (g := 132) rfl) (by decide) rfl (by decide) (by decide) rfl (by decide) (by omega) (by omega) fun z65 hz65 lz65 gz65 => ?_
                                        dsimp only at lz65 gz65
                                        refine Ev.step (j := 10) (s' := ([some (.ref 69), some (.int z61), some (.int x3)], [.int x3, .int z65], (0, 0), hp2)) rfl rfl ?_
                                        exact by
                                         refine bs_ge rfl (fun c66 => ?_) (fun c66 => ?_)
                                         · skip
                                           refine bs_lit (k := 0) rfl rfl fun z67 hz67 => ?_
                                           refine Ev.ret rfl rfl ?_
                                           rw [← hQ62]
                                           refine (show Ev _ 37 ([some (.ref 69), some (.int x1), some (.int x2), some (.int x3)], [.int z67], (0, 0), hp2) _ from ?_)
                                           refine bs_ifle rfl (fun c68 => ?_) (fun c68 => ?_)
                                           · skip
                                             refine Ev.step (j := 43) (s' := ([some (.ref 69), some (.int x1), some (.int x2), some (.int x3)], [.ref 69], (0, 0), hp2)) rfl rfl ?_
                                             refine bs_call (K := kq_X11_keep_h) [.ref 69] [] rfl ct_X11_keep_h Hhp2 rfl rfl rfl (bs_rcv (g := 11) Hhp2 (bs_R.uq Hhp2 (g := 11) rfl) (by decide) rfl) rfl ?_ (sf_S_nil) fun r69 hp70 thp70 Hhp70 fhp70 ahp70 php70 => ?_
                                             · intro q k h
                                               match q, h with
                                               | 0, h => cases h; exact bs_jR (bs_R.uq Hhp2 (g := 11) rfl)
                                               | q + 1, h => cases h
                                             obtain rfl := ahp70.1 rfl
                                             have Fhp70 := sf_fr_tr Fhp2 (sf_fr_wider (W := [(11, 0, 0), (11, 25, 25), (132, 124, 147), (138, 0, 1063)]) rfl fhp70)
                                             have h71 : sf_rd hp70 69 0 = some z1.toInt := (fhp70.2.2.1 _ (bs_R.uq Hhp2 (g := 11) (p := 69) rfl).1 _ (by rw [(bs_R.uq Hhp2 (g := 11) (p := 69) rfl).2]; rfl)).trans rhp2
                                             have h72 : sf_rd hp70 71 0 = some z7.toInt := (fhp70.2.2.1 _ (bs_R.uq Hhp2 (g := 132) (p := 71) rfl).1 _ (by rw [(bs_R.uq Hhp2 (g := 132) (p := 71) rfl).2]; rfl)).trans hz7
                                             have h73 : sf_rd hp70 71 z64.toInt.toNat = some z65.toInt := (fhp70.2.2.1 _ (bs_R.uq Hhp2 (g := 132) (p := 71) rfl).1 _ (by rw [(bs_R.uq Hhp2 (g := 132) (p := 71) rfl).2]; rfl)).trans hz65
                                             refine (show Ev _ 46 ([some (.ref 69), some (.int x1), some (.int x2), some (.int x3)], [], (0, 0), hp70) _ from ?_)
                                             exact by
                                              refine Ev.step (j := 47) (s' := ([some (.ref 69), some (.int x1), some (.int x2), some (.int x3)], [.ref 69], (0, 0), hp70)) rfl rfl ?_
                                              refine Ev.step (j := 48) (s' := ([some (.ref 69), some (.int x1), some (.int x2), some (.int x3)], [.int x1, .ref 69], (0, 0), hp70)) rfl rfl ?_
                                              refine Ev.step (j := 49) (s' := ([some (.ref 69), some (.int x1), some (.int x2), some (.int x3)], [.int x2, .int x1, .ref 69], (0, 0), hp70)) rfl rfl ?_
                                              refine Ev.inlS (L := L_X11_cell) (nL := 2) rfl rfl (Nat.le_of_ble_eq_true rfl) ?_
                                              generalize hQ74 : (fun (o : ab_O) => Ev _ _ _ _) = Q74
                                              refine (show Ev (ab_T L_X11_cell) 0 ([some (.int x1), some (.int x2)], [], (0, 0), hp70) Q74 from ?_)
                                              refine bs_lit (k := 2) rfl rfl fun z75 hz75 => ?_
                                              refine Ev.step (j := 2) (s' := ([some (.int x1), some (.int x2)], [.int x1, .int z75], (0, 0), hp70)) rfl rfl ?_
                                              refine bs_mul (2) rfl (Or.inl hz75) (by rw [hz75]; omega) (by rw [hz75]; omega) fun z76 hz76 => ?_
                                              rw [hz75] at hz76
                                              refine Ev.step (j := 4) (s' := ([some (.int x1), some (.int x2)], [.int x2, .int z76], (0, 0), hp70)) rfl rfl ?_
                                              first | (refine bs_add rfl (by omega) (by omega) fun z77 hz77 => ?_) | (refine bs_any rfl fun z77 => ?_)
                                              have rz77 := n_range z77
                                              refine Ev.ret rfl rfl ?_
                                              rw [← hQ74]
                                              refine (show Ev _ 52 ([some (.ref 69), some (.int x1), some (.int x2), some (.int x3)], [.int z77, .ref 69], (0, 0), hp70) _ from ?_)
                                              exact by
                                               refine Ev.step (j := 53) (s' := ([some (.ref 69), some (.int x1), some (.int x2), some (.int x3)], [.int x3, .int z77, .ref 69], (0, 0), hp70)) rfl rfl ?_
                                               refine Ev.inl (L := L_X11_hoards) (nL := 3) rfl (bs_rcv (g := 11) Hhp70 (bs_R.uq Hhp70 (g := 11) rfl) (by decide) rfl) rfl (Nat.le_of_ble_eq_true rfl) ?_
                                               generalize hQ78 : (fun (o : ab_O) => Ev _ _ _ _) = Q78
                                               refine (show Ev (ab_T L_X11_hoards) 0 ([some (.ref 69), some (.int z77), some (.int x3)], [], (0, 0), hp70) Q78 from ?_)
                                               refine Ev.step (j := 1) (s' := ([some (.ref 69), some (.int z77), some (.int x3)], [.ref 69], (0, 0), hp70)) rfl rfl ?_
                                               refine bs_getU (g := 11) (g1 := 132) rfl rfl Hhp70 (bs_R.uq Hhp70 (g := 11) rfl) (by decide) rfl rfl ?_
                                               refine bs_lit (k := 124) rfl rfl fun z79 hz79 => ?_
                                               refine Ev.step (j := 7) (s' := ([some (.ref 69), some (.int z77), some (.int x3)], [.int z77, .int z79, .ref 71], (0, 0), hp70)) rfl rfl ?_
                                               first | (refine bs_add rfl (by omega) (by omega) fun z80 hz80 => ?_) | (refine bs_any rfl fun z80 => ?_)
                                               have rz80 := n_range z80
                                               refine Ev.step (j := 9) (s' := ([some (.ref 69), some (.int z77), some (.int x3)], [.int z80, .ref 71, .int z80, .ref 71], (0, 0), hp70)) rfl rfl ?_
                                               exact by
                                                refine bs_ld (g := 132) 124 135 (0, 999) rfl Hhp70 (bs_R.uq Hhp70 (g := 132) rfl) (by decide) rfl (by decide) (by decide) rfl (by decide) (by omega) (by omega) fun z81 hz81 lz81 gz81 => ?_
                                                dsimp only at lz81 gz81
                                                have e82 : z81.toInt = z65.toInt := Option.some.inj ((bs_at hz81 (by omega)).symm.trans ((fhp70.2.2.1 _ (bs_R.uq Hhp2 (g := 132) (p := 71) rfl).1 _ (by rw [(bs_R.uq Hhp2 (g := 132) (p := 71) rfl).2]; rfl)).trans hz65))
                                                refine Ev.step (j := 11) (s' := ([some (.ref 69), some (.int z77), some (.int x3)], [.int x3, .int z81, .int z80, .ref 71], (0, 0), hp70)) rfl rfl ?_
                                                first | (refine bs_sub rfl (by omega) (by omega) fun z83 hz83 => ?_) | (refine bs_any rfl fun z83 => ?_)
                                                have rz83 := n_range z83
                                                refine bs_st (W := [(132, 124, 135)]) (g := 132) 124 135 (0, 999) rfl Hhp70 (bs_R.uq Hhp70 (g := 132) rfl) (by decide) rfl rfl (by decide) rfl rfl (by omega) (by omega) (by dsimp only; omega) (by dsimp only; omega) fun hp84 Hhp84 fhp84 rhp84 ehp84 qhp84 nhp84 => ?_
                                                have Fhp84 := sf_fr_tr Fhp70 (sf_fr_wider (W := [(11, 0, 0), (11, 25, 25), (132, 124, 147), (138, 0, 1063)]) rfl fhp84)
                                                have h85 : sf_rd hp84 69 0 = some z1.toInt := (ehp84 _ _ (Or.inl (by decide))).trans h71
                                                have h86 : sf_rd hp84 71 0 = some z7.toInt := (ehp84 _ _ (Or.inr (by omega))).trans h72
                                                refine Ev.step (j := 14) (s' := ([some (.ref 69), some (.int z77), some (.int x3)], [.ref 69], (0, 0), hp84)) rfl rfl ?_
                                                exact by
                                                 refine bs_getU (g := 11) (g1 := 132) rfl rfl Hhp84 (bs_R.uq Hhp84 (g := 11) rfl) (by decide) rfl rfl ?_
                                                 refine bs_lit (k := 136) rfl rfl fun z87 hz87 => ?_
                                                 refine Ev.step (j := 21) (s' := ([some (.ref 69), some (.int z77), some (.int x3)], [.int z77, .int z87, .ref 71], (0, 0), hp84)) rfl rfl ?_
                                                 first | (refine bs_add rfl (by omega) (by omega) fun z88 hz88 => ?_) | (refine bs_any rfl fun z88 => ?_)
                                                 have rz88 := n_range z88
                                                 refine Ev.step (j := 23) (s' := ([some (.ref 69), some (.int z77), some (.int x3)], [.int z88, .ref 71, .int z88, .ref 71], (0, 0), hp84)) rfl rfl ?_
                                                 refine bs_ld (g := 132) 136 147 (-2147483648, 2147483647) rfl Hhp84 (bs_R.uq Hhp84 (g := 132) rfl) (by decide) rfl (by decide) (by decide) rfl (by decide) (by omega) (by omega) fun z89 hz89 lz89 gz89 => ?_
                                                 dsimp only at lz89 gz89
                                                 refine Ev.step (j := 25) (s' := ([some (.ref 69), some (.int z77), some (.int x3)], [.int x3, .int z89, .int z88, .ref 71], (0, 0), hp84)) rfl rfl ?_
                                                 first | (refine bs_add rfl (by omega) (by omega) fun z90 hz90 => ?_) | (refine bs_any rfl fun z90 => ?_)
                                                 have rz90 := n_range z90
                                                 refine bs_st (W := [(132, 136, 147)]) (g := 132) 136 147 (-2147483648, 2147483647) rfl Hhp84 (bs_R.uq Hhp84 (g := 132) rfl) (by decide) rfl rfl (by decide) rfl rfl (by omega) (by omega) (by dsimp only; omega) (by dsimp only; omega) fun hp91 Hhp91 fhp91 rhp91 ehp91 qhp91 nhp91 => ?_
                                                 have Fhp91 := sf_fr_tr Fhp84 (sf_fr_wider (W := [(11, 0, 0), (11, 25, 25), (132, 124, 147), (138, 0, 1063)]) rfl fhp91)
                                                 have h92 : sf_rd hp91 69 0 = some z1.toInt := (ehp91 _ _ (Or.inl (by decide))).trans h85
                                                 have h93 : sf_rd hp91 71 0 = some z7.toInt := (ehp91 _ _ (Or.inr (by omega))).trans h86
                                                 refine Ev.ret rfl rfl ?_
                                                 rw [← hQ78]
                                                 refine (show Ev _ 56 ([some (.ref 69), some (.int x1), some (.int x2), some (.int x3)], [], (0, 0), hp91) _ from ?_)
                                                 exact by
                                                  refine bs_lit (k := 0) rfl rfl fun z94 hz94 => ?_
                                                  exact Ev.ret rfl rfl (by rw [hQ]; exact ⟨thp70, Hhp91, Fhp91, bs_an0, sf_S_nil⟩)
                                           · exfalso; omega
                                         · skip
                                           refine bs_lit (k := 1) rfl rfl fun z95 hz95 => ?_
                                           exact by
                                            refine Ev.step (j := 18) (s' := ([some (.ref 69), some (.int z61), some (.int x3)], [.int z95], (0, 0), hp2)) rfl rfl ?_
                                            refine Ev.ret rfl rfl ?_
                                            rw [← hQ62]
                                            refine (show Ev _ 37 ([some (.ref 69), some (.int x1), some (.int x2), some (.int x3)], [.int z95], (0, 0), hp2) _ from ?_)
                                            refine bs_ifle rfl (fun c96 => ?_) (fun c96 => ?_)
                                            · exfalso; omega
                                            · skip
                                              refine bs_lit (k := 1) rfl rfl fun z97 hz97 => ?_
                                              exact Ev.ret rfl rfl (by rw [hQ]; exact ⟨t, Hhp2, Fhp2, bs_an0, sf_S_nil⟩)
                                    · exfalso; omega
def kq_X11_bare_h : sf_Q := ([(1, 11, 0), (0, 0, 0), (0, 0, 0), (0, 0, 0)], [], some (0, 0, 0), [], [(11, 0, 0), (11, 25, 25), (132, 124, 147), (138, 0, 1063)])
set_option maxRecDepth 100000 in
set_option maxHeartbeats 4000000 in
theorem ct_X11_bare_h : sf_ct kq_X11_bare_h Z_X11_bare := by
  intro t hp as H hl hj hpre
  match as, hl with
  | [v0, v1, v2, v3], _ =>
    obtain ⟨a0, rfl, ra0⟩ := bs_aR (hj 0 _ rfl)
    obtain rfl := ra0.eq H (p := 69) rfl
    obtain ⟨x1, rfl⟩ := bs_aI (hj 1 _ rfl)
    have rg1 := n_range x1
    obtain ⟨x2, rfl⟩ := bs_aI (hj 2 _ rfl)
    have rg2 := n_range x2
    obtain ⟨x3, rfl⟩ := bs_aI (hj 3 _ rfl)
    have rg3 := n_range x3
    clear hpre hj
    have F0 : sf_fr [(11, 0, 0), (11, 25, 25), (132, 124, 147), (138, 0, 1063)] t hp t hp := sf_fr_rf
    refine bs_fin (K := kq_X11_bare_h) (L := (L_X11_bare Z_X11_isPlace Z_X11_isIn Z_X11_cell Z_X11_whyBare Z_X11_keep Z_X11_hoards)) (nL := 5) (Nat.le_of_ble_eq_true rfl) ?_
    obtain ⟨Q, hQ⟩ : ∃ Q : ab_O → Prop, Q = (fun o => ∃ t', sf_h t' o.2 ∧ sf_fr (kq_X11_bare_h).2.2.2.2 t hp t' o.2 ∧ sf_an t' o.2.1 (kq_X11_bare_h).2.2.1 o.1 ∧ sf_S (sf_v1 o.1 [.ref 69, .int x1, .int x2, .int x3] o.2) (kq_X11_bare_h).2.2.2.1) := ⟨_, rfl⟩
    rw [← hQ]
    refine (show Ev (ab_T (L_X11_bare Z_X11_isPlace Z_X11_isIn Z_X11_cell Z_X11_whyBare Z_X11_keep Z_X11_hoards)) 0 ([some (.ref 69), some (.int x1), some (.int x2), some (.int x3), none], [], (0, 0), hp) Q from ?_)
    exact by
     refine Ev.step (j := 1) (s' := ([some (.ref 69), some (.int x1), some (.int x2), some (.int x3), none], [.ref 69], (0, 0), hp)) rfl rfl ?_
     refine bs_lit (k := 0) rfl rfl fun z1 hz1 => ?_
     refine bs_putI (W := [(11, 0, 0)]) (g := 11) rfl rfl H (bs_R.uq H (g := 11) rfl) (by decide) rfl rfl rfl rfl (Or.inl rfl) (by omega) (by omega) fun hp2 Hhp2 fhp2 rhp2 ehp2 qhp2 nhp2 => ?_
     have Fhp2 := sf_fr_tr F0 (sf_fr_wider (W := [(11, 0, 0), (11, 25, 25), (132, 124, 147), (138, 0, 1063)]) rfl fhp2)
     refine Ev.step (j := 6) (s' := ([some (.ref 69), some (.int x1), some (.int x2), some (.int x3), none], [.ref 69], (0, 0), hp2)) rfl rfl ?_
     refine Ev.step (j := 7) (s' := ([some (.ref 69), some (.int x1), some (.int x2), some (.int x3), none], [.int x1, .ref 69], (0, 0), hp2)) rfl rfl ?_
     refine Ev.step (j := 8) (s' := ([some (.ref 69), some (.int x1), some (.int x2), some (.int x3), none], [.int x2, .int x1, .ref 69], (0, 0), hp2)) rfl rfl ?_
     refine Ev.inl (L := (L_X11_isPlace Z_X11_isGood Z_X11_isShore)) (nL := 3) rfl (bs_rcv (g := 11) Hhp2 (bs_R.uq Hhp2 (g := 11) rfl) (by decide) rfl) rfl (Nat.le_of_ble_eq_true rfl) ?_
     generalize hQ3 : (fun (o : ab_O) => Ev _ _ _ _) = Q3
     refine (show Ev (ab_T (L_X11_isPlace Z_X11_isGood Z_X11_isShore)) 0 ([some (.ref 69), some (.int x1), some (.int x2)], [], (0, 0), hp2) Q3 from ?_)
     exact by
      refine Ev.step (j := 1) (s' := ([some (.ref 69), some (.int x1), some (.int x2)], [.ref 69], (0, 0), hp2)) rfl rfl ?_
      refine Ev.step (j := 2) (s' := ([some (.ref 69), some (.int x1), some (.int x2)], [.int x1, .ref 69], (0, 0), hp2)) rfl rfl ?_
      refine Ev.inl (L := (L_X11_isGood Z_X11_isIn)) (nL := 2) rfl (bs_rcv (g := 11) Hhp2 (bs_R.uq Hhp2 (g := 11) rfl) (by decide) rfl) rfl (Nat.le_of_ble_eq_true rfl) ?_
      generalize hQ4 : (fun (o : ab_O) => Ev _ _ _ _) = Q4
      refine (show Ev (ab_T (L_X11_isGood Z_X11_isIn)) 0 ([some (.ref 69), some (.int x1)], [], (0, 0), hp2) Q4 from ?_)
      refine Ev.step (j := 1) (s' := ([some (.ref 69), some (.int x1)], [.int x1], (0, 0), hp2)) rfl rfl ?_
      refine bs_lit (k := 0) rfl rfl fun z5 hz5 => ?_
      refine Ev.step (j := 3) (s' := ([some (.ref 69), some (.int x1)], [.ref 69, .int z5, .int x1], (0, 0), hp2)) rfl rfl ?_
      refine bs_getU (g := 11) (g1 := 132) rfl rfl Hhp2 (bs_R.uq Hhp2 (g := 11) rfl) (by decide) rfl rfl ?_
      exact by
       refine bs_lit (k := 0) rfl rfl fun z6 hz6 => ?_
       refine bs_ld (g := 132) 0 0 (0, 6) rfl Hhp2 (bs_R.uq Hhp2 (g := 132) rfl) (by decide) rfl (by decide) (by decide) rfl (by decide) (by omega) (by omega) fun z7 hz7 lz7 gz7 => ?_
       dsimp only at lz7 gz7
       replace hz7 := bs_at hz7 (show z6.toInt.toNat = 0 by omega)
       refine bs_lit (k := 1) rfl rfl fun z8 hz8 => ?_
       first | (refine bs_sub rfl (by omega) (by omega) fun z9 hz9 => ?_) | (refine bs_any rfl fun z9 => ?_)
       have rz9 := n_range z9
       refine Ev.inlS (L := L_X11_isIn) (nL := 3) rfl rfl (Nat.le_of_ble_eq_true rfl) ?_
       generalize hQ10 : (fun (o : ab_O) => Ev _ _ _ _) = Q10
       refine (show Ev (ab_T L_X11_isIn) 0 ([some (.int x1), some (.int z5), some (.int z9)], [], (0, 0), hp2) Q10 from ?_)
       exact by
        refine Ev.step (j := 1) (s' := ([some (.int x1), some (.int z5), some (.int z9)], [.int x1], (0, 0), hp2)) rfl rfl ?_
        refine Ev.step (j := 2) (s' := ([some (.int x1), some (.int z5), some (.int z9)], [.int z5, .int x1], (0, 0), hp2)) rfl rfl ?_
        refine bs_lt rfl (fun c11 => ?_) (fun c11 => ?_)
        · skip
          refine bs_lit (k := 0) rfl rfl fun z12 hz12 => ?_
          refine bs_zret rfl rfl (by omega) (by omega) ?_
          rw [← hQ10]
          refine (show Ev _ 13 ([some (.ref 69), some (.int x1)], [.int z12], (0, 0), hp2) _ from ?_)
          refine bs_zret rfl rfl (by omega) (by omega) ?_
          rw [← hQ4]
          refine (show Ev _ 5 ([some (.ref 69), some (.int x1), some (.int x2)], [.int z12], (0, 0), hp2) _ from ?_)
          exact by
           refine bs_ifeq rfl (fun c13 => ?_) (fun c13 => ?_)
           · skip
             refine bs_lit (k := 0) rfl rfl fun z14 hz14 => ?_
             refine bs_zret rfl rfl (by omega) (by omega) ?_
             rw [← hQ3]
             refine (show Ev _ 11 ([some (.ref 69), some (.int x1), some (.int x2), some (.int x3), none], [.int z14], (0, 0), hp2) _ from ?_)
             refine bs_ifeq rfl (fun c15 => ?_) (fun c15 => ?_)
             · skip
               refine bs_lit (k := -1) rfl rfl fun z16 hz16 => ?_
               exact Ev.ret rfl rfl (by rw [hQ]; exact ⟨t, Hhp2, Fhp2, bs_an0, sf_S_nil⟩)
             · exfalso; omega
           · exfalso; omega
        · skip
          refine Ev.step (j := 6) (s' := ([some (.int x1), some (.int z5), some (.int z9)], [.int x1], (0, 0), hp2)) rfl rfl ?_
          exact by
           refine Ev.step (j := 7) (s' := ([some (.int x1), some (.int z5), some (.int z9)], [.int z9, .int x1], (0, 0), hp2)) rfl rfl ?_
           refine bs_gt rfl (fun c17 => ?_) (fun c17 => ?_)
           · skip
             refine bs_lit (k := 0) rfl rfl fun z18 hz18 => ?_
             refine bs_zret rfl rfl (by omega) (by omega) ?_
             rw [← hQ10]
             refine (show Ev _ 13 ([some (.ref 69), some (.int x1)], [.int z18], (0, 0), hp2) _ from ?_)
             refine bs_zret rfl rfl (by omega) (by omega) ?_
             rw [← hQ4]
             refine (show Ev _ 5 ([some (.ref 69), some (.int x1), some (.int x2)], [.int z18], (0, 0), hp2) _ from ?_)
             refine bs_ifeq rfl (fun c19 => ?_) (fun c19 => ?_)
             · skip
               refine bs_lit (k := 0) rfl rfl fun z20 hz20 => ?_
               exact by
                refine bs_zret rfl rfl (by omega) (by omega) ?_
                rw [← hQ3]
                refine (show Ev _ 11 ([some (.ref 69), some (.int x1), some (.int x2), some (.int x3), none], [.int z20], (0, 0), hp2) _ from ?_)
                refine bs_ifeq rfl (fun c21 => ?_) (fun c21 => ?_)
                · skip
                  refine bs_lit (k := -1) rfl rfl fun z22 hz22 => ?_
                  exact Ev.ret rfl rfl (by rw [hQ]; exact ⟨t, Hhp2, Fhp2, bs_an0, sf_S_nil⟩)
                · exfalso; omega
             · exfalso; omega
           · skip
             refine bs_lit (k := 1) rfl rfl fun z23 hz23 => ?_
             exact by
              refine Ev.step (j := 15) (s' := ([some (.int x1), some (.int z5), some (.int z9)], [.int z23], (0, 0), hp2)) rfl rfl ?_
              refine bs_zret rfl rfl (by omega) (by omega) ?_
              rw [← hQ10]
              refine (show Ev _ 13 ([some (.ref 69), some (.int x1)], [.int z23], (0, 0), hp2) _ from ?_)
              refine bs_zret rfl rfl (by omega) (by omega) ?_
              rw [← hQ4]
              refine (show Ev _ 5 ([some (.ref 69), some (.int x1), some (.int x2)], [.int z23], (0, 0), hp2) _ from ?_)
              refine bs_ifeq rfl (fun c24 => ?_) (fun c24 => ?_)
              · exfalso; omega
              · skip
                refine Ev.step (j := 9) (s' := ([some (.ref 69), some (.int x1), some (.int x2)], [.ref 69], (0, 0), hp2)) rfl rfl ?_
                refine Ev.step (j := 10) (s' := ([some (.ref 69), some (.int x1), some (.int x2)], [.int x2, .ref 69], (0, 0), hp2)) rfl rfl ?_
                exact by
                 refine Ev.inl (L := (L_X11_isShore Z_X11_isIn)) (nL := 2) rfl (bs_rcv (g := 11) Hhp2 (bs_R.uq Hhp2 (g := 11) rfl) (by decide) rfl) rfl (Nat.le_of_ble_eq_true rfl) ?_
                 generalize hQ25 : (fun (o : ab_O) => Ev _ _ _ _) = Q25
                 refine (show Ev (ab_T (L_X11_isShore Z_X11_isIn)) 0 ([some (.ref 69), some (.int x2)], [], (0, 0), hp2) Q25 from ?_)
                 refine Ev.step (j := 1) (s' := ([some (.ref 69), some (.int x2)], [.int x2], (0, 0), hp2)) rfl rfl ?_
                 refine bs_lit (k := 0) rfl rfl fun z26 hz26 => ?_
                 refine bs_lit (k := 1) rfl rfl fun z27 hz27 => ?_
                 refine Ev.inlS (L := L_X11_isIn) (nL := 3) rfl rfl (Nat.le_of_ble_eq_true rfl) ?_
                 generalize hQ28 : (fun (o : ab_O) => Ev _ _ _ _) = Q28
                 refine (show Ev (ab_T L_X11_isIn) 0 ([some (.int x2), some (.int z26), some (.int z27)], [], (0, 0), hp2) Q28 from ?_)
                 refine Ev.step (j := 1) (s' := ([some (.int x2), some (.int z26), some (.int z27)], [.int x2], (0, 0), hp2)) rfl rfl ?_
                 exact by
                  refine Ev.step (j := 2) (s' := ([some (.int x2), some (.int z26), some (.int z27)], [.int z26, .int x2], (0, 0), hp2)) rfl rfl ?_
                  refine bs_lt rfl (fun c29 => ?_) (fun c29 => ?_)
                  · skip
                    refine bs_lit (k := 0) rfl rfl fun z30 hz30 => ?_
                    refine bs_zret rfl rfl (by omega) (by omega) ?_
                    rw [← hQ28]
                    refine (show Ev _ 6 ([some (.ref 69), some (.int x2)], [.int z30], (0, 0), hp2) _ from ?_)
                    refine bs_zret rfl rfl (by omega) (by omega) ?_
                    rw [← hQ25]
                    refine (show Ev _ 13 ([some (.ref 69), some (.int x1), some (.int x2)], [.int z30], (0, 0), hp2) _ from ?_)
                    refine bs_ifeq rfl (fun c31 => ?_) (fun c31 => ?_)
                    · skip
                      refine bs_lit (k := 0) rfl rfl fun z32 hz32 => ?_
                      exact by
                       refine bs_zret rfl rfl (by omega) (by omega) ?_
                       rw [← hQ3]
                       refine (show Ev _ 11 ([some (.ref 69), some (.int x1), some (.int x2), some (.int x3), none], [.int z32], (0, 0), hp2) _ from ?_)
                       refine bs_ifeq rfl (fun c33 => ?_) (fun c33 => ?_)
                       · skip
                         refine bs_lit (k := -1) rfl rfl fun z34 hz34 => ?_
                         exact Ev.ret rfl rfl (by rw [hQ]; exact ⟨t, Hhp2, Fhp2, bs_an0, sf_S_nil⟩)
                       · exfalso; omega
                    · exfalso; omega
                  · skip
                    refine Ev.step (j := 6) (s' := ([some (.int x2), some (.int z26), some (.int z27)], [.int x2], (0, 0), hp2)) rfl rfl ?_
                    exact by
                     refine Ev.step (j := 7) (s' := ([some (.int x2), some (.int z26), some (.int z27)], [.int z27, .int x2], (0, 0), hp2)) rfl rfl ?_
                     refine bs_gt rfl (fun c35 => ?_) (fun c35 => ?_)
                     · skip
                       refine bs_lit (k := 0) rfl rfl fun z36 hz36 => ?_
                       refine bs_zret rfl rfl (by omega) (by omega) ?_
                       rw [← hQ28]
                       refine (show Ev _ 6 ([some (.ref 69), some (.int x2)], [.int z36], (0, 0), hp2) _ from ?_)
                       refine bs_zret rfl rfl (by omega) (by omega) ?_
                       rw [← hQ25]
                       refine (show Ev _ 13 ([some (.ref 69), some (.int x1), some (.int x2)], [.int z36], (0, 0), hp2) _ from ?_)
                       refine bs_ifeq rfl (fun c37 => ?_) (fun c37 => ?_)
                       · skip
                         refine bs_lit (k := 0) rfl rfl fun z38 hz38 => ?_
                         exact by
                          refine bs_zret rfl rfl (by omega) (by omega) ?_
                          rw [← hQ3]
                          refine (show Ev _ 11 ([some (.ref 69), some (.int x1), some (.int x2), some (.int x3), none], [.int z38], (0, 0), hp2) _ from ?_)
                          refine bs_ifeq rfl (fun c39 => ?_) (fun c39 => ?_)
                          · skip
                            refine bs_lit (k := -1) rfl rfl fun z40 hz40 => ?_
                            exact Ev.ret rfl rfl (by rw [hQ]; exact ⟨t, Hhp2, Fhp2, bs_an0, sf_S_nil⟩)
                          · exfalso; omega
                       · exfalso; omega
                     · skip
                       refine bs_lit (k := 1) rfl rfl fun z41 hz41 => ?_
                       exact by
                        refine Ev.step (j := 15) (s' := ([some (.int x2), some (.int z26), some (.int z27)], [.int z41], (0, 0), hp2)) rfl rfl ?_
                        refine bs_zret rfl rfl (by omega) (by omega) ?_
                        rw [← hQ28]
                        refine (show Ev _ 6 ([some (.ref 69), some (.int x2)], [.int z41], (0, 0), hp2) _ from ?_)
                        refine bs_zret rfl rfl (by omega) (by omega) ?_
                        rw [← hQ25]
                        refine (show Ev _ 13 ([some (.ref 69), some (.int x1), some (.int x2)], [.int z41], (0, 0), hp2) _ from ?_)
                        refine bs_ifeq rfl (fun c42 => ?_) (fun c42 => ?_)
                        · exfalso; omega
                        · skip
                          refine bs_lit (k := 1) rfl rfl fun z43 hz43 => ?_
                          refine Ev.step (j := 21) (s' := ([some (.ref 69), some (.int x1), some (.int x2)], [.int z43], (0, 0), hp2)) rfl rfl ?_
                          exact by
                           refine bs_zret rfl rfl (by omega) (by omega) ?_
                           rw [← hQ3]
                           refine (show Ev _ 11 ([some (.ref 69), some (.int x1), some (.int x2), some (.int x3), none], [.int z43], (0, 0), hp2) _ from ?_)
                           refine bs_ifeq rfl (fun c44 => ?_) (fun c44 => ?_)
                           · exfalso; omega
                           · skip
                             refine Ev.step (j := 15) (s' := ([some (.ref 69), some (.int x1), some (.int x2), some (.int x3), none], [.int x3], (0, 0), hp2)) rfl rfl ?_
                             refine bs_lit (k := 1) rfl rfl fun z45 hz45 => ?_
                             refine bs_lit (k := 250) rfl rfl fun z46 hz46 => ?_
                             refine Ev.inlS (L := L_X11_isIn) (nL := 3) rfl rfl (Nat.le_of_ble_eq_true rfl) ?_
                             generalize hQ47 : (fun (o : ab_O) => Ev _ _ _ _) = Q47
                             refine (show Ev (ab_T L_X11_isIn) 0 ([some (.int x3), some (.int z45), some (.int z46)], [], (0, 0), hp2) Q47 from ?_)
                             exact by
                              refine Ev.step (j := 1) (s' := ([some (.int x3), some (.int z45), some (.int z46)], [.int x3], (0, 0), hp2)) rfl rfl ?_
                              refine Ev.step (j := 2) (s' := ([some (.int x3), some (.int z45), some (.int z46)], [.int z45, .int x3], (0, 0), hp2)) rfl rfl ?_
                              refine bs_lt rfl (fun c48 => ?_) (fun c48 => ?_)
                              · skip
                                refine bs_lit (k := 0) rfl rfl fun z49 hz49 => ?_
                                refine bs_zret rfl rfl (by omega) (by omega) ?_
                                rw [← hQ47]
                                refine (show Ev _ 22 ([some (.ref 69), some (.int x1), some (.int x2), some (.int x3), none], [.int z49], (0, 0), hp2) _ from ?_)
                                refine bs_ifne rfl (fun c50 => ?_) (fun c50 => ?_)
                                · exfalso; omega
                                · skip
                                  refine bs_lit (k := -1) rfl rfl fun z51 hz51 => ?_
                                  exact Ev.ret rfl rfl (by rw [hQ]; exact ⟨t, Hhp2, Fhp2, bs_an0, sf_S_nil⟩)
                              · skip
                                refine Ev.step (j := 6) (s' := ([some (.int x3), some (.int z45), some (.int z46)], [.int x3], (0, 0), hp2)) rfl rfl ?_
                                exact by
                                 refine Ev.step (j := 7) (s' := ([some (.int x3), some (.int z45), some (.int z46)], [.int z46, .int x3], (0, 0), hp2)) rfl rfl ?_
                                 refine bs_gt rfl (fun c52 => ?_) (fun c52 => ?_)
                                 · skip
                                   refine bs_lit (k := 0) rfl rfl fun z53 hz53 => ?_
                                   refine bs_zret rfl rfl (by omega) (by omega) ?_
                                   rw [← hQ47]
                                   refine (show Ev _ 22 ([some (.ref 69), some (.int x1), some (.int x2), some (.int x3), none], [.int z53], (0, 0), hp2) _ from ?_)
                                   refine bs_ifne rfl (fun c54 => ?_) (fun c54 => ?_)
                                   · exfalso; omega
                                   · skip
                                     refine bs_lit (k := -1) rfl rfl fun z55 hz55 => ?_
                                     exact Ev.ret rfl rfl (by rw [hQ]; exact ⟨t, Hhp2, Fhp2, bs_an0, sf_S_nil⟩)
                                 · skip
                                   refine bs_lit (k := 1) rfl rfl fun z56 hz56 => ?_
                                   exact by
                                    refine Ev.step (j := 15) (s' := ([some (.int x3), some (.int z45), some (.int z46)], [.int z56], (0, 0), hp2)) rfl rfl ?_
                                    refine bs_zret rfl rfl (by omega) (by omega) ?_
                                    rw [← hQ47]
                                    refine (show Ev _ 22 ([some (.ref 69), some (.int x1), some (.int x2), some (.int x3), none], [.int z56], (0, 0), hp2) _ from ?_)
                                    refine bs_ifne rfl (fun c57 => ?_) (fun c57 => ?_)
                                    · skip
                                      refine Ev.step (j := 28) (s' := ([some (.ref 69), some (.int x1), some (.int x2), some (.int x3), none], [.ref 69], (0, 0), hp2)) rfl rfl ?_
                                      refine Ev.step (j := 29) (s' := ([some (.ref 69), some (.int x1), some (.int x2), some (.int x3), none], [.int x1, .ref 69], (0, 0), hp2)) rfl rfl ?_
                                      refine Ev.step (j := 30) (s' := ([some (.ref 69), some (.int x1), some (.int x2), some (.int x3), none], [.int x2, .int x1, .ref 69], (0, 0), hp2)) rfl rfl ?_
                                      refine Ev.inlS (L := L_X11_cell) (nL := 2) rfl rfl (Nat.le_of_ble_eq_true rfl) ?_
                                      generalize hQ58 : (fun (o : ab_O) => Ev _ _ _ _) = Q58
                                      refine (show Ev (ab_T L_X11_cell) 0 ([some (.int x1), some (.int x2)], [], (0, 0), hp2) Q58 from ?_)
                                      exact by
                                       refine bs_lit (k := 2) rfl rfl fun z59 hz59 => ?_
                                       refine Ev.step (j := 2) (s' := ([some (.int x1), some (.int x2)], [.int x1, .int z59], (0, 0), hp2)) rfl rfl ?_
                                       refine bs_mul (2) rfl (Or.inl hz59) (by rw [hz59]; omega) (by rw [hz59]; omega) fun z60 hz60 => ?_
                                       rw [hz59] at hz60
                                       refine Ev.step (j := 4) (s' := ([some (.int x1), some (.int x2)], [.int x2, .int z60], (0, 0), hp2)) rfl rfl ?_
                                       first | (refine bs_add rfl (by omega) (by omega) fun z61 hz61 => ?_) | (refine bs_any rfl fun z61 => ?_)
                                       have rz61 := n_range z61
                                       refine Ev.ret rfl rfl ?_
                                       rw [← hQ58]
                                       refine (show Ev _ 33 ([some (.ref 69), some (.int x1), some (.int x2), some (.int x3), none], [.int z61, .ref 69], (0, 0), hp2) _ from ?_)
                                       exact by
                                        refine Ev.step (j := 34) (s' := ([some (.ref 69), some (.int x1), some (.int x2), some (.int x3), none], [.int x3, .int z61, .ref 69], (0, 0), hp2)) rfl rfl ?_
                                        refine Ev.inl (L := L_X11_whyBare) (nL := 3) rfl (bs_rcv (g := 11) Hhp2 (bs_R.uq Hhp2 (g := 11) rfl) (by decide) rfl) rfl (Nat.le_of_ble_eq_true rfl) ?_
                                        generalize hQ62 : (fun (o : ab_O) => Ev _ _ _ _) = Q62
                                        refine (show Ev (ab_T L_X11_whyBare) 0 ([some (.ref 69), some (.int z61), some (.int x3)], [], (0, 0), hp2) Q62 from ?_)
                                        refine Ev.step (j := 1) (s' := ([some (.ref 69), some (.int z61), some (.int x3)], [.ref 69], (0, 0), hp2)) rfl rfl ?_
                                        refine bs_getU (g := 11) (g1 := 132) rfl rfl Hhp2 (bs_R.uq Hhp2 (g := 11) rfl) (by decide) rfl rfl ?_
                                        refine bs_lit (k := 136) rfl rfl fun z63 hz63 => ?_
                                        refine Ev.step (j := 8) (s' := ([some (.ref 69), some (.int z61), some (.int x3)], [.int z61, .int z63, .ref 71], (0, 0), hp2)) rfl rfl ?_
                                        first | (refine bs_add rfl (by omega) (by omega) fun z64 hz64 => ?_) | (refine bs_any rfl fun z64 => ?_)
                                        have rz64 := n_range z64
                                        refine bs_ld (g := 132) 136 147 (-2147483648, 2147483647) rfl Hhp2 (bs_R.uq Hhp2 (g := 132) rfl) (by decide) rfl (by decide) (by decide) rfl (by decide) (by omega) (by omega) fun z65 hz65 lz65 gz65 => ?_
                                        dsimp only at lz65 gz65
                                        refine Ev.step (j := 11) (s' := ([some (.ref 69), some (.int z61), some (.int x3)], [.int x3, .int z65], (0, 0), hp2)) rfl rfl ?_
                                        exact by
                                         refine bs_ge rfl (fun c66 => ?_) (fun c66 => ?_)
                                         · skip
                                           refine Ev.step (j := 19) (s' := ([some (.ref 69), some (.int z61), some (.int x3)], [.ref 69], (0, 0), hp2)) rfl rfl ?_
                                           refine bs_getU (g := 11) (g1 := 132) rfl rfl Hhp2 (bs_R.uq Hhp2 (g := 11) rfl) (by decide) rfl rfl ?_
                                           refine bs_lit (k := 124) rfl rfl fun z67 hz67 => ?_
                                           refine Ev.step (j := 25) (s' := ([some (.ref 69), some (.int z61), some (.int x3)], [.int z61, .int z67, .ref 71], (0, 0), hp2)) rfl rfl ?_
                                           first | (refine bs_add rfl (by omega) (by omega) fun z68 hz68 => ?_) | (refine bs_any rfl fun z68 => ?_)
                                           have rz68 := n_range z68
                                           refine bs_ld (g := 132) 124 135 (0, 999) rfl Hhp2 (bs_R.uq Hhp2 (g := 132) rfl) (by decide) rfl (by decide) (by decide) rfl (by decide) (by omega) (by omega) fun z69 hz69 lz69 gz69 => ?_
                                           dsimp only at lz69 gz69
                                           refine Ev.step (j := 28) (s' := ([some (.ref 69), some (.int z61), some (.int x3)], [.int x3, .int z69], (0, 0), hp2)) rfl rfl ?_
                                           first | (refine bs_add rfl (by omega) (by omega) fun z70 hz70 => ?_) | (refine bs_any rfl fun z70 => ?_)
                                           have rz70 := n_range z70
                                           refine bs_lit (k := 999) rfl rfl fun z71 hz71 => ?_
                                           exact by
                                            refine bs_le rfl (fun c72 => ?_) (fun c72 => ?_)
                                            · skip
                                              refine bs_lit (k := 0) rfl rfl fun z73 hz73 => ?_
                                              refine Ev.ret rfl rfl ?_
                                              rw [← hQ62]
                                              refine (show Ev _ 37 ([some (.ref 69), some (.int x1), some (.int x2), some (.int x3), none], [.int z73], (0, 0), hp2) _ from ?_)
                                              refine Ev.step (j := 39) (s' := ([some (.ref 69), some (.int x1), some (.int x2), some (.int x3), some (.int z73)], [], (0, 0), hp2)) rfl rfl ?_
                                              refine Ev.step (j := 41) (s' := ([some (.ref 69), some (.int x1), some (.int x2), some (.int x3), some (.int z73)], [.int z73], (0, 0), hp2)) rfl rfl ?_
                                              refine bs_ifle rfl (fun c74 => ?_) (fun c74 => ?_)
                                              · skip
                                                refine Ev.step (j := 48) (s' := ([some (.ref 69), some (.int x1), some (.int x2), some (.int x3), some (.int z73)], [.ref 69], (0, 0), hp2)) rfl rfl ?_
                                                exact by
                                                 refine bs_call (K := kq_X11_keep_h) [.ref 69] [] rfl ct_X11_keep_h Hhp2 rfl rfl rfl (bs_rcv (g := 11) Hhp2 (bs_R.uq Hhp2 (g := 11) rfl) (by decide) rfl) rfl ?_ (sf_S_nil) fun r75 hp76 thp76 Hhp76 fhp76 ahp76 php76 => ?_
                                                 · intro q k h
                                                   match q, h with
                                                   | 0, h => cases h; exact bs_jR (bs_R.uq Hhp2 (g := 11) rfl)
                                                   | q + 1, h => cases h
                                                 obtain rfl := ahp76.1 rfl
                                                 have Fhp76 := sf_fr_tr Fhp2 (sf_fr_wider (W := [(11, 0, 0), (11, 25, 25), (132, 124, 147), (138, 0, 1063)]) rfl fhp76)
                                                 have h77 : sf_rd hp76 69 0 = some z1.toInt := (fhp76.2.2.1 _ (bs_R.uq Hhp2 (g := 11) (p := 69) rfl).1 _ (by rw [(bs_R.uq Hhp2 (g := 11) (p := 69) rfl).2]; rfl)).trans rhp2
                                                 have h78 : sf_rd hp76 71 0 = some z7.toInt := (fhp76.2.2.1 _ (bs_R.uq Hhp2 (g := 132) (p := 71) rfl).1 _ (by rw [(bs_R.uq Hhp2 (g := 132) (p := 71) rfl).2]; rfl)).trans hz7
                                                 have h79 : sf_rd hp76 71 z64.toInt.toNat = some z65.toInt := (fhp76.2.2.1 _ (bs_R.uq Hhp2 (g := 132) (p := 71) rfl).1 _ (by rw [(bs_R.uq Hhp2 (g := 132) (p := 71) rfl).2]; rfl)).trans hz65
                                                 have h80 : sf_rd hp76 71 z68.toInt.toNat = some z69.toInt := (fhp76.2.2.1 _ (bs_R.uq Hhp2 (g := 132) (p := 71) rfl).1 _ (by rw [(bs_R.uq Hhp2 (g := 132) (p := 71) rfl).2]; rfl)).trans hz69
                                                 refine (show Ev _ 51 ([some (.ref 69), some (.int x1), some (.int x2), some (.int x3), some (.int z73)], [], (0, 0), hp76) _ from ?_)
                                                 exact by
                                                  refine Ev.step (j := 52) (s' := ([some (.ref 69), some (.int x1), some (.int x2), some (.int x3), some (.int z73)], [.ref 69], (0, 0), hp76)) rfl rfl ?_
                                                  refine Ev.step (j := 53) (s' := ([some (.ref 69), some (.int x1), some (.int x2), some (.int x3), some (.int z73)], [.int x1, .ref 69], (0, 0), hp76)) rfl rfl ?_
                                                  refine Ev.step (j := 54) (s' := ([some (.ref 69), some (.int x1), some (.int x2), some (.int x3), some (.int z73)], [.int x2, .int x1, .ref 69], (0, 0), hp76)) rfl rfl ?_
                                                  refine Ev.inlS (L := L_X11_cell) (nL := 2) rfl rfl (Nat.le_of_ble_eq_true rfl) ?_
                                                  generalize hQ81 : (fun (o : ab_O) => Ev _ _ _ _) = Q81
                                                  refine (show Ev (ab_T L_X11_cell) 0 ([some (.int x1), some (.int x2)], [], (0, 0), hp76) Q81 from ?_)
                                                  refine bs_lit (k := 2) rfl rfl fun z82 hz82 => ?_
                                                  refine Ev.step (j := 2) (s' := ([some (.int x1), some (.int x2)], [.int x1, .int z82], (0, 0), hp76)) rfl rfl ?_
                                                  refine bs_mul (2) rfl (Or.inl hz82) (by rw [hz82]; omega) (by rw [hz82]; omega) fun z83 hz83 => ?_
                                                  rw [hz82] at hz83
                                                  refine Ev.step (j := 4) (s' := ([some (.int x1), some (.int x2)], [.int x2, .int z83], (0, 0), hp76)) rfl rfl ?_
                                                  first | (refine bs_add rfl (by omega) (by omega) fun z84 hz84 => ?_) | (refine bs_any rfl fun z84 => ?_)
                                                  have rz84 := n_range z84
                                                  refine Ev.ret rfl rfl ?_
                                                  rw [← hQ81]
                                                  refine (show Ev _ 57 ([some (.ref 69), some (.int x1), some (.int x2), some (.int x3), some (.int z73)], [.int z84, .ref 69], (0, 0), hp76) _ from ?_)
                                                  exact by
                                                   refine Ev.step (j := 58) (s' := ([some (.ref 69), some (.int x1), some (.int x2), some (.int x3), some (.int z73)], [.int x3, .int z84, .ref 69], (0, 0), hp76)) rfl rfl ?_
                                                   refine bs_neg rfl (by omega) fun z85 hz85 => ?_
                                                   refine Ev.inl (L := L_X11_hoards) (nL := 3) rfl (bs_rcv (g := 11) Hhp76 (bs_R.uq Hhp76 (g := 11) rfl) (by decide) rfl) rfl (Nat.le_of_ble_eq_true rfl) ?_
                                                   generalize hQ86 : (fun (o : ab_O) => Ev _ _ _ _) = Q86
                                                   refine (show Ev (ab_T L_X11_hoards) 0 ([some (.ref 69), some (.int z84), some (.int z85)], [], (0, 0), hp76) Q86 from ?_)
                                                   refine Ev.step (j := 1) (s' := ([some (.ref 69), some (.int z84), some (.int z85)], [.ref 69], (0, 0), hp76)) rfl rfl ?_
                                                   refine bs_getU (g := 11) (g1 := 132) rfl rfl Hhp76 (bs_R.uq Hhp76 (g := 11) rfl) (by decide) rfl rfl ?_
                                                   refine bs_lit (k := 124) rfl rfl fun z87 hz87 => ?_
                                                   refine Ev.step (j := 7) (s' := ([some (.ref 69), some (.int z84), some (.int z85)], [.int z84, .int z87, .ref 71], (0, 0), hp76)) rfl rfl ?_
                                                   first | (refine bs_add rfl (by omega) (by omega) fun z88 hz88 => ?_) | (refine bs_any rfl fun z88 => ?_)
                                                   have rz88 := n_range z88
                                                   refine Ev.step (j := 9) (s' := ([some (.ref 69), some (.int z84), some (.int z85)], [.int z88, .ref 71, .int z88, .ref 71], (0, 0), hp76)) rfl rfl ?_
                                                   exact by
                                                    refine bs_ld (g := 132) 124 135 (0, 999) rfl Hhp76 (bs_R.uq Hhp76 (g := 132) rfl) (by decide) rfl (by decide) (by decide) rfl (by decide) (by omega) (by omega) fun z89 hz89 lz89 gz89 => ?_
                                                    dsimp only at lz89 gz89
                                                    have e90 : z89.toInt = z69.toInt := Option.some.inj ((bs_at hz89 (by omega)).symm.trans ((fhp76.2.2.1 _ (bs_R.uq Hhp2 (g := 132) (p := 71) rfl).1 _ (by rw [(bs_R.uq Hhp2 (g := 132) (p := 71) rfl).2]; rfl)).trans hz69))
                                                    refine Ev.step (j := 11) (s' := ([some (.ref 69), some (.int z84), some (.int z85)], [.int z85, .int z89, .int z88, .ref 71], (0, 0), hp76)) rfl rfl ?_
                                                    first | (refine bs_sub rfl (by omega) (by omega) fun z91 hz91 => ?_) | (refine bs_any rfl fun z91 => ?_)
                                                    have rz91 := n_range z91
                                                    refine bs_st (W := [(132, 124, 135)]) (g := 132) 124 135 (0, 999) rfl Hhp76 (bs_R.uq Hhp76 (g := 132) rfl) (by decide) rfl rfl (by decide) rfl rfl (by omega) (by omega) (by dsimp only; omega) (by dsimp only; omega) fun hp92 Hhp92 fhp92 rhp92 ehp92 qhp92 nhp92 => ?_
                                                    have Fhp92 := sf_fr_tr Fhp76 (sf_fr_wider (W := [(11, 0, 0), (11, 25, 25), (132, 124, 147), (138, 0, 1063)]) rfl fhp92)
                                                    have h93 : sf_rd hp92 69 0 = some z1.toInt := (ehp92 _ _ (Or.inl (by decide))).trans h77
                                                    have h94 : sf_rd hp92 71 0 = some z7.toInt := (ehp92 _ _ (Or.inr (by omega))).trans h78
                                                    refine Ev.step (j := 14) (s' := ([some (.ref 69), some (.int z84), some (.int z85)], [.ref 69], (0, 0), hp92)) rfl rfl ?_
                                                    exact by
                                                     refine bs_getU (g := 11) (g1 := 132) rfl rfl Hhp92 (bs_R.uq Hhp92 (g := 11) rfl) (by decide) rfl rfl ?_
                                                     refine bs_lit (k := 136) rfl rfl fun z95 hz95 => ?_
                                                     refine Ev.step (j := 21) (s' := ([some (.ref 69), some (.int z84), some (.int z85)], [.int z84, .int z95, .ref 71], (0, 0), hp92)) rfl rfl ?_
                                                     first | (refine bs_add rfl (by omega) (by omega) fun z96 hz96 => ?_) | (refine bs_any rfl fun z96 => ?_)
                                                     have rz96 := n_range z96
                                                     refine Ev.step (j := 23) (s' := ([some (.ref 69), some (.int z84), some (.int z85)], [.int z96, .ref 71, .int z96, .ref 71], (0, 0), hp92)) rfl rfl ?_
                                                     refine bs_ld (g := 132) 136 147 (-2147483648, 2147483647) rfl Hhp92 (bs_R.uq Hhp92 (g := 132) rfl) (by decide) rfl (by decide) (by decide) rfl (by decide) (by omega) (by omega) fun z97 hz97 lz97 gz97 => ?_
                                                     dsimp only at lz97 gz97
                                                     refine Ev.step (j := 25) (s' := ([some (.ref 69), some (.int z84), some (.int z85)], [.int z85, .int z97, .int z96, .ref 71], (0, 0), hp92)) rfl rfl ?_
                                                     first | (refine bs_add rfl (by omega) (by omega) fun z98 hz98 => ?_) | (refine bs_any rfl fun z98 => ?_)
                                                     have rz98 := n_range z98
                                                     refine bs_st (W := [(132, 136, 147)]) (g := 132) 136 147 (-2147483648, 2147483647) rfl Hhp92 (bs_R.uq Hhp92 (g := 132) rfl) (by decide) rfl rfl (by decide) rfl rfl (by omega) (by omega) (by dsimp only; omega) (by dsimp only; omega) fun hp99 Hhp99 fhp99 rhp99 ehp99 qhp99 nhp99 => ?_
                                                     have Fhp99 := sf_fr_tr Fhp92 (sf_fr_wider (W := [(11, 0, 0), (11, 25, 25), (132, 124, 147), (138, 0, 1063)]) rfl fhp99)
                                                     have h100 : sf_rd hp99 69 0 = some z1.toInt := (ehp99 _ _ (Or.inl (by decide))).trans h93
                                                     have h101 : sf_rd hp99 71 0 = some z7.toInt := (ehp99 _ _ (Or.inr (by omega))).trans h94
                                                     refine Ev.ret rfl rfl ?_
                                                     rw [← hQ86]
                                                     refine (show Ev _ 62 ([some (.ref 69), some (.int x1), some (.int x2), some (.int x3), some (.int z73)], [], (0, 0), hp99) _ from ?_)
                                                     exact by
                                                      refine bs_lit (k := 0) rfl rfl fun z102 hz102 => ?_
                                                      exact Ev.ret rfl rfl (by rw [hQ]; exact ⟨thp76, Hhp99, Fhp99, bs_an0, sf_S_nil⟩)
                                              · exfalso; omega
                                            · skip
                                              refine bs_lit (k := 2) rfl rfl fun z103 hz103 => ?_
                                              exact by
                                               refine Ev.step (j := 40) (s' := ([some (.ref 69), some (.int z61), some (.int x3)], [.int z103], (0, 0), hp2)) rfl rfl ?_
                                               refine Ev.ret rfl rfl ?_
                                               rw [← hQ62]
                                               refine (show Ev _ 37 ([some (.ref 69), some (.int x1), some (.int x2), some (.int x3), none], [.int z103], (0, 0), hp2) _ from ?_)
                                               refine Ev.step (j := 39) (s' := ([some (.ref 69), some (.int x1), some (.int x2), some (.int x3), some (.int z103)], [], (0, 0), hp2)) rfl rfl ?_
                                               refine Ev.step (j := 41) (s' := ([some (.ref 69), some (.int x1), some (.int x2), some (.int x3), some (.int z103)], [.int z103], (0, 0), hp2)) rfl rfl ?_
                                               refine bs_ifle rfl (fun c104 => ?_) (fun c104 => ?_)
                                               · exfalso; omega
                                               · skip
                                                 refine Ev.step (j := 46) (s' := ([some (.ref 69), some (.int x1), some (.int x2), some (.int x3), some (.int z103)], [.int z103], (0, 0), hp2)) rfl rfl ?_
                                                 exact Ev.ret rfl rfl (by rw [hQ]; exact ⟨t, Hhp2, Fhp2, bs_an0, sf_S_nil⟩)
                                         · skip
                                           refine bs_lit (k := 1) rfl rfl fun z105 hz105 => ?_
                                           exact by
                                            refine Ev.step (j := 40) (s' := ([some (.ref 69), some (.int z61), some (.int x3)], [.int z105], (0, 0), hp2)) rfl rfl ?_
                                            refine Ev.ret rfl rfl ?_
                                            rw [← hQ62]
                                            refine (show Ev _ 37 ([some (.ref 69), some (.int x1), some (.int x2), some (.int x3), none], [.int z105], (0, 0), hp2) _ from ?_)
                                            refine Ev.step (j := 39) (s' := ([some (.ref 69), some (.int x1), some (.int x2), some (.int x3), some (.int z105)], [], (0, 0), hp2)) rfl rfl ?_
                                            refine Ev.step (j := 41) (s' := ([some (.ref 69), some (.int x1), some (.int x2), some (.int x3), some (.int z105)], [.int z105], (0, 0), hp2)) rfl rfl ?_
                                            refine bs_ifle rfl (fun c106 => ?_) (fun c106 => ?_)
                                            · exfalso; omega
                                            · skip
                                              refine Ev.step (j := 46) (s' := ([some (.ref 69), some (.int x1), some (.int x2), some (.int x3), some (.int z105)], [.int z105], (0, 0), hp2)) rfl rfl ?_
                                              exact Ev.ret rfl rfl (by rw [hQ]; exact ⟨t, Hhp2, Fhp2, bs_an0, sf_S_nil⟩)
                                    · exfalso; omega
def kq_X11_waste_h : sf_Q := ([(1, 11, 0), (0, 0, 0), (0, 0, 0), (0, 0, 0)], [], some (0, 0, 0), [], [(11, 0, 0), (11, 25, 25), (132, 124, 135), (138, 0, 1063)])
set_option maxRecDepth 100000 in
set_option maxHeartbeats 4000000 in
theorem ct_X11_waste_h : sf_ct kq_X11_waste_h Z_X11_waste := by
  intro t hp as H hl hj hpre
  match as, hl with
  | [v0, v1, v2, v3], _ =>
    obtain ⟨a0, rfl, ra0⟩ := bs_aR (hj 0 _ rfl)
    obtain rfl := ra0.eq H (p := 69) rfl
    obtain ⟨x1, rfl⟩ := bs_aI (hj 1 _ rfl)
    have rg1 := n_range x1
    obtain ⟨x2, rfl⟩ := bs_aI (hj 2 _ rfl)
    have rg2 := n_range x2
    obtain ⟨x3, rfl⟩ := bs_aI (hj 3 _ rfl)
    have rg3 := n_range x3
    clear hpre hj
    have F0 : sf_fr [(11, 0, 0), (11, 25, 25), (132, 124, 135), (138, 0, 1063)] t hp t hp := sf_fr_rf
    refine bs_fin (K := kq_X11_waste_h) (L := (L_X11_waste Z_X11_isPlace Z_X11_isIn Z_X11_cell Z_X11_whyHoard Z_X11_keep)) (nL := 4) (Nat.le_of_ble_eq_true rfl) ?_
    obtain ⟨Q, hQ⟩ : ∃ Q : ab_O → Prop, Q = (fun o => ∃ t', sf_h t' o.2 ∧ sf_fr (kq_X11_waste_h).2.2.2.2 t hp t' o.2 ∧ sf_an t' o.2.1 (kq_X11_waste_h).2.2.1 o.1 ∧ sf_S (sf_v1 o.1 [.ref 69, .int x1, .int x2, .int x3] o.2) (kq_X11_waste_h).2.2.2.1) := ⟨_, rfl⟩
    rw [← hQ]
    refine (show Ev (ab_T (L_X11_waste Z_X11_isPlace Z_X11_isIn Z_X11_cell Z_X11_whyHoard Z_X11_keep)) 0 ([some (.ref 69), some (.int x1), some (.int x2), some (.int x3)], [], (0, 0), hp) Q from ?_)
    exact by
     refine Ev.step (j := 1) (s' := ([some (.ref 69), some (.int x1), some (.int x2), some (.int x3)], [.ref 69], (0, 0), hp)) rfl rfl ?_
     refine bs_lit (k := 0) rfl rfl fun z1 hz1 => ?_
     refine bs_putI (W := [(11, 0, 0)]) (g := 11) rfl rfl H (bs_R.uq H (g := 11) rfl) (by decide) rfl rfl rfl rfl (Or.inl rfl) (by omega) (by omega) fun hp2 Hhp2 fhp2 rhp2 ehp2 qhp2 nhp2 => ?_
     have Fhp2 := sf_fr_tr F0 (sf_fr_wider (W := [(11, 0, 0), (11, 25, 25), (132, 124, 135), (138, 0, 1063)]) rfl fhp2)
     refine Ev.step (j := 6) (s' := ([some (.ref 69), some (.int x1), some (.int x2), some (.int x3)], [.ref 69], (0, 0), hp2)) rfl rfl ?_
     refine Ev.step (j := 7) (s' := ([some (.ref 69), some (.int x1), some (.int x2), some (.int x3)], [.int x1, .ref 69], (0, 0), hp2)) rfl rfl ?_
     refine Ev.step (j := 8) (s' := ([some (.ref 69), some (.int x1), some (.int x2), some (.int x3)], [.int x2, .int x1, .ref 69], (0, 0), hp2)) rfl rfl ?_
     refine Ev.inl (L := (L_X11_isPlace Z_X11_isGood Z_X11_isShore)) (nL := 3) rfl (bs_rcv (g := 11) Hhp2 (bs_R.uq Hhp2 (g := 11) rfl) (by decide) rfl) rfl (Nat.le_of_ble_eq_true rfl) ?_
     generalize hQ3 : (fun (o : ab_O) => Ev _ _ _ _) = Q3
     refine (show Ev (ab_T (L_X11_isPlace Z_X11_isGood Z_X11_isShore)) 0 ([some (.ref 69), some (.int x1), some (.int x2)], [], (0, 0), hp2) Q3 from ?_)
     exact by
      refine Ev.step (j := 1) (s' := ([some (.ref 69), some (.int x1), some (.int x2)], [.ref 69], (0, 0), hp2)) rfl rfl ?_
      refine Ev.step (j := 2) (s' := ([some (.ref 69), some (.int x1), some (.int x2)], [.int x1, .ref 69], (0, 0), hp2)) rfl rfl ?_
      refine Ev.inl (L := (L_X11_isGood Z_X11_isIn)) (nL := 2) rfl (bs_rcv (g := 11) Hhp2 (bs_R.uq Hhp2 (g := 11) rfl) (by decide) rfl) rfl (Nat.le_of_ble_eq_true rfl) ?_
      generalize hQ4 : (fun (o : ab_O) => Ev _ _ _ _) = Q4
      refine (show Ev (ab_T (L_X11_isGood Z_X11_isIn)) 0 ([some (.ref 69), some (.int x1)], [], (0, 0), hp2) Q4 from ?_)
      refine Ev.step (j := 1) (s' := ([some (.ref 69), some (.int x1)], [.int x1], (0, 0), hp2)) rfl rfl ?_
      refine bs_lit (k := 0) rfl rfl fun z5 hz5 => ?_
      refine Ev.step (j := 3) (s' := ([some (.ref 69), some (.int x1)], [.ref 69, .int z5, .int x1], (0, 0), hp2)) rfl rfl ?_
      refine bs_getU (g := 11) (g1 := 132) rfl rfl Hhp2 (bs_R.uq Hhp2 (g := 11) rfl) (by decide) rfl rfl ?_
      exact by
       refine bs_lit (k := 0) rfl rfl fun z6 hz6 => ?_
       refine bs_ld (g := 132) 0 0 (0, 6) rfl Hhp2 (bs_R.uq Hhp2 (g := 132) rfl) (by decide) rfl (by decide) (by decide) rfl (by decide) (by omega) (by omega) fun z7 hz7 lz7 gz7 => ?_
       dsimp only at lz7 gz7
       replace hz7 := bs_at hz7 (show z6.toInt.toNat = 0 by omega)
       refine bs_lit (k := 1) rfl rfl fun z8 hz8 => ?_
       first | (refine bs_sub rfl (by omega) (by omega) fun z9 hz9 => ?_) | (refine bs_any rfl fun z9 => ?_)
       have rz9 := n_range z9
       refine Ev.inlS (L := L_X11_isIn) (nL := 3) rfl rfl (Nat.le_of_ble_eq_true rfl) ?_
       generalize hQ10 : (fun (o : ab_O) => Ev _ _ _ _) = Q10
       refine (show Ev (ab_T L_X11_isIn) 0 ([some (.int x1), some (.int z5), some (.int z9)], [], (0, 0), hp2) Q10 from ?_)
       exact by
        refine Ev.step (j := 1) (s' := ([some (.int x1), some (.int z5), some (.int z9)], [.int x1], (0, 0), hp2)) rfl rfl ?_
        refine Ev.step (j := 2) (s' := ([some (.int x1), some (.int z5), some (.int z9)], [.int z5, .int x1], (0, 0), hp2)) rfl rfl ?_
        refine bs_lt rfl (fun c11 => ?_) (fun c11 => ?_)
        · skip
          refine bs_lit (k := 0) rfl rfl fun z12 hz12 => ?_
          refine bs_zret rfl rfl (by omega) (by omega) ?_
          rw [← hQ10]
          refine (show Ev _ 13 ([some (.ref 69), some (.int x1)], [.int z12], (0, 0), hp2) _ from ?_)
          refine bs_zret rfl rfl (by omega) (by omega) ?_
          rw [← hQ4]
          refine (show Ev _ 5 ([some (.ref 69), some (.int x1), some (.int x2)], [.int z12], (0, 0), hp2) _ from ?_)
          exact by
           refine bs_ifeq rfl (fun c13 => ?_) (fun c13 => ?_)
           · skip
             refine bs_lit (k := 0) rfl rfl fun z14 hz14 => ?_
             refine bs_zret rfl rfl (by omega) (by omega) ?_
             rw [← hQ3]
             refine (show Ev _ 11 ([some (.ref 69), some (.int x1), some (.int x2), some (.int x3)], [.int z14], (0, 0), hp2) _ from ?_)
             refine bs_ifeq rfl (fun c15 => ?_) (fun c15 => ?_)
             · skip
               refine bs_lit (k := -1) rfl rfl fun z16 hz16 => ?_
               exact Ev.ret rfl rfl (by rw [hQ]; exact ⟨t, Hhp2, Fhp2, bs_an0, sf_S_nil⟩)
             · exfalso; omega
           · exfalso; omega
        · skip
          refine Ev.step (j := 6) (s' := ([some (.int x1), some (.int z5), some (.int z9)], [.int x1], (0, 0), hp2)) rfl rfl ?_
          exact by
           refine Ev.step (j := 7) (s' := ([some (.int x1), some (.int z5), some (.int z9)], [.int z9, .int x1], (0, 0), hp2)) rfl rfl ?_
           refine bs_gt rfl (fun c17 => ?_) (fun c17 => ?_)
           · skip
             refine bs_lit (k := 0) rfl rfl fun z18 hz18 => ?_
             refine bs_zret rfl rfl (by omega) (by omega) ?_
             rw [← hQ10]
             refine (show Ev _ 13 ([some (.ref 69), some (.int x1)], [.int z18], (0, 0), hp2) _ from ?_)
             refine bs_zret rfl rfl (by omega) (by omega) ?_
             rw [← hQ4]
             refine (show Ev _ 5 ([some (.ref 69), some (.int x1), some (.int x2)], [.int z18], (0, 0), hp2) _ from ?_)
             refine bs_ifeq rfl (fun c19 => ?_) (fun c19 => ?_)
             · skip
               refine bs_lit (k := 0) rfl rfl fun z20 hz20 => ?_
               exact by
                refine bs_zret rfl rfl (by omega) (by omega) ?_
                rw [← hQ3]
                refine (show Ev _ 11 ([some (.ref 69), some (.int x1), some (.int x2), some (.int x3)], [.int z20], (0, 0), hp2) _ from ?_)
                refine bs_ifeq rfl (fun c21 => ?_) (fun c21 => ?_)
                · skip
                  refine bs_lit (k := -1) rfl rfl fun z22 hz22 => ?_
                  exact Ev.ret rfl rfl (by rw [hQ]; exact ⟨t, Hhp2, Fhp2, bs_an0, sf_S_nil⟩)
                · exfalso; omega
             · exfalso; omega
           · skip
             refine bs_lit (k := 1) rfl rfl fun z23 hz23 => ?_
             exact by
              refine Ev.step (j := 15) (s' := ([some (.int x1), some (.int z5), some (.int z9)], [.int z23], (0, 0), hp2)) rfl rfl ?_
              refine bs_zret rfl rfl (by omega) (by omega) ?_
              rw [← hQ10]
              refine (show Ev _ 13 ([some (.ref 69), some (.int x1)], [.int z23], (0, 0), hp2) _ from ?_)
              refine bs_zret rfl rfl (by omega) (by omega) ?_
              rw [← hQ4]
              refine (show Ev _ 5 ([some (.ref 69), some (.int x1), some (.int x2)], [.int z23], (0, 0), hp2) _ from ?_)
              refine bs_ifeq rfl (fun c24 => ?_) (fun c24 => ?_)
              · exfalso; omega
              · skip
                refine Ev.step (j := 9) (s' := ([some (.ref 69), some (.int x1), some (.int x2)], [.ref 69], (0, 0), hp2)) rfl rfl ?_
                refine Ev.step (j := 10) (s' := ([some (.ref 69), some (.int x1), some (.int x2)], [.int x2, .ref 69], (0, 0), hp2)) rfl rfl ?_
                exact by
                 refine Ev.inl (L := (L_X11_isShore Z_X11_isIn)) (nL := 2) rfl (bs_rcv (g := 11) Hhp2 (bs_R.uq Hhp2 (g := 11) rfl) (by decide) rfl) rfl (Nat.le_of_ble_eq_true rfl) ?_
                 generalize hQ25 : (fun (o : ab_O) => Ev _ _ _ _) = Q25
                 refine (show Ev (ab_T (L_X11_isShore Z_X11_isIn)) 0 ([some (.ref 69), some (.int x2)], [], (0, 0), hp2) Q25 from ?_)
                 refine Ev.step (j := 1) (s' := ([some (.ref 69), some (.int x2)], [.int x2], (0, 0), hp2)) rfl rfl ?_
                 refine bs_lit (k := 0) rfl rfl fun z26 hz26 => ?_
                 refine bs_lit (k := 1) rfl rfl fun z27 hz27 => ?_
                 refine Ev.inlS (L := L_X11_isIn) (nL := 3) rfl rfl (Nat.le_of_ble_eq_true rfl) ?_
                 generalize hQ28 : (fun (o : ab_O) => Ev _ _ _ _) = Q28
                 refine (show Ev (ab_T L_X11_isIn) 0 ([some (.int x2), some (.int z26), some (.int z27)], [], (0, 0), hp2) Q28 from ?_)
                 refine Ev.step (j := 1) (s' := ([some (.int x2), some (.int z26), some (.int z27)], [.int x2], (0, 0), hp2)) rfl rfl ?_
                 exact by
                  refine Ev.step (j := 2) (s' := ([some (.int x2), some (.int z26), some (.int z27)], [.int z26, .int x2], (0, 0), hp2)) rfl rfl ?_
                  refine bs_lt rfl (fun c29 => ?_) (fun c29 => ?_)
                  · skip
                    refine bs_lit (k := 0) rfl rfl fun z30 hz30 => ?_
                    refine bs_zret rfl rfl (by omega) (by omega) ?_
                    rw [← hQ28]
                    refine (show Ev _ 6 ([some (.ref 69), some (.int x2)], [.int z30], (0, 0), hp2) _ from ?_)
                    refine bs_zret rfl rfl (by omega) (by omega) ?_
                    rw [← hQ25]
                    refine (show Ev _ 13 ([some (.ref 69), some (.int x1), some (.int x2)], [.int z30], (0, 0), hp2) _ from ?_)
                    refine bs_ifeq rfl (fun c31 => ?_) (fun c31 => ?_)
                    · skip
                      refine bs_lit (k := 0) rfl rfl fun z32 hz32 => ?_
                      exact by
                       refine bs_zret rfl rfl (by omega) (by omega) ?_
                       rw [← hQ3]
                       refine (show Ev _ 11 ([some (.ref 69), some (.int x1), some (.int x2), some (.int x3)], [.int z32], (0, 0), hp2) _ from ?_)
                       refine bs_ifeq rfl (fun c33 => ?_) (fun c33 => ?_)
                       · skip
                         refine bs_lit (k := -1) rfl rfl fun z34 hz34 => ?_
                         exact Ev.ret rfl rfl (by rw [hQ]; exact ⟨t, Hhp2, Fhp2, bs_an0, sf_S_nil⟩)
                       · exfalso; omega
                    · exfalso; omega
                  · skip
                    refine Ev.step (j := 6) (s' := ([some (.int x2), some (.int z26), some (.int z27)], [.int x2], (0, 0), hp2)) rfl rfl ?_
                    exact by
                     refine Ev.step (j := 7) (s' := ([some (.int x2), some (.int z26), some (.int z27)], [.int z27, .int x2], (0, 0), hp2)) rfl rfl ?_
                     refine bs_gt rfl (fun c35 => ?_) (fun c35 => ?_)
                     · skip
                       refine bs_lit (k := 0) rfl rfl fun z36 hz36 => ?_
                       refine bs_zret rfl rfl (by omega) (by omega) ?_
                       rw [← hQ28]
                       refine (show Ev _ 6 ([some (.ref 69), some (.int x2)], [.int z36], (0, 0), hp2) _ from ?_)
                       refine bs_zret rfl rfl (by omega) (by omega) ?_
                       rw [← hQ25]
                       refine (show Ev _ 13 ([some (.ref 69), some (.int x1), some (.int x2)], [.int z36], (0, 0), hp2) _ from ?_)
                       refine bs_ifeq rfl (fun c37 => ?_) (fun c37 => ?_)
                       · skip
                         refine bs_lit (k := 0) rfl rfl fun z38 hz38 => ?_
                         exact by
                          refine bs_zret rfl rfl (by omega) (by omega) ?_
                          rw [← hQ3]
                          refine (show Ev _ 11 ([some (.ref 69), some (.int x1), some (.int x2), some (.int x3)], [.int z38], (0, 0), hp2) _ from ?_)
                          refine bs_ifeq rfl (fun c39 => ?_) (fun c39 => ?_)
                          · skip
                            refine bs_lit (k := -1) rfl rfl fun z40 hz40 => ?_
                            exact Ev.ret rfl rfl (by rw [hQ]; exact ⟨t, Hhp2, Fhp2, bs_an0, sf_S_nil⟩)
                          · exfalso; omega
                       · exfalso; omega
                     · skip
                       refine bs_lit (k := 1) rfl rfl fun z41 hz41 => ?_
                       exact by
                        refine Ev.step (j := 15) (s' := ([some (.int x2), some (.int z26), some (.int z27)], [.int z41], (0, 0), hp2)) rfl rfl ?_
                        refine bs_zret rfl rfl (by omega) (by omega) ?_
                        rw [← hQ28]
                        refine (show Ev _ 6 ([some (.ref 69), some (.int x2)], [.int z41], (0, 0), hp2) _ from ?_)
                        refine bs_zret rfl rfl (by omega) (by omega) ?_
                        rw [← hQ25]
                        refine (show Ev _ 13 ([some (.ref 69), some (.int x1), some (.int x2)], [.int z41], (0, 0), hp2) _ from ?_)
                        refine bs_ifeq rfl (fun c42 => ?_) (fun c42 => ?_)
                        · exfalso; omega
                        · skip
                          refine bs_lit (k := 1) rfl rfl fun z43 hz43 => ?_
                          refine Ev.step (j := 21) (s' := ([some (.ref 69), some (.int x1), some (.int x2)], [.int z43], (0, 0), hp2)) rfl rfl ?_
                          exact by
                           refine bs_zret rfl rfl (by omega) (by omega) ?_
                           rw [← hQ3]
                           refine (show Ev _ 11 ([some (.ref 69), some (.int x1), some (.int x2), some (.int x3)], [.int z43], (0, 0), hp2) _ from ?_)
                           refine bs_ifeq rfl (fun c44 => ?_) (fun c44 => ?_)
                           · exfalso; omega
                           · skip
                             refine Ev.step (j := 15) (s' := ([some (.ref 69), some (.int x1), some (.int x2), some (.int x3)], [.int x3], (0, 0), hp2)) rfl rfl ?_
                             refine bs_lit (k := 1) rfl rfl fun z45 hz45 => ?_
                             refine bs_lit (k := 250) rfl rfl fun z46 hz46 => ?_
                             refine Ev.inlS (L := L_X11_isIn) (nL := 3) rfl rfl (Nat.le_of_ble_eq_true rfl) ?_
                             generalize hQ47 : (fun (o : ab_O) => Ev _ _ _ _) = Q47
                             refine (show Ev (ab_T L_X11_isIn) 0 ([some (.int x3), some (.int z45), some (.int z46)], [], (0, 0), hp2) Q47 from ?_)
                             exact by
                              refine Ev.step (j := 1) (s' := ([some (.int x3), some (.int z45), some (.int z46)], [.int x3], (0, 0), hp2)) rfl rfl ?_
                              refine Ev.step (j := 2) (s' := ([some (.int x3), some (.int z45), some (.int z46)], [.int z45, .int x3], (0, 0), hp2)) rfl rfl ?_
                              refine bs_lt rfl (fun c48 => ?_) (fun c48 => ?_)
                              · skip
                                refine bs_lit (k := 0) rfl rfl fun z49 hz49 => ?_
                                refine bs_zret rfl rfl (by omega) (by omega) ?_
                                rw [← hQ47]
                                refine (show Ev _ 22 ([some (.ref 69), some (.int x1), some (.int x2), some (.int x3)], [.int z49], (0, 0), hp2) _ from ?_)
                                refine bs_ifne rfl (fun c50 => ?_) (fun c50 => ?_)
                                · exfalso; omega
                                · skip
                                  refine bs_lit (k := -1) rfl rfl fun z51 hz51 => ?_
                                  exact Ev.ret rfl rfl (by rw [hQ]; exact ⟨t, Hhp2, Fhp2, bs_an0, sf_S_nil⟩)
                              · skip
                                refine Ev.step (j := 6) (s' := ([some (.int x3), some (.int z45), some (.int z46)], [.int x3], (0, 0), hp2)) rfl rfl ?_
                                exact by
                                 refine Ev.step (j := 7) (s' := ([some (.int x3), some (.int z45), some (.int z46)], [.int z46, .int x3], (0, 0), hp2)) rfl rfl ?_
                                 refine bs_gt rfl (fun c52 => ?_) (fun c52 => ?_)
                                 · skip
                                   refine bs_lit (k := 0) rfl rfl fun z53 hz53 => ?_
                                   refine bs_zret rfl rfl (by omega) (by omega) ?_
                                   rw [← hQ47]
                                   refine (show Ev _ 22 ([some (.ref 69), some (.int x1), some (.int x2), some (.int x3)], [.int z53], (0, 0), hp2) _ from ?_)
                                   refine bs_ifne rfl (fun c54 => ?_) (fun c54 => ?_)
                                   · exfalso; omega
                                   · skip
                                     refine bs_lit (k := -1) rfl rfl fun z55 hz55 => ?_
                                     exact Ev.ret rfl rfl (by rw [hQ]; exact ⟨t, Hhp2, Fhp2, bs_an0, sf_S_nil⟩)
                                 · skip
                                   refine bs_lit (k := 1) rfl rfl fun z56 hz56 => ?_
                                   exact by
                                    refine Ev.step (j := 15) (s' := ([some (.int x3), some (.int z45), some (.int z46)], [.int z56], (0, 0), hp2)) rfl rfl ?_
                                    refine bs_zret rfl rfl (by omega) (by omega) ?_
                                    rw [← hQ47]
                                    refine (show Ev _ 22 ([some (.ref 69), some (.int x1), some (.int x2), some (.int x3)], [.int z56], (0, 0), hp2) _ from ?_)
                                    refine bs_ifne rfl (fun c57 => ?_) (fun c57 => ?_)
                                    · skip
                                      refine Ev.step (j := 28) (s' := ([some (.ref 69), some (.int x1), some (.int x2), some (.int x3)], [.ref 69], (0, 0), hp2)) rfl rfl ?_
                                      refine Ev.step (j := 29) (s' := ([some (.ref 69), some (.int x1), some (.int x2), some (.int x3)], [.int x1, .ref 69], (0, 0), hp2)) rfl rfl ?_
                                      refine Ev.step (j := 30) (s' := ([some (.ref 69), some (.int x1), some (.int x2), some (.int x3)], [.int x2, .int x1, .ref 69], (0, 0), hp2)) rfl rfl ?_
                                      refine Ev.inlS (L := L_X11_cell) (nL := 2) rfl rfl (Nat.le_of_ble_eq_true rfl) ?_
                                      generalize hQ58 : (fun (o : ab_O) => Ev _ _ _ _) = Q58
                                      refine (show Ev (ab_T L_X11_cell) 0 ([some (.int x1), some (.int x2)], [], (0, 0), hp2) Q58 from ?_)
                                      exact by
                                       refine bs_lit (k := 2) rfl rfl fun z59 hz59 => ?_
                                       refine Ev.step (j := 2) (s' := ([some (.int x1), some (.int x2)], [.int x1, .int z59], (0, 0), hp2)) rfl rfl ?_
                                       refine bs_mul (2) rfl (Or.inl hz59) (by rw [hz59]; omega) (by rw [hz59]; omega) fun z60 hz60 => ?_
                                       rw [hz59] at hz60
                                       refine Ev.step (j := 4) (s' := ([some (.int x1), some (.int x2)], [.int x2, .int z60], (0, 0), hp2)) rfl rfl ?_
                                       first | (refine bs_add rfl (by omega) (by omega) fun z61 hz61 => ?_) | (refine bs_any rfl fun z61 => ?_)
                                       have rz61 := n_range z61
                                       refine Ev.ret rfl rfl ?_
                                       rw [← hQ58]
                                       refine (show Ev _ 33 ([some (.ref 69), some (.int x1), some (.int x2), some (.int x3)], [.int z61, .ref 69], (0, 0), hp2) _ from ?_)
                                       exact by
                                        refine Ev.step (j := 34) (s' := ([some (.ref 69), some (.int x1), some (.int x2), some (.int x3)], [.int x3, .int z61, .ref 69], (0, 0), hp2)) rfl rfl ?_
                                        refine Ev.inl (L := L_X11_whyHoard) (nL := 3) rfl (bs_rcv (g := 11) Hhp2 (bs_R.uq Hhp2 (g := 11) rfl) (by decide) rfl) rfl (Nat.le_of_ble_eq_true rfl) ?_
                                        generalize hQ62 : (fun (o : ab_O) => Ev _ _ _ _) = Q62
                                        refine (show Ev (ab_T L_X11_whyHoard) 0 ([some (.ref 69), some (.int z61), some (.int x3)], [], (0, 0), hp2) Q62 from ?_)
                                        refine Ev.step (j := 1) (s' := ([some (.ref 69), some (.int z61), some (.int x3)], [.ref 69], (0, 0), hp2)) rfl rfl ?_
                                        refine bs_getU (g := 11) (g1 := 132) rfl rfl Hhp2 (bs_R.uq Hhp2 (g := 11) rfl) (by decide) rfl rfl ?_
                                        refine bs_lit (k := 124) rfl rfl fun z63 hz63 => ?_
                                        refine Ev.step (j := 7) (s' := ([some (.ref 69), some (.int z61), some (.int x3)], [.int z61, .int z63, .ref 71], (0, 0), hp2)) rfl rfl ?_
                                        first | (refine bs_add rfl (by omega) (by omega) fun z64 hz64 => ?_) | (refine bs_any rfl fun z64 => ?_)
                                        have rz64 := n_range z64
                                        refine bs_ld (g := 132) 124 135 (0, 999) rfl Hhp2 (bs_R.uq Hhp2 (g := 132) rfl) (by decide) rfl (by decide) (by decide) rfl (by decide) (by omega) (by omega) fun z65 hz65 lz65 gz65 => ?_
                                        dsimp only at lz65 gz65
                                        refine Ev.step (j := 10) (s' := ([some (.ref 69), some (.int z61), some (.int x3)], [.int x3, .int z65], (0, 0), hp2)) rfl rfl ?_
                                        exact by
                                         refine bs_ge rfl (fun c66 => ?_) (fun c66 => ?_)
                                         · skip
                                           refine bs_lit (k := 0) rfl rfl fun z67 hz67 => ?_
                                           refine Ev.ret rfl rfl ?_
                                           rw [← hQ62]
                                           refine (show Ev _ 37 ([some (.ref 69), some (.int x1), some (.int x2), some (.int x3)], [.int z67], (0, 0), hp2) _ from ?_)
                                           refine bs_ifle rfl (fun c68 => ?_) (fun c68 => ?_)
                                           · skip
                                             refine Ev.step (j := 43) (s' := ([some (.ref 69), some (.int x1), some (.int x2), some (.int x3)], [.ref 69], (0, 0), hp2)) rfl rfl ?_
                                             refine bs_call (K := kq_X11_keep_h) [.ref 69] [] rfl ct_X11_keep_h Hhp2 rfl rfl rfl (bs_rcv (g := 11) Hhp2 (bs_R.uq Hhp2 (g := 11) rfl) (by decide) rfl) rfl ?_ (sf_S_nil) fun r69 hp70 thp70 Hhp70 fhp70 ahp70 php70 => ?_
                                             · intro q k h
                                               match q, h with
                                               | 0, h => cases h; exact bs_jR (bs_R.uq Hhp2 (g := 11) rfl)
                                               | q + 1, h => cases h
                                             obtain rfl := ahp70.1 rfl
                                             have Fhp70 := sf_fr_tr Fhp2 (sf_fr_wider (W := [(11, 0, 0), (11, 25, 25), (132, 124, 135), (138, 0, 1063)]) rfl fhp70)
                                             have h71 : sf_rd hp70 69 0 = some z1.toInt := (fhp70.2.2.1 _ (bs_R.uq Hhp2 (g := 11) (p := 69) rfl).1 _ (by rw [(bs_R.uq Hhp2 (g := 11) (p := 69) rfl).2]; rfl)).trans rhp2
                                             have h72 : sf_rd hp70 71 0 = some z7.toInt := (fhp70.2.2.1 _ (bs_R.uq Hhp2 (g := 132) (p := 71) rfl).1 _ (by rw [(bs_R.uq Hhp2 (g := 132) (p := 71) rfl).2]; rfl)).trans hz7
                                             have h73 : sf_rd hp70 71 z64.toInt.toNat = some z65.toInt := (fhp70.2.2.1 _ (bs_R.uq Hhp2 (g := 132) (p := 71) rfl).1 _ (by rw [(bs_R.uq Hhp2 (g := 132) (p := 71) rfl).2]; rfl)).trans hz65
                                             refine (show Ev _ 46 ([some (.ref 69), some (.int x1), some (.int x2), some (.int x3)], [], (0, 0), hp70) _ from ?_)
                                             exact by
                                              refine Ev.step (j := 47) (s' := ([some (.ref 69), some (.int x1), some (.int x2), some (.int x3)], [.ref 69], (0, 0), hp70)) rfl rfl ?_
                                              refine bs_getU (g := 11) (g1 := 132) rfl rfl Hhp70 (bs_R.uq Hhp70 (g := 11) rfl) (by decide) rfl rfl ?_
                                              refine bs_lit (k := 124) rfl rfl fun z74 hz74 => ?_
                                              refine Ev.step (j := 53) (s' := ([some (.ref 69), some (.int x1), some (.int x2), some (.int x3)], [.int x1, .int z74, .ref 71], (0, 0), hp70)) rfl rfl ?_
                                              refine Ev.step (j := 54) (s' := ([some (.ref 69), some (.int x1), some (.int x2), some (.int x3)], [.int x2, .int x1, .int z74, .ref 71], (0, 0), hp70)) rfl rfl ?_
                                              refine Ev.inlS (L := L_X11_cell) (nL := 2) rfl rfl (Nat.le_of_ble_eq_true rfl) ?_
                                              generalize hQ75 : (fun (o : ab_O) => Ev _ _ _ _) = Q75
                                              refine (show Ev (ab_T L_X11_cell) 0 ([some (.int x1), some (.int x2)], [], (0, 0), hp70) Q75 from ?_)
                                              refine bs_lit (k := 2) rfl rfl fun z76 hz76 => ?_
                                              exact by
                                               refine Ev.step (j := 2) (s' := ([some (.int x1), some (.int x2)], [.int x1, .int z76], (0, 0), hp70)) rfl rfl ?_
                                               refine bs_mul (2) rfl (Or.inl hz76) (by rw [hz76]; omega) (by rw [hz76]; omega) fun z77 hz77 => ?_
                                               rw [hz76] at hz77
                                               refine Ev.step (j := 4) (s' := ([some (.int x1), some (.int x2)], [.int x2, .int z77], (0, 0), hp70)) rfl rfl ?_
                                               first | (refine bs_add rfl (by omega) (by omega) fun z78 hz78 => ?_) | (refine bs_any rfl fun z78 => ?_)
                                               have rz78 := n_range z78
                                               refine Ev.ret rfl rfl ?_
                                               rw [← hQ75]
                                               refine (show Ev _ 57 ([some (.ref 69), some (.int x1), some (.int x2), some (.int x3)], [.int z78, .int z74, .ref 71], (0, 0), hp70) _ from ?_)
                                               first | (refine bs_add rfl (by omega) (by omega) fun z79 hz79 => ?_) | (refine bs_any rfl fun z79 => ?_)
                                               have rz79 := n_range z79
                                               refine Ev.step (j := 59) (s' := ([some (.ref 69), some (.int x1), some (.int x2), some (.int x3)], [.int z79, .ref 71, .int z79, .ref 71], (0, 0), hp70)) rfl rfl ?_
                                               exact by
                                                refine bs_ld (g := 132) 124 135 (0, 999) rfl Hhp70 (bs_R.uq Hhp70 (g := 132) rfl) (by decide) rfl (by decide) (by decide) rfl (by decide) (by omega) (by omega) fun z80 hz80 lz80 gz80 => ?_
                                                dsimp only at lz80 gz80
                                                have e81 : z80.toInt = z65.toInt := Option.some.inj ((bs_at hz80 (by omega)).symm.trans ((fhp70.2.2.1 _ (bs_R.uq Hhp2 (g := 132) (p := 71) rfl).1 _ (by rw [(bs_R.uq Hhp2 (g := 132) (p := 71) rfl).2]; rfl)).trans hz65))
                                                refine Ev.step (j := 61) (s' := ([some (.ref 69), some (.int x1), some (.int x2), some (.int x3)], [.int x3, .int z80, .int z79, .ref 71], (0, 0), hp70)) rfl rfl ?_
                                                first | (refine bs_sub rfl (by omega) (by omega) fun z82 hz82 => ?_) | (refine bs_any rfl fun z82 => ?_)
                                                have rz82 := n_range z82
                                                refine bs_st (W := [(132, 124, 135)]) (g := 132) 124 135 (0, 999) rfl Hhp70 (bs_R.uq Hhp70 (g := 132) rfl) (by decide) rfl rfl (by decide) rfl rfl (by omega) (by omega) (by dsimp only; omega) (by dsimp only; omega) fun hp83 Hhp83 fhp83 rhp83 ehp83 qhp83 nhp83 => ?_
                                                have Fhp83 := sf_fr_tr Fhp70 (sf_fr_wider (W := [(11, 0, 0), (11, 25, 25), (132, 124, 135), (138, 0, 1063)]) rfl fhp83)
                                                have h84 : sf_rd hp83 69 0 = some z1.toInt := (ehp83 _ _ (Or.inl (by decide))).trans h71
                                                have h85 : sf_rd hp83 71 0 = some z7.toInt := (ehp83 _ _ (Or.inr (by omega))).trans h72
                                                refine bs_lit (k := 0) rfl rfl fun z86 hz86 => ?_
                                                exact Ev.ret rfl rfl (by rw [hQ]; exact ⟨thp70, Hhp83, Fhp83, bs_an0, sf_S_nil⟩)
                                           · exfalso; omega
                                         · skip
                                           refine bs_lit (k := 1) rfl rfl fun z87 hz87 => ?_
                                           exact by
                                            refine Ev.step (j := 18) (s' := ([some (.ref 69), some (.int z61), some (.int x3)], [.int z87], (0, 0), hp2)) rfl rfl ?_
                                            refine Ev.ret rfl rfl ?_
                                            rw [← hQ62]
                                            refine (show Ev _ 37 ([some (.ref 69), some (.int x1), some (.int x2), some (.int x3)], [.int z87], (0, 0), hp2) _ from ?_)
                                            refine bs_ifle rfl (fun c88 => ?_) (fun c88 => ?_)
                                            · exfalso; omega
                                            · skip
                                              refine bs_lit (k := 1) rfl rfl fun z89 hz89 => ?_
                                              exact Ev.ret rfl rfl (by rw [hQ]; exact ⟨t, Hhp2, Fhp2, bs_an0, sf_S_nil⟩)
                                    · exfalso; omega
def kq_X11_goes_h : sf_Q := ([(1, 11, 0), (0, 0, 0)], [], some (0, 0, 0), [], [(11, 0, 0), (11, 22, 22)])
set_option maxRecDepth 100000 in
set_option maxHeartbeats 4000000 in
theorem ct_X11_goes_h : sf_ct kq_X11_goes_h Z_X11_goes := by
  intro t hp as H hl hj hpre
  match as, hl with
  | [v0, v1], _ =>
    obtain ⟨a0, rfl, ra0⟩ := bs_aR (hj 0 _ rfl)
    obtain rfl := ra0.eq H (p := 69) rfl
    obtain ⟨x1, rfl⟩ := bs_aI (hj 1 _ rfl)
    have rg1 := n_range x1
    clear hpre hj
    have F0 : sf_fr [(11, 0, 0), (11, 22, 22)] t hp t hp := sf_fr_rf
    refine bs_fin (K := kq_X11_goes_h) (L := (L_X11_goes Z_X11_isGood Z_X11_goingSet Z_X11_goesOf)) (nL := 3) (Nat.le_of_ble_eq_true rfl) ?_
    obtain ⟨Q, hQ⟩ : ∃ Q : ab_O → Prop, Q = (fun o => ∃ t', sf_h t' o.2 ∧ sf_fr (kq_X11_goes_h).2.2.2.2 t hp t' o.2 ∧ sf_an t' o.2.1 (kq_X11_goes_h).2.2.1 o.1 ∧ sf_S (sf_v1 o.1 [.ref 69, .int x1] o.2) (kq_X11_goes_h).2.2.2.1) := ⟨_, rfl⟩
    rw [← hQ]
    refine (show Ev (ab_T (L_X11_goes Z_X11_isGood Z_X11_goingSet Z_X11_goesOf)) 0 ([some (.ref 69), some (.int x1), none], [], (0, 0), hp) Q from ?_)
    exact by
     refine Ev.step (j := 1) (s' := ([some (.ref 69), some (.int x1), none], [.ref 69], (0, 0), hp)) rfl rfl ?_
     refine bs_lit (k := 0) rfl rfl fun z1 hz1 => ?_
     refine bs_putI (W := [(11, 0, 0)]) (g := 11) rfl rfl H (bs_R.uq H (g := 11) rfl) (by decide) rfl rfl rfl rfl (Or.inl rfl) (by omega) (by omega) fun hp2 Hhp2 fhp2 rhp2 ehp2 qhp2 nhp2 => ?_
     have Fhp2 := sf_fr_tr F0 (sf_fr_wider (W := [(11, 0, 0), (11, 22, 22)]) rfl fhp2)
     refine Ev.step (j := 6) (s' := ([some (.ref 69), some (.int x1), none], [.ref 69], (0, 0), hp2)) rfl rfl ?_
     refine Ev.step (j := 7) (s' := ([some (.ref 69), some (.int x1), none], [.int x1, .ref 69], (0, 0), hp2)) rfl rfl ?_
     refine Ev.inl (L := (L_X11_isGood Z_X11_isIn)) (nL := 2) rfl (bs_rcv (g := 11) Hhp2 (bs_R.uq Hhp2 (g := 11) rfl) (by decide) rfl) rfl (Nat.le_of_ble_eq_true rfl) ?_
     generalize hQ3 : (fun (o : ab_O) => Ev _ _ _ _) = Q3
     refine (show Ev (ab_T (L_X11_isGood Z_X11_isIn)) 0 ([some (.ref 69), some (.int x1)], [], (0, 0), hp2) Q3 from ?_)
     exact by
      refine Ev.step (j := 1) (s' := ([some (.ref 69), some (.int x1)], [.int x1], (0, 0), hp2)) rfl rfl ?_
      refine bs_lit (k := 0) rfl rfl fun z4 hz4 => ?_
      refine Ev.step (j := 3) (s' := ([some (.ref 69), some (.int x1)], [.ref 69, .int z4, .int x1], (0, 0), hp2)) rfl rfl ?_
      refine bs_getU (g := 11) (g1 := 132) rfl rfl Hhp2 (bs_R.uq Hhp2 (g := 11) rfl) (by decide) rfl rfl ?_
      refine bs_lit (k := 0) rfl rfl fun z5 hz5 => ?_
      refine bs_ld (g := 132) 0 0 (0, 6) rfl Hhp2 (bs_R.uq Hhp2 (g := 132) rfl) (by decide) rfl (by decide) (by decide) rfl (by decide) (by omega) (by omega) fun z6 hz6 lz6 gz6 => ?_
      dsimp only at lz6 gz6
      replace hz6 := bs_at hz6 (show z5.toInt.toNat = 0 by omega)
      refine bs_lit (k := 1) rfl rfl fun z7 hz7 => ?_
      first | (refine bs_sub rfl (by omega) (by omega) fun z8 hz8 => ?_) | (refine bs_any rfl fun z8 => ?_)
      have rz8 := n_range z8
      refine Ev.inlS (L := L_X11_isIn) (nL := 3) rfl rfl (Nat.le_of_ble_eq_true rfl) ?_
      generalize hQ9 : (fun (o : ab_O) => Ev _ _ _ _) = Q9
      refine (show Ev (ab_T L_X11_isIn) 0 ([some (.int x1), some (.int z4), some (.int z8)], [], (0, 0), hp2) Q9 from ?_)
      exact by
       refine Ev.step (j := 1) (s' := ([some (.int x1), some (.int z4), some (.int z8)], [.int x1], (0, 0), hp2)) rfl rfl ?_
       refine Ev.step (j := 2) (s' := ([some (.int x1), some (.int z4), some (.int z8)], [.int z4, .int x1], (0, 0), hp2)) rfl rfl ?_
       refine bs_lt rfl (fun c10 => ?_) (fun c10 => ?_)
       · skip
         refine bs_lit (k := 0) rfl rfl fun z11 hz11 => ?_
         refine bs_zret rfl rfl (by omega) (by omega) ?_
         rw [← hQ9]
         refine (show Ev _ 13 ([some (.ref 69), some (.int x1)], [.int z11], (0, 0), hp2) _ from ?_)
         refine bs_zret rfl rfl (by omega) (by omega) ?_
         rw [← hQ3]
         refine (show Ev _ 10 ([some (.ref 69), some (.int x1), none], [.int z11], (0, 0), hp2) _ from ?_)
         exact by
          refine bs_ifne rfl (fun c12 => ?_) (fun c12 => ?_)
          · exfalso; omega
          · skip
            refine bs_lit (k := -1) rfl rfl fun z13 hz13 => ?_
            exact Ev.ret rfl rfl (by rw [hQ]; exact ⟨t, Hhp2, Fhp2, bs_an0, sf_S_nil⟩)
       · skip
         refine Ev.step (j := 6) (s' := ([some (.int x1), some (.int z4), some (.int z8)], [.int x1], (0, 0), hp2)) rfl rfl ?_
         exact by
          refine Ev.step (j := 7) (s' := ([some (.int x1), some (.int z4), some (.int z8)], [.int z8, .int x1], (0, 0), hp2)) rfl rfl ?_
          refine bs_gt rfl (fun c14 => ?_) (fun c14 => ?_)
          · skip
            refine bs_lit (k := 0) rfl rfl fun z15 hz15 => ?_
            refine bs_zret rfl rfl (by omega) (by omega) ?_
            rw [← hQ9]
            refine (show Ev _ 13 ([some (.ref 69), some (.int x1)], [.int z15], (0, 0), hp2) _ from ?_)
            refine bs_zret rfl rfl (by omega) (by omega) ?_
            rw [← hQ3]
            refine (show Ev _ 10 ([some (.ref 69), some (.int x1), none], [.int z15], (0, 0), hp2) _ from ?_)
            refine bs_ifne rfl (fun c16 => ?_) (fun c16 => ?_)
            · exfalso; omega
            · skip
              refine bs_lit (k := -1) rfl rfl fun z17 hz17 => ?_
              exact Ev.ret rfl rfl (by rw [hQ]; exact ⟨t, Hhp2, Fhp2, bs_an0, sf_S_nil⟩)
          · skip
            refine bs_lit (k := 1) rfl rfl fun z18 hz18 => ?_
            exact by
             refine Ev.step (j := 15) (s' := ([some (.int x1), some (.int z4), some (.int z8)], [.int z18], (0, 0), hp2)) rfl rfl ?_
             refine bs_zret rfl rfl (by omega) (by omega) ?_
             rw [← hQ9]
             refine (show Ev _ 13 ([some (.ref 69), some (.int x1)], [.int z18], (0, 0), hp2) _ from ?_)
             refine bs_zret rfl rfl (by omega) (by omega) ?_
             rw [← hQ3]
             refine (show Ev _ 10 ([some (.ref 69), some (.int x1), none], [.int z18], (0, 0), hp2) _ from ?_)
             refine bs_ifne rfl (fun c19 => ?_) (fun c19 => ?_)
             · skip
               refine Ev.step (j := 16) (s' := ([some (.ref 69), some (.int x1), none], [.ref 69], (0, 0), hp2)) rfl rfl ?_
               refine bs_getU (g := 11) (g1 := 132) rfl rfl Hhp2 (bs_R.uq Hhp2 (g := 11) rfl) (by decide) rfl rfl ?_
               exact by
                refine bs_lit (k := 120) rfl rfl fun z20 hz20 => ?_
                refine bs_ld (g := 132) 120 120 (0, 400) rfl Hhp2 (bs_R.uq Hhp2 (g := 132) rfl) (by decide) rfl (by decide) (by decide) rfl (by decide) (by omega) (by omega) fun z21 hz21 lz21 gz21 => ?_
                dsimp only at lz21 gz21
                replace hz21 := bs_at hz21 (show z20.toInt.toNat = 120 by omega)
                refine bs_lit (k := 400) rfl rfl fun z22 hz22 => ?_
                refine bs_ne rfl (fun c23 => ?_) (fun c23 => ?_)
                · skip
                  refine Ev.step (j := 31) (s' := ([some (.ref 69), some (.int x1), none], [.ref 69], (0, 0), hp2)) rfl rfl ?_
                  refine bs_call (K := kq_X11_goingSet_6afe8b) [.ref 69] [] rfl ct_X11_goingSet_6afe8b Hhp2 rfl rfl rfl (bs_rcv (g := 11) Hhp2 (bs_R.uq Hhp2 (g := 11) rfl) (by decide) rfl) rfl ?_ (sf_S_nil) fun r24 hp25 thp25 Hhp25 fhp25 ahp25 php25 => ?_
                  · intro q k h
                    match q, h with
                    | 0, h => cases h; exact bs_jR (bs_R.uq Hhp2 (g := 11) rfl)
                    | q + 1, h => cases h
                  obtain ⟨z26, rfl⟩ := bs_anI ahp25
                  have rgz26 := n_range z26
                  have Fhp25 := sf_fr_tr Fhp2 (sf_fr_wider (W := [(11, 0, 0), (11, 22, 22)]) rfl fhp25)
                  have h27 : sf_rd hp25 69 0 = some z1.toInt := (fhp25.2.2.1 _ (bs_R.uq Hhp2 (g := 11) (p := 69) rfl).1 _ (by rw [(bs_R.uq Hhp2 (g := 11) (p := 69) rfl).2]; rfl)).trans rhp2
                  have h28 : sf_rd hp25 71 0 = some z6.toInt := (fhp25.2.2.1 _ (bs_R.uq Hhp2 (g := 132) (p := 71) rfl).1 _ (by rw [(bs_R.uq Hhp2 (g := 132) (p := 71) rfl).2]; rfl)).trans hz6
                  have h29 : sf_rd hp25 71 120 = some z21.toInt := (fhp25.2.2.1 _ (bs_R.uq Hhp2 (g := 132) (p := 71) rfl).1 _ (by rw [(bs_R.uq Hhp2 (g := 132) (p := 71) rfl).2]; rfl)).trans hz21
                  refine (show Ev _ 34 ([some (.ref 69), some (.int x1), none], [.int z26], (0, 0), hp25) _ from ?_)
                  exact by
                   refine Ev.step (j := 35) (s' := ([some (.ref 69), some (.int x1), none], [], (0, 0), hp25)) rfl rfl ?_
                   refine bs_lit (k := 0) rfl rfl fun z30 hz30 => ?_
                   refine Ev.step (j := 37) (s' := ([some (.ref 69), some (.int x1), some (.int z30)], [], (0, 0), hp25)) rfl rfl ?_
                   refine bs_loop (ι := Int32 × ab_H × (Nat → Nat)) (fun ⟨k31, hp32, t33⟩ => ([some (.ref 69), some (.int x1), some (.int k31)], [], (0, 0), hp32)) (fun ⟨k31, hp32, t33⟩ => (sf_h t33 hp32) ∧ (sf_fr [(11, 0, 0), (11, 22, 22)] t hp t33 hp32) ∧ (0 ≤ k31.toInt ∧ k31.toInt ≤ x1.toInt)) (fun ⟨k31, hp32, t33⟩ => (x1.toInt - k31.toInt).toNat) ?_ (z30, hp25, thp25) ⟨Hhp25, Fhp25, (by first | omega | assumption)⟩
                   rintro ⟨k31, hp32, t33⟩ ⟨Hhp32, Fhp32, i35⟩ ih34
                   refine (show Ev _ 37 ([some (.ref 69), some (.int x1), some (.int k31)], [], (0, 0), hp32) _ from ?_)
                   refine Ev.step (j := 38) (s' := ([some (.ref 69), some (.int x1), some (.int k31)], [.int k31], (0, 0), hp32)) rfl rfl ?_
                   refine Ev.step (j := 39) (s' := ([some (.ref 69), some (.int x1), some (.int k31)], [.int x1, .int k31], (0, 0), hp32)) rfl rfl ?_
                   exact by
                    refine bs_ge rfl (fun c36 => ?_) (fun c36 => ?_)
                    · skip
                      refine Ev.step (j := 63) (s' := ([some (.ref 69), some (.int x1), some (.int k31)], [.ref 69], (0, 0), hp32)) rfl rfl ?_
                      refine Ev.step (j := 64) (s' := ([some (.ref 69), some (.int x1), some (.int k31)], [.int x1, .ref 69], (0, 0), hp32)) rfl rfl ?_
                      refine Ev.inl (L := (L_X11_goesOf Z_X11_cell Z_X11_lackOf Z_X11_lesser)) (nL := 3) rfl (bs_rcv (g := 11) Hhp32 (bs_R.uq Hhp32 (g := 11) rfl) (by decide) rfl) rfl (Nat.le_of_ble_eq_true rfl) ?_
                      generalize hQ37 : (fun (o : ab_O) => Ev _ _ _ _) = Q37
                      refine (show Ev (ab_T (L_X11_goesOf Z_X11_cell Z_X11_lackOf Z_X11_lesser)) 0 ([some (.ref 69), some (.int x1), none], [], (0, 0), hp32) Q37 from ?_)
                      refine Ev.step (j := 1) (s' := ([some (.ref 69), some (.int x1), none], [.ref 69], (0, 0), hp32)) rfl rfl ?_
                      refine bs_getU (g := 11) (g1 := 132) rfl rfl Hhp32 (bs_R.uq Hhp32 (g := 11) rfl) (by decide) rfl rfl ?_
                      refine bs_lit (k := 120) rfl rfl fun z38 hz38 => ?_
                      exact by
                       refine bs_ld (g := 132) 120 120 (0, 400) rfl Hhp32 (bs_R.uq Hhp32 (g := 132) rfl) (by decide) rfl (by decide) (by decide) rfl (by decide) (by omega) (by omega) fun z39 hz39 lz39 gz39 => ?_
                       dsimp only at lz39 gz39
                       replace hz39 := bs_at hz39 (show z38.toInt.toNat = 120 by omega)
                       refine bs_lit (k := 2) rfl rfl fun z40 hz40 => ?_
                       refine bs_rem 2 rfl hz40 (by decide) (by omega) fun z41 hz41 => ?_
                       refine Ev.step (j := 10) (s' := ([some (.ref 69), some (.int x1), some (.int z41)], [], (0, 0), hp32)) rfl rfl ?_
                       refine Ev.step (j := 11) (s' := ([some (.ref 69), some (.int x1), some (.int z41)], [.ref 69], (0, 0), hp32)) rfl rfl ?_
                       refine bs_getI 11 rfl rfl rfl Hhp32 (bs_R.uq Hhp32 (g := 11) rfl) (by decide) rfl fun z42 hz42 lz42 gz42 => ?_
                       refine Ev.step (j := 15) (s' := ([some (.ref 69), some (.int x1), some (.int z41)], [.ref 69, .int z42], (0, 0), hp32)) rfl rfl ?_
                       exact by
                        refine bs_getU (g := 11) (g1 := 132) rfl rfl Hhp32 (bs_R.uq Hhp32 (g := 11) rfl) (by decide) rfl rfl ?_
                        refine bs_lit (k := 124) rfl rfl fun z43 hz43 => ?_
                        refine Ev.step (j := 21) (s' := ([some (.ref 69), some (.int x1), some (.int z41)], [.int x1, .int z43, .ref 71, .int z42], (0, 0), hp32)) rfl rfl ?_
                        refine Ev.step (j := 22) (s' := ([some (.ref 69), some (.int x1), some (.int z41)], [.int z41, .int x1, .int z43, .ref 71, .int z42], (0, 0), hp32)) rfl rfl ?_
                        refine Ev.inlS (L := L_X11_cell) (nL := 2) rfl rfl (Nat.le_of_ble_eq_true rfl) ?_
                        generalize hQ44 : (fun (o : ab_O) => Ev _ _ _ _) = Q44
                        refine (show Ev (ab_T L_X11_cell) 0 ([some (.int x1), some (.int z41)], [], (0, 0), hp32) Q44 from ?_)
                        refine bs_lit (k := 2) rfl rfl fun z45 hz45 => ?_
                        refine Ev.step (j := 2) (s' := ([some (.int x1), some (.int z41)], [.int x1, .int z45], (0, 0), hp32)) rfl rfl ?_
                        exact by
                         refine bs_mul (2) rfl (Or.inl hz45) (by rw [hz45]; omega) (by rw [hz45]; omega) fun z46 hz46 => ?_
                         rw [hz45] at hz46
                         refine Ev.step (j := 4) (s' := ([some (.int x1), some (.int z41)], [.int z41, .int z46], (0, 0), hp32)) rfl rfl ?_
                         first | (refine bs_add rfl (by omega) (by omega) fun z47 hz47 => ?_) | (refine bs_any rfl fun z47 => ?_)
                         have rz47 := n_range z47
                         refine Ev.ret rfl rfl ?_
                         rw [← hQ44]
                         refine (show Ev _ 25 ([some (.ref 69), some (.int x1), some (.int z41)], [.int z47, .int z43, .ref 71, .int z42], (0, 0), hp32) _ from ?_)
                         first | (refine bs_add rfl (by omega) (by omega) fun z48 hz48 => ?_) | (refine bs_any rfl fun z48 => ?_)
                         have rz48 := n_range z48
                         refine bs_ld (g := 132) 124 135 (0, 999) rfl Hhp32 (bs_R.uq Hhp32 (g := 132) rfl) (by decide) rfl (by decide) (by decide) rfl (by decide) (by omega) (by omega) fun z49 hz49 lz49 gz49 => ?_
                         dsimp only at lz49 gz49
                         refine Ev.step (j := 28) (s' := ([some (.ref 69), some (.int x1), some (.int z41)], [.ref 69, .int z49, .int z42], (0, 0), hp32)) rfl rfl ?_
                         exact by
                          refine Ev.step (j := 29) (s' := ([some (.ref 69), some (.int x1), some (.int z41)], [.int x1, .ref 69, .int z49, .int z42], (0, 0), hp32)) rfl rfl ?_
                          refine bs_lit (k := 1) rfl rfl fun z50 hz50 => ?_
                          refine Ev.step (j := 31) (s' := ([some (.ref 69), some (.int x1), some (.int z41)], [.int z41, .int z50, .int x1, .ref 69, .int z49, .int z42], (0, 0), hp32)) rfl rfl ?_
                          first | (refine bs_sub rfl (by omega) (by omega) fun z51 hz51 => ?_) | (refine bs_any rfl fun z51 => ?_)
                          have rz51 := n_range z51
                          refine Ev.inl (L := (L_X11_lackOf Z_X11_cell)) (nL := 4) rfl (bs_rcv (g := 11) Hhp32 (bs_R.uq Hhp32 (g := 11) rfl) (by decide) rfl) rfl (Nat.le_of_ble_eq_true rfl) ?_
                          generalize hQ52 : (fun (o : ab_O) => Ev _ _ _ _) = Q52
                          refine (show Ev (ab_T (L_X11_lackOf Z_X11_cell)) 0 ([some (.ref 69), some (.int x1), some (.int z51), none], [], (0, 0), hp32) Q52 from ?_)
                          refine Ev.step (j := 1) (s' := ([some (.ref 69), some (.int x1), some (.int z51), none], [.ref 69], (0, 0), hp32)) rfl rfl ?_
                          exact by
                           refine bs_getU (g := 11) (g1 := 132) rfl rfl Hhp32 (bs_R.uq Hhp32 (g := 11) rfl) (by decide) rfl rfl ?_
                           refine bs_lit (k := 16) rfl rfl fun z53 hz53 => ?_
                           refine Ev.step (j := 7) (s' := ([some (.ref 69), some (.int x1), some (.int z51), none], [.int x1, .int z53, .ref 71], (0, 0), hp32)) rfl rfl ?_
                           refine Ev.step (j := 8) (s' := ([some (.ref 69), some (.int x1), some (.int z51), none], [.int z51, .int x1, .int z53, .ref 71], (0, 0), hp32)) rfl rfl ?_
                           refine Ev.inlS (L := L_X11_cell) (nL := 2) rfl rfl (Nat.le_of_ble_eq_true rfl) ?_
                           generalize hQ54 : (fun (o : ab_O) => Ev _ _ _ _) = Q54
                           refine (show Ev (ab_T L_X11_cell) 0 ([some (.int x1), some (.int z51)], [], (0, 0), hp32) Q54 from ?_)
                           refine bs_lit (k := 2) rfl rfl fun z55 hz55 => ?_
                           refine Ev.step (j := 2) (s' := ([some (.int x1), some (.int z51)], [.int x1, .int z55], (0, 0), hp32)) rfl rfl ?_
                           exact by
                            refine bs_mul (2) rfl (Or.inl hz55) (by rw [hz55]; omega) (by rw [hz55]; omega) fun z56 hz56 => ?_
                            rw [hz55] at hz56
                            refine Ev.step (j := 4) (s' := ([some (.int x1), some (.int z51)], [.int z51, .int z56], (0, 0), hp32)) rfl rfl ?_
                            first | (refine bs_add rfl (by omega) (by omega) fun z57 hz57 => ?_) | (refine bs_any rfl fun z57 => ?_)
                            have rz57 := n_range z57
                            refine Ev.ret rfl rfl ?_
                            rw [← hQ54]
                            refine (show Ev _ 11 ([some (.ref 69), some (.int x1), some (.int z51), none], [.int z57, .int z53, .ref 71], (0, 0), hp32) _ from ?_)
                            first | (refine bs_add rfl (by omega) (by omega) fun z58 hz58 => ?_) | (refine bs_any rfl fun z58 => ?_)
                            have rz58 := n_range z58
                            refine bs_ld (g := 132) 16 27 (0, 250) rfl Hhp32 (bs_R.uq Hhp32 (g := 132) rfl) (by decide) rfl (by decide) (by decide) rfl (by decide) (by omega) (by omega) fun z59 hz59 lz59 gz59 => ?_
                            dsimp only at lz59 gz59
                            refine Ev.step (j := 14) (s' := ([some (.ref 69), some (.int x1), some (.int z51), none], [.ref 69, .int z59], (0, 0), hp32)) rfl rfl ?_
                            exact by
                             refine bs_getU (g := 11) (g1 := 132) rfl rfl Hhp32 (bs_R.uq Hhp32 (g := 11) rfl) (by decide) rfl rfl ?_
                             refine bs_lit (k := 124) rfl rfl fun z60 hz60 => ?_
                             refine Ev.step (j := 20) (s' := ([some (.ref 69), some (.int x1), some (.int z51), none], [.int x1, .int z60, .ref 71, .int z59], (0, 0), hp32)) rfl rfl ?_
                             refine Ev.step (j := 21) (s' := ([some (.ref 69), some (.int x1), some (.int z51), none], [.int z51, .int x1, .int z60, .ref 71, .int z59], (0, 0), hp32)) rfl rfl ?_
                             refine Ev.inlS (L := L_X11_cell) (nL := 2) rfl rfl (Nat.le_of_ble_eq_true rfl) ?_
                             generalize hQ61 : (fun (o : ab_O) => Ev _ _ _ _) = Q61
                             refine (show Ev (ab_T L_X11_cell) 0 ([some (.int x1), some (.int z51)], [], (0, 0), hp32) Q61 from ?_)
                             refine bs_lit (k := 2) rfl rfl fun z62 hz62 => ?_
                             refine Ev.step (j := 2) (s' := ([some (.int x1), some (.int z51)], [.int x1, .int z62], (0, 0), hp32)) rfl rfl ?_
                             exact by
                              refine bs_mul (2) rfl (Or.inl hz62) (by rw [hz62]; omega) (by rw [hz62]; omega) fun z63 hz63 => ?_
                              rw [hz62] at hz63
                              refine Ev.step (j := 4) (s' := ([some (.int x1), some (.int z51)], [.int z51, .int z63], (0, 0), hp32)) rfl rfl ?_
                              first | (refine bs_add rfl (by omega) (by omega) fun z64 hz64 => ?_) | (refine bs_any rfl fun z64 => ?_)
                              have rz64 := n_range z64
                              refine Ev.ret rfl rfl ?_
                              rw [← hQ61]
                              refine (show Ev _ 24 ([some (.ref 69), some (.int x1), some (.int z51), none], [.int z64, .int z60, .ref 71, .int z59], (0, 0), hp32) _ from ?_)
                              first | (refine bs_add rfl (by omega) (by omega) fun z65 hz65 => ?_) | (refine bs_any rfl fun z65 => ?_)
                              have rz65 := n_range z65
                              refine bs_ld (g := 132) 124 135 (0, 999) rfl Hhp32 (bs_R.uq Hhp32 (g := 132) rfl) (by decide) rfl (by decide) (by decide) rfl (by decide) (by omega) (by omega) fun z66 hz66 lz66 gz66 => ?_
                              dsimp only at lz66 gz66
                              first | (refine bs_sub rfl (by omega) (by omega) fun z67 hz67 => ?_) | (refine bs_any rfl fun z67 => ?_)
                              have rz67 := n_range z67
                              refine Ev.step (j := 28) (s' := ([some (.ref 69), some (.int x1), some (.int z51), some (.int z67)], [], (0, 0), hp32)) rfl rfl ?_
                              exact by
                               refine Ev.step (j := 29) (s' := ([some (.ref 69), some (.int x1), some (.int z51), some (.int z67)], [.int z67], (0, 0), hp32)) rfl rfl ?_
                               refine bs_ifle rfl (fun c68 => ?_) (fun c68 => ?_)
                               · skip
                                 refine bs_lit (k := 0) rfl rfl fun z69 hz69 => ?_
                                 refine Ev.ret rfl rfl ?_
                                 rw [← hQ52]
                                 refine (show Ev _ 35 ([some (.ref 69), some (.int x1), some (.int z41)], [.int z69, .int z49, .int z42], (0, 0), hp32) _ from ?_)
                                 refine bs_pure [.int z49, .int z69] [.int z42] rfl rfl rfl rfl px_lesser fun z70 hz70 => ?_
                                 refine (show Ev _ 38 ([some (.ref 69), some (.int x1), some (.int z41)], [.int z70, .int z42], (0, 0), hp32) _ from ?_)
                                 refine bs_pure [.int z42, .int z70] [] rfl rfl rfl rfl px_lesser fun z71 hz71 => ?_
                                 exact by
                                  refine (show Ev _ 41 ([some (.ref 69), some (.int x1), some (.int z41)], [.int z71], (0, 0), hp32) _ from ?_)
                                  refine Ev.ret rfl rfl ?_
                                  rw [← hQ37]
                                  refine (show Ev _ 67 ([some (.ref 69), some (.int x1), some (.int k31)], [.int z71], (0, 0), hp32) _ from ?_)
                                  exact Ev.ret rfl rfl (by rw [hQ]; exact ⟨t33, Hhp32, Fhp32, bs_an0, sf_S_nil⟩)
                               · skip
                                 refine Ev.step (j := 33) (s' := ([some (.ref 69), some (.int x1), some (.int z51), some (.int z67)], [.int z67], (0, 0), hp32)) rfl rfl ?_
                                 exact by
                                  refine Ev.step (j := 37) (s' := ([some (.ref 69), some (.int x1), some (.int z51), some (.int z67)], [.int z67], (0, 0), hp32)) rfl rfl ?_
                                  refine Ev.ret rfl rfl ?_
                                  rw [← hQ52]
                                  refine (show Ev _ 35 ([some (.ref 69), some (.int x1), some (.int z41)], [.int z67, .int z49, .int z42], (0, 0), hp32) _ from ?_)
                                  refine bs_pure [.int z49, .int z67] [.int z42] rfl rfl rfl rfl px_lesser fun z72 hz72 => ?_
                                  refine (show Ev _ 38 ([some (.ref 69), some (.int x1), some (.int z41)], [.int z72, .int z42], (0, 0), hp32) _ from ?_)
                                  refine bs_pure [.int z42, .int z72] [] rfl rfl rfl rfl px_lesser fun z73 hz73 => ?_
                                  refine (show Ev _ 41 ([some (.ref 69), some (.int x1), some (.int z41)], [.int z73], (0, 0), hp32) _ from ?_)
                                  refine Ev.ret rfl rfl ?_
                                  rw [← hQ37]
                                  refine (show Ev _ 67 ([some (.ref 69), some (.int x1), some (.int k31)], [.int z73], (0, 0), hp32) _ from ?_)
                                  exact Ev.ret rfl rfl (by rw [hQ]; exact ⟨t33, Hhp32, Fhp32, bs_an0, sf_S_nil⟩)
                    · skip
                      refine Ev.step (j := 43) (s' := ([some (.ref 69), some (.int x1), some (.int k31)], [.ref 69], (0, 0), hp32)) rfl rfl ?_
                      exact by
                       refine Ev.step (j := 44) (s' := ([some (.ref 69), some (.int x1), some (.int k31)], [.ref 69, .ref 69], (0, 0), hp32)) rfl rfl ?_
                       refine bs_getI 11 rfl rfl rfl Hhp32 (bs_R.uq Hhp32 (g := 11) rfl) (by decide) rfl fun z74 hz74 lz74 gz74 => ?_
                       refine Ev.step (j := 48) (s' := ([some (.ref 69), some (.int x1), some (.int k31)], [.ref 69, .int z74, .ref 69], (0, 0), hp32)) rfl rfl ?_
                       refine Ev.step (j := 49) (s' := ([some (.ref 69), some (.int x1), some (.int k31)], [.int k31, .ref 69, .int z74, .ref 69], (0, 0), hp32)) rfl rfl ?_
                       refine Ev.inl (L := (L_X11_goesOf Z_X11_cell Z_X11_lackOf Z_X11_lesser)) (nL := 3) rfl (bs_rcv (g := 11) Hhp32 (bs_R.uq Hhp32 (g := 11) rfl) (by decide) rfl) rfl (Nat.le_of_ble_eq_true rfl) ?_
                       generalize hQ75 : (fun (o : ab_O) => Ev _ _ _ _) = Q75
                       refine (show Ev (ab_T (L_X11_goesOf Z_X11_cell Z_X11_lackOf Z_X11_lesser)) 0 ([some (.ref 69), some (.int k31), none], [], (0, 0), hp32) Q75 from ?_)
                       refine Ev.step (j := 1) (s' := ([some (.ref 69), some (.int k31), none], [.ref 69], (0, 0), hp32)) rfl rfl ?_
                       refine bs_getU (g := 11) (g1 := 132) rfl rfl Hhp32 (bs_R.uq Hhp32 (g := 11) rfl) (by decide) rfl rfl ?_
                       exact by
                        refine bs_lit (k := 120) rfl rfl fun z76 hz76 => ?_
                        refine bs_ld (g := 132) 120 120 (0, 400) rfl Hhp32 (bs_R.uq Hhp32 (g := 132) rfl) (by decide) rfl (by decide) (by decide) rfl (by decide) (by omega) (by omega) fun z77 hz77 lz77 gz77 => ?_
                        dsimp only at lz77 gz77
                        replace hz77 := bs_at hz77 (show z76.toInt.toNat = 120 by omega)
                        refine bs_lit (k := 2) rfl rfl fun z78 hz78 => ?_
                        refine bs_rem 2 rfl hz78 (by decide) (by omega) fun z79 hz79 => ?_
                        refine Ev.step (j := 10) (s' := ([some (.ref 69), some (.int k31), some (.int z79)], [], (0, 0), hp32)) rfl rfl ?_
                        refine Ev.step (j := 11) (s' := ([some (.ref 69), some (.int k31), some (.int z79)], [.ref 69], (0, 0), hp32)) rfl rfl ?_
                        refine bs_getI 11 rfl rfl rfl Hhp32 (bs_R.uq Hhp32 (g := 11) rfl) (by decide) rfl fun z80 hz80 lz80 gz80 => ?_
                        have e81 : z80.toInt = z74.toInt := Option.some.inj (hz80.symm.trans hz74)
                        refine Ev.step (j := 15) (s' := ([some (.ref 69), some (.int k31), some (.int z79)], [.ref 69, .int z80], (0, 0), hp32)) rfl rfl ?_
                        exact by
                         refine bs_getU (g := 11) (g1 := 132) rfl rfl Hhp32 (bs_R.uq Hhp32 (g := 11) rfl) (by decide) rfl rfl ?_
                         refine bs_lit (k := 124) rfl rfl fun z82 hz82 => ?_
                         refine Ev.step (j := 21) (s' := ([some (.ref 69), some (.int k31), some (.int z79)], [.int k31, .int z82, .ref 71, .int z80], (0, 0), hp32)) rfl rfl ?_
                         refine Ev.step (j := 22) (s' := ([some (.ref 69), some (.int k31), some (.int z79)], [.int z79, .int k31, .int z82, .ref 71, .int z80], (0, 0), hp32)) rfl rfl ?_
                         refine Ev.inlS (L := L_X11_cell) (nL := 2) rfl rfl (Nat.le_of_ble_eq_true rfl) ?_
                         generalize hQ83 : (fun (o : ab_O) => Ev _ _ _ _) = Q83
                         refine (show Ev (ab_T L_X11_cell) 0 ([some (.int k31), some (.int z79)], [], (0, 0), hp32) Q83 from ?_)
                         refine bs_lit (k := 2) rfl rfl fun z84 hz84 => ?_
                         refine Ev.step (j := 2) (s' := ([some (.int k31), some (.int z79)], [.int k31, .int z84], (0, 0), hp32)) rfl rfl ?_
                         exact by
                          refine bs_mul (2) rfl (Or.inl hz84) (by rw [hz84]; omega) (by rw [hz84]; omega) fun z85 hz85 => ?_
                          rw [hz84] at hz85
                          refine Ev.step (j := 4) (s' := ([some (.int k31), some (.int z79)], [.int z79, .int z85], (0, 0), hp32)) rfl rfl ?_
                          first | (refine bs_add rfl (by omega) (by omega) fun z86 hz86 => ?_) | (refine bs_any rfl fun z86 => ?_)
                          have rz86 := n_range z86
                          refine Ev.ret rfl rfl ?_
                          rw [← hQ83]
                          refine (show Ev _ 25 ([some (.ref 69), some (.int k31), some (.int z79)], [.int z86, .int z82, .ref 71, .int z80], (0, 0), hp32) _ from ?_)
                          first | (refine bs_add rfl (by omega) (by omega) fun z87 hz87 => ?_) | (refine bs_any rfl fun z87 => ?_)
                          have rz87 := n_range z87
                          refine bs_ld (g := 132) 124 135 (0, 999) rfl Hhp32 (bs_R.uq Hhp32 (g := 132) rfl) (by decide) rfl (by decide) (by decide) rfl (by decide) (by omega) (by omega) fun z88 hz88 lz88 gz88 => ?_
                          dsimp only at lz88 gz88
                          refine Ev.step (j := 28) (s' := ([some (.ref 69), some (.int k31), some (.int z79)], [.ref 69, .int z88, .int z80], (0, 0), hp32)) rfl rfl ?_
                          exact by
                           refine Ev.step (j := 29) (s' := ([some (.ref 69), some (.int k31), some (.int z79)], [.int k31, .ref 69, .int z88, .int z80], (0, 0), hp32)) rfl rfl ?_
                           refine bs_lit (k := 1) rfl rfl fun z89 hz89 => ?_
                           refine Ev.step (j := 31) (s' := ([some (.ref 69), some (.int k31), some (.int z79)], [.int z79, .int z89, .int k31, .ref 69, .int z88, .int z80], (0, 0), hp32)) rfl rfl ?_
                           first | (refine bs_sub rfl (by omega) (by omega) fun z90 hz90 => ?_) | (refine bs_any rfl fun z90 => ?_)
                           have rz90 := n_range z90
                           refine Ev.inl (L := (L_X11_lackOf Z_X11_cell)) (nL := 4) rfl (bs_rcv (g := 11) Hhp32 (bs_R.uq Hhp32 (g := 11) rfl) (by decide) rfl) rfl (Nat.le_of_ble_eq_true rfl) ?_
                           generalize hQ91 : (fun (o : ab_O) => Ev _ _ _ _) = Q91
                           refine (show Ev (ab_T (L_X11_lackOf Z_X11_cell)) 0 ([some (.ref 69), some (.int k31), some (.int z90), none], [], (0, 0), hp32) Q91 from ?_)
                           refine Ev.step (j := 1) (s' := ([some (.ref 69), some (.int k31), some (.int z90), none], [.ref 69], (0, 0), hp32)) rfl rfl ?_
                           exact by
                            refine bs_getU (g := 11) (g1 := 132) rfl rfl Hhp32 (bs_R.uq Hhp32 (g := 11) rfl) (by decide) rfl rfl ?_
                            refine bs_lit (k := 16) rfl rfl fun z92 hz92 => ?_
                            refine Ev.step (j := 7) (s' := ([some (.ref 69), some (.int k31), some (.int z90), none], [.int k31, .int z92, .ref 71], (0, 0), hp32)) rfl rfl ?_
                            refine Ev.step (j := 8) (s' := ([some (.ref 69), some (.int k31), some (.int z90), none], [.int z90, .int k31, .int z92, .ref 71], (0, 0), hp32)) rfl rfl ?_
                            refine Ev.inlS (L := L_X11_cell) (nL := 2) rfl rfl (Nat.le_of_ble_eq_true rfl) ?_
                            generalize hQ93 : (fun (o : ab_O) => Ev _ _ _ _) = Q93
                            refine (show Ev (ab_T L_X11_cell) 0 ([some (.int k31), some (.int z90)], [], (0, 0), hp32) Q93 from ?_)
                            refine bs_lit (k := 2) rfl rfl fun z94 hz94 => ?_
                            refine Ev.step (j := 2) (s' := ([some (.int k31), some (.int z90)], [.int k31, .int z94], (0, 0), hp32)) rfl rfl ?_
                            exact by
                             refine bs_mul (2) rfl (Or.inl hz94) (by rw [hz94]; omega) (by rw [hz94]; omega) fun z95 hz95 => ?_
                             rw [hz94] at hz95
                             refine Ev.step (j := 4) (s' := ([some (.int k31), some (.int z90)], [.int z90, .int z95], (0, 0), hp32)) rfl rfl ?_
                             first | (refine bs_add rfl (by omega) (by omega) fun z96 hz96 => ?_) | (refine bs_any rfl fun z96 => ?_)
                             have rz96 := n_range z96
                             refine Ev.ret rfl rfl ?_
                             rw [← hQ93]
                             refine (show Ev _ 11 ([some (.ref 69), some (.int k31), some (.int z90), none], [.int z96, .int z92, .ref 71], (0, 0), hp32) _ from ?_)
                             first | (refine bs_add rfl (by omega) (by omega) fun z97 hz97 => ?_) | (refine bs_any rfl fun z97 => ?_)
                             have rz97 := n_range z97
                             refine bs_ld (g := 132) 16 27 (0, 250) rfl Hhp32 (bs_R.uq Hhp32 (g := 132) rfl) (by decide) rfl (by decide) (by decide) rfl (by decide) (by omega) (by omega) fun z98 hz98 lz98 gz98 => ?_
                             dsimp only at lz98 gz98
                             refine Ev.step (j := 14) (s' := ([some (.ref 69), some (.int k31), some (.int z90), none], [.ref 69, .int z98], (0, 0), hp32)) rfl rfl ?_
                             exact by
                              refine bs_getU (g := 11) (g1 := 132) rfl rfl Hhp32 (bs_R.uq Hhp32 (g := 11) rfl) (by decide) rfl rfl ?_
                              refine bs_lit (k := 124) rfl rfl fun z99 hz99 => ?_
                              refine Ev.step (j := 20) (s' := ([some (.ref 69), some (.int k31), some (.int z90), none], [.int k31, .int z99, .ref 71, .int z98], (0, 0), hp32)) rfl rfl ?_
                              refine Ev.step (j := 21) (s' := ([some (.ref 69), some (.int k31), some (.int z90), none], [.int z90, .int k31, .int z99, .ref 71, .int z98], (0, 0), hp32)) rfl rfl ?_
                              refine Ev.inlS (L := L_X11_cell) (nL := 2) rfl rfl (Nat.le_of_ble_eq_true rfl) ?_
                              generalize hQ100 : (fun (o : ab_O) => Ev _ _ _ _) = Q100
                              refine (show Ev (ab_T L_X11_cell) 0 ([some (.int k31), some (.int z90)], [], (0, 0), hp32) Q100 from ?_)
                              refine bs_lit (k := 2) rfl rfl fun z101 hz101 => ?_
                              refine Ev.step (j := 2) (s' := ([some (.int k31), some (.int z90)], [.int k31, .int z101], (0, 0), hp32)) rfl rfl ?_
                              exact by
                               refine bs_mul (2) rfl (Or.inl hz101) (by rw [hz101]; omega) (by rw [hz101]; omega) fun z102 hz102 => ?_
                               rw [hz101] at hz102
                               refine Ev.step (j := 4) (s' := ([some (.int k31), some (.int z90)], [.int z90, .int z102], (0, 0), hp32)) rfl rfl ?_
                               first | (refine bs_add rfl (by omega) (by omega) fun z103 hz103 => ?_) | (refine bs_any rfl fun z103 => ?_)
                               have rz103 := n_range z103
                               refine Ev.ret rfl rfl ?_
                               rw [← hQ100]
                               refine (show Ev _ 24 ([some (.ref 69), some (.int k31), some (.int z90), none], [.int z103, .int z99, .ref 71, .int z98], (0, 0), hp32) _ from ?_)
                               first | (refine bs_add rfl (by omega) (by omega) fun z104 hz104 => ?_) | (refine bs_any rfl fun z104 => ?_)
                               have rz104 := n_range z104
                               refine bs_ld (g := 132) 124 135 (0, 999) rfl Hhp32 (bs_R.uq Hhp32 (g := 132) rfl) (by decide) rfl (by decide) (by decide) rfl (by decide) (by omega) (by omega) fun z105 hz105 lz105 gz105 => ?_
                               dsimp only at lz105 gz105
                               first | (refine bs_sub rfl (by omega) (by omega) fun z106 hz106 => ?_) | (refine bs_any rfl fun z106 => ?_)
                               have rz106 := n_range z106
                               refine Ev.step (j := 28) (s' := ([some (.ref 69), some (.int k31), some (.int z90), some (.int z106)], [], (0, 0), hp32)) rfl rfl ?_
                               exact by
                                refine Ev.step (j := 29) (s' := ([some (.ref 69), some (.int k31), some (.int z90), some (.int z106)], [.int z106], (0, 0), hp32)) rfl rfl ?_
                                refine bs_ifle rfl (fun c107 => ?_) (fun c107 => ?_)
                                · skip
                                  refine bs_lit (k := 0) rfl rfl fun z108 hz108 => ?_
                                  refine Ev.ret rfl rfl ?_
                                  rw [← hQ91]
                                  refine (show Ev _ 35 ([some (.ref 69), some (.int k31), some (.int z79)], [.int z108, .int z88, .int z80], (0, 0), hp32) _ from ?_)
                                  refine bs_pure [.int z88, .int z108] [.int z80] rfl rfl rfl rfl px_lesser fun z109 hz109 => ?_
                                  refine (show Ev _ 38 ([some (.ref 69), some (.int k31), some (.int z79)], [.int z109, .int z80], (0, 0), hp32) _ from ?_)
                                  refine bs_pure [.int z80, .int z109] [] rfl rfl rfl rfl px_lesser fun z110 hz110 => ?_
                                  exact by
                                   refine (show Ev _ 41 ([some (.ref 69), some (.int k31), some (.int z79)], [.int z110], (0, 0), hp32) _ from ?_)
                                   refine Ev.ret rfl rfl ?_
                                   rw [← hQ75]
                                   refine (show Ev _ 52 ([some (.ref 69), some (.int x1), some (.int k31)], [.int z110, .int z74, .ref 69], (0, 0), hp32) _ from ?_)
                                   first | (refine bs_sub rfl (by omega) (by omega) fun z111 hz111 => ?_) | (refine bs_any rfl fun z111 => ?_)
                                   have rz111 := n_range z111
                                   refine bs_putI (W := [(11, 22, 22)]) (g := 11) rfl rfl Hhp32 (bs_R.uq Hhp32 (g := 11) rfl) (by decide) rfl rfl rfl rfl (Or.inl rfl) (by omega) (by omega) fun hp112 Hhp112 fhp112 rhp112 ehp112 qhp112 nhp112 => ?_
                                   have Fhp112 := sf_fr_tr Fhp32 (sf_fr_wider (W := [(11, 0, 0), (11, 22, 22)]) rfl fhp112)
                                   have h113 : sf_rd hp112 71 120 = some z77.toInt := (ehp112 _ _ (Or.inl (by decide))).trans hz77
                                   have h114 : sf_rd hp112 71 z87.toInt.toNat = some z88.toInt := (ehp112 _ _ (Or.inl (by decide))).trans hz88
                                   have h115 : sf_rd hp112 71 z97.toInt.toNat = some z98.toInt := (ehp112 _ _ (Or.inl (by decide))).trans hz98
                                   have h116 : sf_rd hp112 71 z104.toInt.toNat = some z105.toInt := (ehp112 _ _ (Or.inl (by decide))).trans hz105
                                   refine bs_iinc (1) rfl rfl rfl rfl (by omega) (by omega) fun z117 hz117 => ?_
                                   exact by
                                    refine (show Ev _ 59 ([some (.ref 69), some (.int x1), some (.int z117)], [], (0, 0), hp112) _ from ?_)
                                    refine Ev.step (j := 37) (s' := ([some (.ref 69), some (.int x1), some (.int z117)], [], (0, 0), hp112)) rfl rfl ?_
                                    refine ih34 (z117, hp112, t33) ⟨Hhp112, Fhp112, (by first | omega | assumption)⟩ ?_
                                    show (x1.toInt - z117.toInt).toNat < (x1.toInt - k31.toInt).toNat
                                    omega
                                · skip
                                  refine Ev.step (j := 33) (s' := ([some (.ref 69), some (.int k31), some (.int z90), some (.int z106)], [.int z106], (0, 0), hp32)) rfl rfl ?_
                                  exact by
                                   refine Ev.step (j := 37) (s' := ([some (.ref 69), some (.int k31), some (.int z90), some (.int z106)], [.int z106], (0, 0), hp32)) rfl rfl ?_
                                   refine Ev.ret rfl rfl ?_
                                   rw [← hQ91]
                                   refine (show Ev _ 35 ([some (.ref 69), some (.int k31), some (.int z79)], [.int z106, .int z88, .int z80], (0, 0), hp32) _ from ?_)
                                   refine bs_pure [.int z88, .int z106] [.int z80] rfl rfl rfl rfl px_lesser fun z118 hz118 => ?_
                                   refine (show Ev _ 38 ([some (.ref 69), some (.int k31), some (.int z79)], [.int z118, .int z80], (0, 0), hp32) _ from ?_)
                                   refine bs_pure [.int z80, .int z118] [] rfl rfl rfl rfl px_lesser fun z119 hz119 => ?_
                                   refine (show Ev _ 41 ([some (.ref 69), some (.int k31), some (.int z79)], [.int z119], (0, 0), hp32) _ from ?_)
                                   refine Ev.ret rfl rfl ?_
                                   rw [← hQ75]
                                   refine (show Ev _ 52 ([some (.ref 69), some (.int x1), some (.int k31)], [.int z119, .int z74, .ref 69], (0, 0), hp32) _ from ?_)
                                   first | (refine bs_sub rfl (by omega) (by omega) fun z120 hz120 => ?_) | (refine bs_any rfl fun z120 => ?_)
                                   have rz120 := n_range z120
                                   refine bs_putI (W := [(11, 22, 22)]) (g := 11) rfl rfl Hhp32 (bs_R.uq Hhp32 (g := 11) rfl) (by decide) rfl rfl rfl rfl (Or.inl rfl) (by omega) (by omega) fun hp121 Hhp121 fhp121 rhp121 ehp121 qhp121 nhp121 => ?_
                                   have Fhp121 := sf_fr_tr Fhp32 (sf_fr_wider (W := [(11, 0, 0), (11, 22, 22)]) rfl fhp121)
                                   have h122 : sf_rd hp121 71 120 = some z77.toInt := (ehp121 _ _ (Or.inl (by decide))).trans hz77
                                   have h123 : sf_rd hp121 71 z87.toInt.toNat = some z88.toInt := (ehp121 _ _ (Or.inl (by decide))).trans hz88
                                   have h124 : sf_rd hp121 71 z97.toInt.toNat = some z98.toInt := (ehp121 _ _ (Or.inl (by decide))).trans hz98
                                   have h125 : sf_rd hp121 71 z104.toInt.toNat = some z105.toInt := (ehp121 _ _ (Or.inl (by decide))).trans hz105
                                   refine bs_iinc (1) rfl rfl rfl rfl (by omega) (by omega) fun z126 hz126 => ?_
                                   exact by
                                    refine (show Ev _ 59 ([some (.ref 69), some (.int x1), some (.int z126)], [], (0, 0), hp121) _ from ?_)
                                    refine Ev.step (j := 37) (s' := ([some (.ref 69), some (.int x1), some (.int z126)], [], (0, 0), hp121)) rfl rfl ?_
                                    refine ih34 (z126, hp121, t33) ⟨Hhp121, Fhp121, (by first | omega | assumption)⟩ ?_
                                    show (x1.toInt - z126.toInt).toNat < (x1.toInt - k31.toInt).toNat
                                    omega
                · skip
                  have c127 : z21.toInt = 400 := by omega
                  refine bs_lit (k := 0) rfl rfl fun z128 hz128 => ?_
                  exact Ev.ret rfl rfl (by rw [hQ]; exact ⟨t, Hhp2, Fhp2, bs_an0, sf_S_nil⟩)
             · exfalso; omega
def kq_X11_goesOn_3d45d6 : sf_Q := ([(1, 11, 0), (0, 0, 0)], [], some (0, 0, 0), [(1, 0, 0, 0, 2147483647, 0)], [(11, 22, 22), (132, 120, 252)])
def kc_X11_goesOn_3d45d6 : List (Nat × sf_I) := [(0, 0, [1, 0]),
  (1, 5, [2, 2]),
  (2, 2, [3, 2]),
  (3, 2, [4, 1]),
  (4, 21, [7, 30, 5]),
  (7, 4, [8, 0]),
  (8, 23, [11, 11, 6]),
  (11, 0, [13, 120]),
  (13, 25, [14, 1]),
  (14, 0, [17, 400]),
  (17, 21, [20, 30, 5]),
  (20, 4, [21, 0]),
  (21, 32, [24, 0, 1, 11, 0, 0, 0, 0]),
  (24, 8, [27, 2, 1]),
  (27, 22, [2]),
  (30, 2, [31, 2]),
  (31, 35, [0, 0])]
def kd_X11_goesOn_3d45d6_0 : List (Nat × sf_D × sf_M) := [(0, ([(1, 11, 0), (0, 0, 0), (8, 0, 0)], [], [], 0, 0), (32212254718, [])),
  (1, ([(1, 11, 0), (0, 0, 0), (8, 0, 0)], [(0, 0, 0)], [(1, 0, 0, 0, 0, 0)], 0, 0), (32212254717, [])),
  (2, ([(1, 11, 0), (0, 0, 0), (0, 0, 0)], [], [(1, 7, 0, 0, 2147483647, 0), (3, 7, 4, 1, 2147483647, 0)], 0, 0), (11, [(15, 7, 2147483647, 0)])),
  (3, ([(1, 11, 0), (0, 0, 0), (0, 0, 0)], [(0, 0, 0)], [(1, 7, 0, 0, 2147483647, 0), (1, 0, 0, 0, 2147483647, 0), (3, 7, 4, 1, 2147483647, 0), (2, 0, 7, 1, 0, 0)], 0, 0), (10, [(15, 7, 2147483647, 0)])),
  (4, ([(1, 11, 0), (0, 0, 0), (0, 0, 0)], [(0, 0, 0), (0, 0, 0)], [(1, 7, 0, 0, 2147483647, 0), (1, 0, 0, 0, 2147483647, 0), (1, 3, 0, -2147483648, 2147483647, 0), (1, 4, 0, -2147483648, 2147483647, 0), (3, 7, 4, 1, 2147483647, 0), (2, 0, 7, 1, 0, 0), (2, 3, 4, 1, 0, 0)], 0, 0), (9, [(15, 7, 2147483647, 0)])),
  (7, ([(1, 11, 0), (0, 0, 0), (0, 0, 0)], [], [(1, 7, 0, 0, 2147483646, 0), (1, 4, 0, 1, 2147483647, 0)], 0, 0), (8, [(15, 7, 2147483647, 0)])),
  (8, ([(1, 11, 0), (0, 0, 0), (0, 0, 0)], [(1, 11, 0)], [(1, 7, 0, 0, 2147483646, 0), (1, 4, 0, 1, 2147483647, 0)], 0, 0), (7, [(15, 7, 2147483647, 0)])),
  (11, ([(1, 11, 0), (0, 0, 0), (0, 0, 0)], [(1, 132, 0)], [(1, 7, 0, 0, 2147483646, 0), (1, 4, 0, 1, 2147483647, 0)], 0, 0), (6, [(15, 7, 2147483647, 0)])),
  (13, ([(1, 11, 0), (0, 0, 0), (0, 0, 0)], [(0, 0, 0), (1, 132, 0)], [(1, 7, 0, 0, 2147483646, 0), (1, 4, 0, 1, 2147483647, 0), (1, 3, 0, 120, 120, 0)], 0, 0), (5, [(15, 7, 2147483647, 0)])),
  (14, ([(1, 11, 0), (0, 0, 0), (0, 0, 0)], [(0, 0, 0)], [(1, 7, 0, 0, 2147483646, 0), (1, 4, 0, 1, 2147483647, 0), (1, 0, 0, 0, 400, 0), (1, 399362, 0, -2147483648, 2147483647, 0), (2, 0, 399362, 1, 0, 0)], 0, 0), (4, [(15, 7, 2147483647, 0)]))]
def kd_X11_goesOn_3d45d6_1 : List (Nat × sf_D × sf_M) := [(17, ([(1, 11, 0), (0, 0, 0), (0, 0, 0)], [(0, 0, 0), (0, 0, 0)], [(1, 7, 0, 0, 2147483646, 0), (1, 4, 0, 1, 2147483647, 0), (1, 0, 0, 0, 400, 0), (1, 399362, 0, -2147483648, 2147483647, 0), (1, 3, 0, 400, 400, 0), (2, 0, 399362, 1, 0, 0)], 0, 0), (3, [(15, 7, 2147483647, 0)])),
  (20, ([(1, 11, 0), (0, 0, 0), (0, 0, 0)], [], [(1, 7, 0, 0, 2147483646, 0), (1, 4, 0, 1, 2147483647, 0), (1, 399362, 0, 0, 399, 0)], 0, 0), (2, [(15, 7, 2147483647, 0)])),
  (21, ([(1, 11, 0), (0, 0, 0), (0, 0, 0)], [(1, 11, 0)], [(1, 7, 0, 0, 2147483646, 0), (1, 4, 0, 1, 2147483647, 0), (1, 399362, 0, 0, 399, 0)], 0, 0), (1, [(15, 7, 2147483647, 0)])),
  (24, ([(1, 11, 0), (0, 0, 0), (0, 0, 0)], [], [(1, 7, 0, 0, 2147483646, 0), (1, 4, 0, 1, 2147483647, 0)], 0, 0), (0, [(15, 7, 2147483647, 0)])),
  (27, ([(1, 11, 0), (0, 0, 0), (0, 0, 0)], [], [(1, 4, 0, 1, 2147483647, 0), (1, 7, 0, 1, 2147483647, 0)], 0, 0), (12, [(15, 7, 2147483647, 0)])),
  (30, ([(1, 11, 0), (0, 0, 0), (0, 0, 0)], [], [(1, 7, 0, 0, 2147483647, 0), (1, 4, 0, -2147483648, 2147483647, 0), (3, 7, 4, 1, 2147483647, 0)], 0, 0), (1, [])),
  (31, ([(1, 11, 0), (0, 0, 0), (0, 0, 0)], [(0, 0, 0)], [(1, 7, 0, 0, 2147483647, 0), (1, 4, 0, -2147483648, 2147483647, 0), (1, 0, 0, 0, 2147483647, 0), (3, 7, 4, 1, 2147483647, 0), (2, 0, 7, 1, 0, 0)], 0, 0), (0, []))]
def kd_X11_goesOn_3d45d6 : List (Nat × sf_D × sf_M) := kd_X11_goesOn_3d45d6_0 ++ (kd_X11_goesOn_3d45d6_1)
set_option maxRecDepth 100000 in
theorem kt_X11_goesOn_3d45d6 : sf_chk [kq_X11_day_h] kq_X11_goesOn_3d45d6 3 kc_X11_goesOn_3d45d6 kd_X11_goesOn_3d45d6 = true := by decide +kernel
set_option maxRecDepth 100000 in
theorem kl_X11_goesOn_3d45d6 : (kc_X11_goesOn_3d45d6).map (fun c => (c.1, sf_den ([Z_X11_day] : List sf_X) c.2)) = L_X11_goesOn Z_X11_day := rfl
theorem ct_X11_goesOn_3d45d6 : sf_ct kq_X11_goesOn_3d45d6 Z_X11_goesOn := by
  have h := sf_meth (K := [kq_X11_day_h]) (E := [Z_X11_day]) (k := kq_X11_goesOn_3d45d6) (nL := 3) (C := kc_X11_goesOn_3d45d6) (D := kd_X11_goesOn_3d45d6) (fun m k hk => match m, hk with
    | 0, hk => (Option.some.inj hk) ▸ ct_X11_day_h
    | _ + 1, hk => (by cases hk)) kt_X11_goesOn_3d45d6
  rw [kl_X11_goesOn_3d45d6] at h
  exact h
def kq_X11_meet_h : sf_Q := ([(1, 11, 0), (0, 0, 0), (0, 0, 0)], [], some (0, 0, 0), [], [(11, 0, 0), (11, 22, 22), (132, 120, 252), (139, 0, 132)])
set_option maxRecDepth 100000 in
set_option maxHeartbeats 4000000 in
theorem ct_X11_meet_h : sf_ct kq_X11_meet_h Z_X11_meet := by
  intro t hp as H hl hj hpre
  match as, hl with
  | [v0, v1, v2], _ =>
    obtain ⟨a0, rfl, ra0⟩ := bs_aR (hj 0 _ rfl)
    obtain rfl := ra0.eq H (p := 69) rfl
    obtain ⟨x1, rfl⟩ := bs_aI (hj 1 _ rfl)
    have rg1 := n_range x1
    obtain ⟨x2, rfl⟩ := bs_aI (hj 2 _ rfl)
    have rg2 := n_range x2
    clear hpre hj
    have F0 : sf_fr [(11, 0, 0), (11, 22, 22), (132, 120, 252), (139, 0, 132)] t hp t hp := sf_fr_rf
    refine bs_fin (K := kq_X11_meet_h) (L := (L_X11_meet Z_X11_isMan Z_X11_isDead Z_X11_tries Z_X11_areUnlike Z_X11_goesOn Z_X11_back)) (nL := 5) (Nat.le_of_ble_eq_true rfl) ?_
    obtain ⟨Q, hQ⟩ : ∃ Q : ab_O → Prop, Q = (fun o => ∃ t', sf_h t' o.2 ∧ sf_fr (kq_X11_meet_h).2.2.2.2 t hp t' o.2 ∧ sf_an t' o.2.1 (kq_X11_meet_h).2.2.1 o.1 ∧ sf_S (sf_v1 o.1 [.ref 69, .int x1, .int x2] o.2) (kq_X11_meet_h).2.2.2.1) := ⟨_, rfl⟩
    rw [← hQ]
    refine (show Ev (ab_T (L_X11_meet Z_X11_isMan Z_X11_isDead Z_X11_tries Z_X11_areUnlike Z_X11_goesOn Z_X11_back)) 0 ([some (.ref 69), some (.int x1), some (.int x2), none, none], [], (0, 0), hp) Q from ?_)
    exact by
     refine Ev.step (j := 1) (s' := ([some (.ref 69), some (.int x1), some (.int x2), none, none], [.ref 69], (0, 0), hp)) rfl rfl ?_
     refine bs_lit (k := 0) rfl rfl fun z1 hz1 => ?_
     refine bs_putI (W := [(11, 0, 0)]) (g := 11) rfl rfl H (bs_R.uq H (g := 11) rfl) (by decide) rfl rfl rfl rfl (Or.inl rfl) (by omega) (by omega) fun hp2 Hhp2 fhp2 rhp2 ehp2 qhp2 nhp2 => ?_
     have Fhp2 := sf_fr_tr F0 (sf_fr_wider (W := [(11, 0, 0), (11, 22, 22), (132, 120, 252), (139, 0, 132)]) rfl fhp2)
     refine Ev.step (j := 6) (s' := ([some (.ref 69), some (.int x1), some (.int x2), none, none], [.ref 69], (0, 0), hp2)) rfl rfl ?_
     refine Ev.step (j := 7) (s' := ([some (.ref 69), some (.int x1), some (.int x2), none, none], [.int x1, .ref 69], (0, 0), hp2)) rfl rfl ?_
     refine Ev.inl (L := (L_X11_isMan Z_X11_isIn)) (nL := 2) rfl (bs_rcv (g := 11) Hhp2 (bs_R.uq Hhp2 (g := 11) rfl) (by decide) rfl) rfl (Nat.le_of_ble_eq_true rfl) ?_
     generalize hQ3 : (fun (o : ab_O) => Ev _ _ _ _) = Q3
     refine (show Ev (ab_T (L_X11_isMan Z_X11_isIn)) 0 ([some (.ref 69), some (.int x1)], [], (0, 0), hp2) Q3 from ?_)
     exact by
      refine Ev.step (j := 1) (s' := ([some (.ref 69), some (.int x1)], [.int x1], (0, 0), hp2)) rfl rfl ?_
      refine bs_lit (k := 0) rfl rfl fun z4 hz4 => ?_
      refine Ev.step (j := 3) (s' := ([some (.ref 69), some (.int x1)], [.ref 69, .int z4, .int x1], (0, 0), hp2)) rfl rfl ?_
      refine bs_getU (g := 11) (g1 := 132) rfl rfl Hhp2 (bs_R.uq Hhp2 (g := 11) rfl) (by decide) rfl rfl ?_
      refine bs_lit (k := 1) rfl rfl fun z5 hz5 => ?_
      refine bs_ld (g := 132) 1 1 (0, 8) rfl Hhp2 (bs_R.uq Hhp2 (g := 132) rfl) (by decide) rfl (by decide) (by decide) rfl (by decide) (by omega) (by omega) fun z6 hz6 lz6 gz6 => ?_
      dsimp only at lz6 gz6
      replace hz6 := bs_at hz6 (show z5.toInt.toNat = 1 by omega)
      refine bs_lit (k := 1) rfl rfl fun z7 hz7 => ?_
      first | (refine bs_sub rfl (by omega) (by omega) fun z8 hz8 => ?_) | (refine bs_any rfl fun z8 => ?_)
      have rz8 := n_range z8
      refine Ev.inlS (L := L_X11_isIn) (nL := 3) rfl rfl (Nat.le_of_ble_eq_true rfl) ?_
      generalize hQ9 : (fun (o : ab_O) => Ev _ _ _ _) = Q9
      refine (show Ev (ab_T L_X11_isIn) 0 ([some (.int x1), some (.int z4), some (.int z8)], [], (0, 0), hp2) Q9 from ?_)
      exact by
       refine Ev.step (j := 1) (s' := ([some (.int x1), some (.int z4), some (.int z8)], [.int x1], (0, 0), hp2)) rfl rfl ?_
       refine Ev.step (j := 2) (s' := ([some (.int x1), some (.int z4), some (.int z8)], [.int z4, .int x1], (0, 0), hp2)) rfl rfl ?_
       refine bs_lt rfl (fun c10 => ?_) (fun c10 => ?_)
       · skip
         refine bs_lit (k := 0) rfl rfl fun z11 hz11 => ?_
         refine bs_zret rfl rfl (by omega) (by omega) ?_
         rw [← hQ9]
         refine (show Ev _ 13 ([some (.ref 69), some (.int x1)], [.int z11], (0, 0), hp2) _ from ?_)
         refine bs_zret rfl rfl (by omega) (by omega) ?_
         rw [← hQ3]
         refine (show Ev _ 10 ([some (.ref 69), some (.int x1), some (.int x2), none, none], [.int z11], (0, 0), hp2) _ from ?_)
         exact by
          refine bs_ifeq rfl (fun c12 => ?_) (fun c12 => ?_)
          · skip
            refine bs_lit (k := -1) rfl rfl fun z13 hz13 => ?_
            exact Ev.ret rfl rfl (by rw [hQ]; exact ⟨t, Hhp2, Fhp2, bs_an0, sf_S_nil⟩)
          · exfalso; omega
       · skip
         refine Ev.step (j := 6) (s' := ([some (.int x1), some (.int z4), some (.int z8)], [.int x1], (0, 0), hp2)) rfl rfl ?_
         exact by
          refine Ev.step (j := 7) (s' := ([some (.int x1), some (.int z4), some (.int z8)], [.int z8, .int x1], (0, 0), hp2)) rfl rfl ?_
          refine bs_gt rfl (fun c14 => ?_) (fun c14 => ?_)
          · skip
            refine bs_lit (k := 0) rfl rfl fun z15 hz15 => ?_
            refine bs_zret rfl rfl (by omega) (by omega) ?_
            rw [← hQ9]
            refine (show Ev _ 13 ([some (.ref 69), some (.int x1)], [.int z15], (0, 0), hp2) _ from ?_)
            refine bs_zret rfl rfl (by omega) (by omega) ?_
            rw [← hQ3]
            refine (show Ev _ 10 ([some (.ref 69), some (.int x1), some (.int x2), none, none], [.int z15], (0, 0), hp2) _ from ?_)
            refine bs_ifeq rfl (fun c16 => ?_) (fun c16 => ?_)
            · skip
              refine bs_lit (k := -1) rfl rfl fun z17 hz17 => ?_
              exact Ev.ret rfl rfl (by rw [hQ]; exact ⟨t, Hhp2, Fhp2, bs_an0, sf_S_nil⟩)
            · exfalso; omega
          · skip
            refine bs_lit (k := 1) rfl rfl fun z18 hz18 => ?_
            exact by
             refine Ev.step (j := 15) (s' := ([some (.int x1), some (.int z4), some (.int z8)], [.int z18], (0, 0), hp2)) rfl rfl ?_
             refine bs_zret rfl rfl (by omega) (by omega) ?_
             rw [← hQ9]
             refine (show Ev _ 13 ([some (.ref 69), some (.int x1)], [.int z18], (0, 0), hp2) _ from ?_)
             refine bs_zret rfl rfl (by omega) (by omega) ?_
             rw [← hQ3]
             refine (show Ev _ 10 ([some (.ref 69), some (.int x1), some (.int x2), none, none], [.int z18], (0, 0), hp2) _ from ?_)
             refine bs_ifeq rfl (fun c19 => ?_) (fun c19 => ?_)
             · exfalso; omega
             · skip
               refine Ev.step (j := 14) (s' := ([some (.ref 69), some (.int x1), some (.int x2), none, none], [.ref 69], (0, 0), hp2)) rfl rfl ?_
               refine Ev.step (j := 15) (s' := ([some (.ref 69), some (.int x1), some (.int x2), none, none], [.int x2, .ref 69], (0, 0), hp2)) rfl rfl ?_
               exact by
                refine Ev.inl (L := (L_X11_isMan Z_X11_isIn)) (nL := 2) rfl (bs_rcv (g := 11) Hhp2 (bs_R.uq Hhp2 (g := 11) rfl) (by decide) rfl) rfl (Nat.le_of_ble_eq_true rfl) ?_
                generalize hQ20 : (fun (o : ab_O) => Ev _ _ _ _) = Q20
                refine (show Ev (ab_T (L_X11_isMan Z_X11_isIn)) 0 ([some (.ref 69), some (.int x2)], [], (0, 0), hp2) Q20 from ?_)
                refine Ev.step (j := 1) (s' := ([some (.ref 69), some (.int x2)], [.int x2], (0, 0), hp2)) rfl rfl ?_
                refine bs_lit (k := 0) rfl rfl fun z21 hz21 => ?_
                refine Ev.step (j := 3) (s' := ([some (.ref 69), some (.int x2)], [.ref 69, .int z21, .int x2], (0, 0), hp2)) rfl rfl ?_
                refine bs_getU (g := 11) (g1 := 132) rfl rfl Hhp2 (bs_R.uq Hhp2 (g := 11) rfl) (by decide) rfl rfl ?_
                refine bs_lit (k := 1) rfl rfl fun z22 hz22 => ?_
                refine bs_ld (g := 132) 1 1 (0, 8) rfl Hhp2 (bs_R.uq Hhp2 (g := 132) rfl) (by decide) rfl (by decide) (by decide) rfl (by decide) (by omega) (by omega) fun z23 hz23 lz23 gz23 => ?_
                dsimp only at lz23 gz23
                replace hz23 := bs_at hz23 (show z22.toInt.toNat = 1 by omega)
                have e24 : z23.toInt = z6.toInt := Option.some.inj (hz23.symm.trans hz6)
                refine bs_lit (k := 1) rfl rfl fun z25 hz25 => ?_
                first | (refine bs_sub rfl (by omega) (by omega) fun z26 hz26 => ?_) | (refine bs_any rfl fun z26 => ?_)
                have rz26 := n_range z26
                refine Ev.inlS (L := L_X11_isIn) (nL := 3) rfl rfl (Nat.le_of_ble_eq_true rfl) ?_
                generalize hQ27 : (fun (o : ab_O) => Ev _ _ _ _) = Q27
                refine (show Ev (ab_T L_X11_isIn) 0 ([some (.int x2), some (.int z21), some (.int z26)], [], (0, 0), hp2) Q27 from ?_)
                exact by
                 refine Ev.step (j := 1) (s' := ([some (.int x2), some (.int z21), some (.int z26)], [.int x2], (0, 0), hp2)) rfl rfl ?_
                 refine Ev.step (j := 2) (s' := ([some (.int x2), some (.int z21), some (.int z26)], [.int z21, .int x2], (0, 0), hp2)) rfl rfl ?_
                 refine bs_lt rfl (fun c28 => ?_) (fun c28 => ?_)
                 · skip
                   refine bs_lit (k := 0) rfl rfl fun z29 hz29 => ?_
                   refine bs_zret rfl rfl (by omega) (by omega) ?_
                   rw [← hQ27]
                   refine (show Ev _ 13 ([some (.ref 69), some (.int x2)], [.int z29], (0, 0), hp2) _ from ?_)
                   refine bs_zret rfl rfl (by omega) (by omega) ?_
                   rw [← hQ20]
                   refine (show Ev _ 18 ([some (.ref 69), some (.int x1), some (.int x2), none, none], [.int z29], (0, 0), hp2) _ from ?_)
                   exact by
                    refine bs_ifeq rfl (fun c30 => ?_) (fun c30 => ?_)
                    · skip
                      refine bs_lit (k := -1) rfl rfl fun z31 hz31 => ?_
                      exact Ev.ret rfl rfl (by rw [hQ]; exact ⟨t, Hhp2, Fhp2, bs_an0, sf_S_nil⟩)
                    · exfalso; omega
                 · skip
                   refine Ev.step (j := 6) (s' := ([some (.int x2), some (.int z21), some (.int z26)], [.int x2], (0, 0), hp2)) rfl rfl ?_
                   exact by
                    refine Ev.step (j := 7) (s' := ([some (.int x2), some (.int z21), some (.int z26)], [.int z26, .int x2], (0, 0), hp2)) rfl rfl ?_
                    refine bs_gt rfl (fun c32 => ?_) (fun c32 => ?_)
                    · skip
                      refine bs_lit (k := 0) rfl rfl fun z33 hz33 => ?_
                      refine bs_zret rfl rfl (by omega) (by omega) ?_
                      rw [← hQ27]
                      refine (show Ev _ 13 ([some (.ref 69), some (.int x2)], [.int z33], (0, 0), hp2) _ from ?_)
                      refine bs_zret rfl rfl (by omega) (by omega) ?_
                      rw [← hQ20]
                      refine (show Ev _ 18 ([some (.ref 69), some (.int x1), some (.int x2), none, none], [.int z33], (0, 0), hp2) _ from ?_)
                      refine bs_ifeq rfl (fun c34 => ?_) (fun c34 => ?_)
                      · skip
                        refine bs_lit (k := -1) rfl rfl fun z35 hz35 => ?_
                        exact Ev.ret rfl rfl (by rw [hQ]; exact ⟨t, Hhp2, Fhp2, bs_an0, sf_S_nil⟩)
                      · exfalso; omega
                    · skip
                      refine bs_lit (k := 1) rfl rfl fun z36 hz36 => ?_
                      exact by
                       refine Ev.step (j := 15) (s' := ([some (.int x2), some (.int z21), some (.int z26)], [.int z36], (0, 0), hp2)) rfl rfl ?_
                       refine bs_zret rfl rfl (by omega) (by omega) ?_
                       rw [← hQ27]
                       refine (show Ev _ 13 ([some (.ref 69), some (.int x2)], [.int z36], (0, 0), hp2) _ from ?_)
                       refine bs_zret rfl rfl (by omega) (by omega) ?_
                       rw [← hQ20]
                       refine (show Ev _ 18 ([some (.ref 69), some (.int x1), some (.int x2), none, none], [.int z36], (0, 0), hp2) _ from ?_)
                       refine bs_ifeq rfl (fun c37 => ?_) (fun c37 => ?_)
                       · exfalso; omega
                       · skip
                         refine Ev.step (j := 22) (s' := ([some (.ref 69), some (.int x1), some (.int x2), none, none], [.int x1], (0, 0), hp2)) rfl rfl ?_
                         refine Ev.step (j := 23) (s' := ([some (.ref 69), some (.int x1), some (.int x2), none, none], [.int x2, .int x1], (0, 0), hp2)) rfl rfl ?_
                         exact by
                          refine bs_eq rfl (fun c38 => ?_) (fun c38 => ?_)
                          · skip
                            refine bs_lit (k := -1) rfl rfl fun z39 hz39 => ?_
                            exact Ev.ret rfl rfl (by rw [hQ]; exact ⟨t, Hhp2, Fhp2, bs_an0, sf_S_nil⟩)
                          · skip
                            refine Ev.step (j := 27) (s' := ([some (.ref 69), some (.int x1), some (.int x2), none, none], [.ref 69], (0, 0), hp2)) rfl rfl ?_
                            refine Ev.step (j := 28) (s' := ([some (.ref 69), some (.int x1), some (.int x2), none, none], [.int x1, .ref 69], (0, 0), hp2)) rfl rfl ?_
                            refine bs_call (K := kq_X11_isDead_ebc78d) [.ref 69, .int x1] [] rfl ct_X11_isDead_ebc78d Hhp2 rfl rfl rfl (bs_rcv (g := 11) Hhp2 (bs_R.uq Hhp2 (g := 11) rfl) (by decide) rfl) rfl ?_ (sf_S_cons (sf_s1 (x := x1.toInt) rfl (by omega) (by omega)) (sf_S_nil)) fun r40 hp41 thp41 Hhp41 fhp41 ahp41 php41 => ?_
                            · intro q k h
                              match q, h with
                              | 0, h => cases h; exact bs_jR (bs_R.uq Hhp2 (g := 11) rfl)
                              | 1, h => cases h; exact sf_j0
                              | q + 2, h => cases h
                            obtain ⟨z42, rfl⟩ := bs_anI ahp41
                            have rgz42 := n_range z42
                            have Fhp41 := sf_fr_tr Fhp2 (sf_fr_wider (W := [(11, 0, 0), (11, 22, 22), (132, 120, 252), (139, 0, 132)]) rfl fhp41)
                            have h43 : sf_rd hp41 69 0 = some z1.toInt := (fhp41.2.2.1 _ (bs_R.uq Hhp2 (g := 11) (p := 69) rfl).1 _ (by rw [(bs_R.uq Hhp2 (g := 11) (p := 69) rfl).2]; rfl)).trans rhp2
                            have h44 : sf_rd hp41 71 1 = some z6.toInt := (fhp41.2.2.1 _ (bs_R.uq Hhp2 (g := 132) (p := 71) rfl).1 _ (by rw [(bs_R.uq Hhp2 (g := 132) (p := 71) rfl).2]; rfl)).trans hz6
                            obtain ⟨uz42, vz42⟩ := bs_s1 (x := z42.toInt) rfl (php41 _ (List.mem_of_getElem? (i := 0) rfl))
                            refine (show Ev _ 31 ([some (.ref 69), some (.int x1), some (.int x2), none, none], [.int z42], (0, 0), hp41) _ from ?_)
                            exact by
                             refine bs_ifne rfl (fun c45 => ?_) (fun c45 => ?_)
                             · skip
                               refine bs_lit (k := -1) rfl rfl fun z46 hz46 => ?_
                               exact Ev.ret rfl rfl (by rw [hQ]; exact ⟨thp41, Hhp41, Fhp41, bs_an0, sf_S_nil⟩)
                             · skip
                               have c47 : z42.toInt = 0 := by omega
                               refine Ev.step (j := 35) (s' := ([some (.ref 69), some (.int x1), some (.int x2), none, none], [.ref 69], (0, 0), hp41)) rfl rfl ?_
                               refine Ev.step (j := 36) (s' := ([some (.ref 69), some (.int x1), some (.int x2), none, none], [.int x2, .ref 69], (0, 0), hp41)) rfl rfl ?_
                               refine bs_call (K := kq_X11_isDead_ebc78d) [.ref 69, .int x2] [] rfl ct_X11_isDead_ebc78d Hhp41 rfl rfl rfl (bs_rcv (g := 11) Hhp41 (bs_R.uq Hhp41 (g := 11) rfl) (by decide) rfl) rfl ?_ (sf_S_cons (sf_s1 (x := x2.toInt) rfl (by omega) (by omega)) (sf_S_nil)) fun r48 hp49 thp49 Hhp49 fhp49 ahp49 php49 => ?_
                               · intro q k h
                                 match q, h with
                                 | 0, h => cases h; exact bs_jR (bs_R.uq Hhp41 (g := 11) rfl)
                                 | 1, h => cases h; exact sf_j0
                                 | q + 2, h => cases h
                               obtain ⟨z50, rfl⟩ := bs_anI ahp49
                               have rgz50 := n_range z50
                               have Fhp49 := sf_fr_tr Fhp41 (sf_fr_wider (W := [(11, 0, 0), (11, 22, 22), (132, 120, 252), (139, 0, 132)]) rfl fhp49)
                               have h51 : sf_rd hp49 69 0 = some z1.toInt := (fhp49.2.2.1 _ (bs_R.uq Hhp41 (g := 11) (p := 69) rfl).1 _ (by rw [(bs_R.uq Hhp41 (g := 11) (p := 69) rfl).2]; rfl)).trans h43
                               have h52 : sf_rd hp49 71 1 = some z6.toInt := (fhp49.2.2.1 _ (bs_R.uq Hhp41 (g := 132) (p := 71) rfl).1 _ (by rw [(bs_R.uq Hhp41 (g := 132) (p := 71) rfl).2]; rfl)).trans h44
                               obtain ⟨uz50, vz50⟩ := bs_s1 (x := z50.toInt) rfl (php49 _ (List.mem_of_getElem? (i := 0) rfl))
                               refine (show Ev _ 39 ([some (.ref 69), some (.int x1), some (.int x2), none, none], [.int z50], (0, 0), hp49) _ from ?_)
                               exact by
                                refine bs_ifeq rfl (fun c53 => ?_) (fun c53 => ?_)
                                · skip
                                  have c54 : z50.toInt = 0 := by omega
                                  refine Ev.step (j := 45) (s' := ([some (.ref 69), some (.int x1), some (.int x2), none, none], [.ref 69], (0, 0), hp49)) rfl rfl ?_
                                  refine bs_call (K := kq_X11_tries_h) [.ref 69] [] rfl ct_X11_tries_h Hhp49 rfl rfl rfl (bs_rcv (g := 11) Hhp49 (bs_R.uq Hhp49 (g := 11) rfl) (by decide) rfl) rfl ?_ (sf_S_nil) fun r55 hp56 thp56 Hhp56 fhp56 ahp56 php56 => ?_
                                  · intro q k h
                                    match q, h with
                                    | 0, h => cases h; exact bs_jR (bs_R.uq Hhp49 (g := 11) rfl)
                                    | q + 1, h => cases h
                                  obtain rfl := ahp56.1 rfl
                                  have Fhp56 := sf_fr_tr Fhp49 (sf_fr_wider (W := [(11, 0, 0), (11, 22, 22), (132, 120, 252), (139, 0, 132)]) rfl fhp56)
                                  have h57 : sf_rd hp56 69 0 = some z1.toInt := (fhp56.2.2.1 _ (bs_R.uq Hhp49 (g := 11) (p := 69) rfl).1 _ (by rw [(bs_R.uq Hhp49 (g := 11) (p := 69) rfl).2]; rfl)).trans h51
                                  have h58 : sf_rd hp56 71 1 = some z6.toInt := (fhp56.2.2.1 _ (bs_R.uq Hhp49 (g := 132) (p := 71) rfl).1 _ (by rw [(bs_R.uq Hhp49 (g := 132) (p := 71) rfl).2]; rfl)).trans h52
                                  refine (show Ev _ 48 ([some (.ref 69), some (.int x1), some (.int x2), none, none], [], (0, 0), hp56) _ from ?_)
                                  exact by
                                   refine bs_lit (k := 0) rfl rfl fun z59 hz59 => ?_
                                   refine Ev.step (j := 50) (s' := ([some (.ref 69), some (.int x1), some (.int x2), some (.int z59), none], [], (0, 0), hp56)) rfl rfl ?_
                                   refine bs_lit (k := 1) rfl rfl fun z60 hz60 => ?_
                                   refine Ev.step (j := 53) (s' := ([some (.ref 69), some (.int x1), some (.int x2), some (.int z59), some (.int z60)], [], (0, 0), hp56)) rfl rfl ?_
                                   refine bs_loop (ι := Int32 × Int32 × ab_H × (Nat → Nat)) (fun ⟨k61, k62, hp63, t64⟩ => ([some (.ref 69), some (.int x1), some (.int x2), some (.int k61), some (.int k62)], [], (0, 0), hp63)) (fun ⟨k61, k62, hp63, t64⟩ => (sf_h t64 hp63) ∧ (sf_fr [(11, 0, 0), (11, 22, 22), (132, 120, 252), (139, 0, 132)] t hp t64 hp63) ∧ (0 ≤ k61.toInt ∧ (k62.toInt = 0 ∨ k61.toInt ≤ 100) ∧ k61.toInt ≤ 101)) (fun ⟨k61, k62, hp63, t64⟩ => (101 - k61.toInt).toNat) ?_ (z59, z60, hp56, thp56) ⟨Hhp56, Fhp56, (by first | omega | assumption)⟩
                                   rintro ⟨k61, k62, hp63, t64⟩ ⟨Hhp63, Fhp63, i66⟩ ih65
                                   refine (show Ev _ 53 ([some (.ref 69), some (.int x1), some (.int x2), some (.int k61), some (.int k62)], [], (0, 0), hp63) _ from ?_)
                                   refine Ev.step (j := 55) (s' := ([some (.ref 69), some (.int x1), some (.int x2), some (.int k61), some (.int k62)], [.int k62], (0, 0), hp63)) rfl rfl ?_
                                   exact by
                                    refine bs_ifeq rfl (fun c67 => ?_) (fun c67 => ?_)
                                    · skip
                                      have c68 : k62.toInt = 0 := by omega
                                      refine Ev.step (j := 96) (s' := ([some (.ref 69), some (.int x1), some (.int x2), some (.int k61), some (.int k62)], [.ref 69], (0, 0), hp63)) rfl rfl ?_
                                      refine bs_call (K := kq_X11_back_h) [.ref 69] [] rfl ct_X11_back_h Hhp63 rfl rfl rfl (bs_rcv (g := 11) Hhp63 (bs_R.uq Hhp63 (g := 11) rfl) (by decide) rfl) rfl ?_ (sf_S_nil) fun r69 hp70 thp70 Hhp70 fhp70 ahp70 php70 => ?_
                                      · intro q k h
                                        match q, h with
                                        | 0, h => cases h; exact bs_jR (bs_R.uq Hhp63 (g := 11) rfl)
                                        | q + 1, h => cases h
                                      obtain rfl := ahp70.1 rfl
                                      have Fhp70 := sf_fr_tr Fhp63 (sf_fr_wider (W := [(11, 0, 0), (11, 22, 22), (132, 120, 252), (139, 0, 132)]) rfl fhp70)
                                      refine (show Ev _ 99 ([some (.ref 69), some (.int x1), some (.int x2), some (.int k61), some (.int k62)], [], (0, 0), hp70) _ from ?_)
                                      refine Ev.step (j := 101) (s' := ([some (.ref 69), some (.int x1), some (.int x2), some (.int k61), some (.int k62)], [.int k62], (0, 0), hp70)) rfl rfl ?_
                                      exact by
                                       refine bs_ifeq rfl (fun c71 => ?_) (fun c71 => ?_)
                                       · skip
                                         refine bs_lit (k := -1) rfl rfl fun z72 hz72 => ?_
                                         exact Ev.ret rfl rfl (by rw [hQ]; exact ⟨thp70, Hhp70, Fhp70, bs_an0, sf_S_nil⟩)
                                       · exfalso; omega
                                    · skip
                                      refine Ev.step (j := 59) (s' := ([some (.ref 69), some (.int x1), some (.int x2), some (.int k61), some (.int k62)], [.ref 69], (0, 0), hp63)) rfl rfl ?_
                                      exact by
                                       refine Ev.step (j := 60) (s' := ([some (.ref 69), some (.int x1), some (.int x2), some (.int k61), some (.int k62)], [.int x1, .ref 69], (0, 0), hp63)) rfl rfl ?_
                                       refine Ev.step (j := 61) (s' := ([some (.ref 69), some (.int x1), some (.int x2), some (.int k61), some (.int k62)], [.int x2, .int x1, .ref 69], (0, 0), hp63)) rfl rfl ?_
                                       refine bs_call (K := kq_X11_areUnlike_24a9f6) [.ref 69, .int x1, .int x2] [] rfl ct_X11_areUnlike_24a9f6 Hhp63 rfl rfl rfl (bs_rcv (g := 11) Hhp63 (bs_R.uq Hhp63 (g := 11) rfl) (by decide) rfl) rfl ?_ (sf_S_cons (sf_s1 (x := x1.toInt) rfl (by omega) (by omega)) (sf_S_cons (sf_s1 (x := x2.toInt) rfl (by omega) (by omega)) (sf_S_nil))) fun r73 hp74 thp74 Hhp74 fhp74 ahp74 php74 => ?_
                                       · intro q k h
                                         match q, h with
                                         | 0, h => cases h; exact bs_jR (bs_R.uq Hhp63 (g := 11) rfl)
                                         | 1, h => cases h; exact sf_j0
                                         | 2, h => cases h; exact sf_j0
                                         | q + 3, h => cases h
                                       obtain ⟨z75, rfl⟩ := bs_anI ahp74
                                       have rgz75 := n_range z75
                                       have Fhp74 := sf_fr_tr Fhp63 (sf_fr_wider (W := [(11, 0, 0), (11, 22, 22), (132, 120, 252), (139, 0, 132)]) rfl fhp74)
                                       obtain ⟨uz75, vz75⟩ := bs_s1 (x := z75.toInt) rfl (php74 _ (List.mem_of_getElem? (i := 0) rfl))
                                       refine (show Ev _ 64 ([some (.ref 69), some (.int x1), some (.int x2), some (.int k61), some (.int k62)], [.int z75], (0, 0), hp74) _ from ?_)
                                       exact by
                                        refine bs_ifeq rfl (fun c76 => ?_) (fun c76 => ?_)
                                        · skip
                                          have c77 : z75.toInt = 0 := by omega
                                          refine Ev.step (j := 96) (s' := ([some (.ref 69), some (.int x1), some (.int x2), some (.int k61), some (.int k62)], [.ref 69], (0, 0), hp74)) rfl rfl ?_
                                          refine bs_call (K := kq_X11_back_h) [.ref 69] [] rfl ct_X11_back_h Hhp74 rfl rfl rfl (bs_rcv (g := 11) Hhp74 (bs_R.uq Hhp74 (g := 11) rfl) (by decide) rfl) rfl ?_ (sf_S_nil) fun r78 hp79 thp79 Hhp79 fhp79 ahp79 php79 => ?_
                                          · intro q k h
                                            match q, h with
                                            | 0, h => cases h; exact bs_jR (bs_R.uq Hhp74 (g := 11) rfl)
                                            | q + 1, h => cases h
                                          obtain rfl := ahp79.1 rfl
                                          have Fhp79 := sf_fr_tr Fhp74 (sf_fr_wider (W := [(11, 0, 0), (11, 22, 22), (132, 120, 252), (139, 0, 132)]) rfl fhp79)
                                          refine (show Ev _ 99 ([some (.ref 69), some (.int x1), some (.int x2), some (.int k61), some (.int k62)], [], (0, 0), hp79) _ from ?_)
                                          refine Ev.step (j := 101) (s' := ([some (.ref 69), some (.int x1), some (.int x2), some (.int k61), some (.int k62)], [.int k62], (0, 0), hp79)) rfl rfl ?_
                                          exact by
                                           refine bs_ifeq rfl (fun c80 => ?_) (fun c80 => ?_)
                                           · skip
                                             have c81 : k62.toInt = 0 := by omega
                                             refine bs_lit (k := -1) rfl rfl fun z82 hz82 => ?_
                                             exact Ev.ret rfl rfl (by rw [hQ]; exact ⟨thp79, Hhp79, Fhp79, bs_an0, sf_S_nil⟩)
                                           · skip
                                             refine Ev.step (j := 105) (s' := ([some (.ref 69), some (.int x1), some (.int x2), some (.int k61), some (.int k62)], [.int k61], (0, 0), hp79)) rfl rfl ?_
                                             refine Ev.step (j := 109) (s' := ([some (.ref 69), some (.int x1), some (.int x2), some (.int k61), some (.int k62)], [.int k61], (0, 0), hp79)) rfl rfl ?_
                                             exact Ev.ret rfl rfl (by rw [hQ]; exact ⟨thp79, Hhp79, Fhp79, bs_an0, sf_S_nil⟩)
                                        · skip
                                          refine Ev.step (j := 68) (s' := ([some (.ref 69), some (.int x1), some (.int x2), some (.int k61), some (.int k62)], [.int k61], (0, 0), hp74)) rfl rfl ?_
                                          exact by
                                           refine bs_lit (k := 100) rfl rfl fun z83 hz83 => ?_
                                           refine bs_ge rfl (fun c84 => ?_) (fun c84 => ?_)
                                           · skip
                                             refine bs_lit (k := 0) rfl rfl fun z85 hz85 => ?_
                                             refine Ev.step (j := 89) (s' := ([some (.ref 69), some (.int x1), some (.int x2), some (.int k61), some (.int z85)], [], (0, 0), hp74)) rfl rfl ?_
                                             refine bs_iinc (1) rfl rfl rfl rfl (by omega) (by omega) fun z86 hz86 => ?_
                                             refine (show Ev _ 92 ([some (.ref 69), some (.int x1), some (.int x2), some (.int z86), some (.int z85)], [], (0, 0), hp74) _ from ?_)
                                             refine Ev.step (j := 53) (s' := ([some (.ref 69), some (.int x1), some (.int x2), some (.int z86), some (.int z85)], [], (0, 0), hp74)) rfl rfl ?_
                                             refine ih65 (z86, z85, hp74, thp74) ⟨Hhp74, Fhp74, (by first | omega | assumption)⟩ ?_
                                             show (101 - z86.toInt).toNat < (101 - k61.toInt).toNat
                                             omega
                                           · skip
                                             refine Ev.step (j := 74) (s' := ([some (.ref 69), some (.int x1), some (.int x2), some (.int k61), some (.int k62)], [.ref 69], (0, 0), hp74)) rfl rfl ?_
                                             exact by
                                              refine bs_lit (k := 1) rfl rfl fun z87 hz87 => ?_
                                              refine bs_call (K := kq_X11_goesOn_3d45d6) [.ref 69, .int z87] [] rfl ct_X11_goesOn_3d45d6 Hhp74 rfl rfl rfl (bs_rcv (g := 11) Hhp74 (bs_R.uq Hhp74 (g := 11) rfl) (by decide) rfl) rfl ?_ (sf_S_nil) fun r88 hp89 thp89 Hhp89 fhp89 ahp89 php89 => ?_
                                              · intro q k h
                                                match q, h with
                                                | 0, h => cases h; exact bs_jR (bs_R.uq Hhp74 (g := 11) rfl)
                                                | 1, h => cases h; exact sf_j0
                                                | q + 2, h => cases h
                                              obtain ⟨z90, rfl⟩ := bs_anI ahp89
                                              have rgz90 := n_range z90
                                              have Fhp89 := sf_fr_tr Fhp74 (sf_fr_wider (W := [(11, 0, 0), (11, 22, 22), (132, 120, 252), (139, 0, 132)]) rfl fhp89)
                                              obtain ⟨uz90, vz90⟩ := bs_s1 (x := z90.toInt) rfl (php89 _ (List.mem_of_getElem? (i := 0) rfl))
                                              refine (show Ev _ 78 ([some (.ref 69), some (.int x1), some (.int x2), some (.int k61), some (.int k62)], [.int z90], (0, 0), hp89) _ from ?_)
                                              refine bs_lit (k := 1) rfl rfl fun z91 hz91 => ?_
                                              exact by
                                               refine bs_ne rfl (fun c92 => ?_) (fun c92 => ?_)
                                               · skip
                                                 refine bs_lit (k := 0) rfl rfl fun z93 hz93 => ?_
                                                 refine Ev.step (j := 89) (s' := ([some (.ref 69), some (.int x1), some (.int x2), some (.int k61), some (.int z93)], [], (0, 0), hp89)) rfl rfl ?_
                                                 refine bs_iinc (1) rfl rfl rfl rfl (by omega) (by omega) fun z94 hz94 => ?_
                                                 refine (show Ev _ 92 ([some (.ref 69), some (.int x1), some (.int x2), some (.int z94), some (.int z93)], [], (0, 0), hp89) _ from ?_)
                                                 refine Ev.step (j := 53) (s' := ([some (.ref 69), some (.int x1), some (.int x2), some (.int z94), some (.int z93)], [], (0, 0), hp89)) rfl rfl ?_
                                                 refine ih65 (z94, z93, hp89, thp89) ⟨Hhp89, Fhp89, (by first | omega | assumption)⟩ ?_
                                                 show (101 - z94.toInt).toNat < (101 - k61.toInt).toNat
                                                 omega
                                               · skip
                                                 have c95 : z90.toInt = 1 := by omega
                                                 refine bs_lit (k := 1) rfl rfl fun z96 hz96 => ?_
                                                 exact by
                                                  refine Ev.step (j := 87) (s' := ([some (.ref 69), some (.int x1), some (.int x2), some (.int k61), some (.int k62)], [.int z96], (0, 0), hp89)) rfl rfl ?_
                                                  refine Ev.step (j := 89) (s' := ([some (.ref 69), some (.int x1), some (.int x2), some (.int k61), some (.int z96)], [], (0, 0), hp89)) rfl rfl ?_
                                                  refine bs_iinc (1) rfl rfl rfl rfl (by omega) (by omega) fun z97 hz97 => ?_
                                                  refine (show Ev _ 92 ([some (.ref 69), some (.int x1), some (.int x2), some (.int z97), some (.int z96)], [], (0, 0), hp89) _ from ?_)
                                                  refine Ev.step (j := 53) (s' := ([some (.ref 69), some (.int x1), some (.int x2), some (.int z97), some (.int z96)], [], (0, 0), hp89)) rfl rfl ?_
                                                  refine ih65 (z97, z96, hp89, thp89) ⟨Hhp89, Fhp89, (by first | omega | assumption)⟩ ?_
                                                  show (101 - z97.toInt).toNat < (101 - k61.toInt).toNat
                                                  omega
                                · skip
                                  refine bs_lit (k := -1) rfl rfl fun z98 hz98 => ?_
                                  exact Ev.ret rfl rfl (by rw [hQ]; exact ⟨thp49, Hhp49, Fhp49, bs_an0, sf_S_nil⟩)
def kq_X11_missesOf_ebc78d : sf_Q := ([(1, 11, 0), (0, 0, 0)], [(1, 3, 0, 0, 7, 0)], some (0, 0, 0), [], [])
def kc_X11_missesOf_ebc78d : List (Nat × sf_I) := [(0, 0, [1, 0]),
  (1, 5, [2, 2]),
  (2, 0, [3, 0]),
  (3, 5, [4, 3]),
  (4, 2, [5, 3]),
  (5, 4, [6, 0]),
  (6, 23, [9, 11, 6]),
  (9, 0, [10, 1]),
  (10, 25, [11, 1]),
  (11, 21, [14, 39, 5]),
  (14, 2, [15, 2]),
  (15, 4, [16, 0]),
  (16, 2, [17, 1]),
  (17, 2, [18, 3]),
  (18, 32, [21, 0, 3, 11, 0, 0, 0, 0]),
  (21, 20, [24, 30, 0]),
  (24, 0, [25, 1]),
  (25, 2, [26, 3]),
  (26, 9, [27, 6]),
  (27, 22, [31]),
  (30, 0, [31, 0]),
  (31, 9, [32, 4]),
  (32, 5, [33, 2]),
  (33, 8, [36, 3, 1]),
  (36, 22, [4]),
  (39, 2, [40, 2]),
  (40, 35, [0, 0])]
def kd_X11_missesOf_ebc78d_0 : List (Nat × sf_D × sf_M) := [(0, ([(1, 11, 0), (0, 0, 0), (8, 0, 0), (8, 0, 0)], [], [(1, 4, 0, 0, 7, 0)], 0, 0), (206, [])),
  (1, ([(1, 11, 0), (0, 0, 0), (8, 0, 0), (8, 0, 0)], [(0, 0, 0)], [(1, 4, 0, 0, 7, 0), (1, 0, 0, 0, 0, 0)], 0, 0), (205, [])),
  (2, ([(1, 11, 0), (0, 0, 0), (0, 0, 0), (8, 0, 0)], [], [(1, 4, 0, 0, 7, 0), (1, 7, 0, 0, 0, 0)], 0, 0), (204, [])),
  (3, ([(1, 11, 0), (0, 0, 0), (0, 0, 0), (8, 0, 0)], [(0, 0, 0)], [(1, 4, 0, 0, 7, 0), (1, 7, 0, 0, 0, 0), (1, 0, 0, 0, 0, 0)], 0, 0), (203, [])),
  (4, ([(1, 11, 0), (0, 0, 0), (0, 0, 0), (0, 0, 0)], [], [(1, 4, 0, 0, 7, 0), (1, 7, 0, -2147483648, 2147483647, 0), (1, 10, 0, 0, 8, 0), (3, 10, 399005, 1, 8, 0)], 0, 0), (18, [(23, 10, 8, 0)])),
  (5, ([(1, 11, 0), (0, 0, 0), (0, 0, 0), (0, 0, 0)], [(0, 0, 0)], [(1, 4, 0, 0, 7, 0), (1, 7, 0, -2147483648, 2147483647, 0), (1, 10, 0, 0, 8, 0), (1, 0, 0, 0, 8, 0), (3, 10, 399005, 1, 8, 0), (2, 0, 10, 1, 0, 0)], 0, 0), (17, [(23, 10, 8, 0)])),
  (6, ([(1, 11, 0), (0, 0, 0), (0, 0, 0), (0, 0, 0)], [(1, 11, 0), (0, 0, 0)], [(1, 4, 0, 0, 7, 0), (1, 7, 0, -2147483648, 2147483647, 0), (1, 10, 0, 0, 8, 0), (1, 0, 0, 0, 8, 0), (3, 10, 399005, 1, 8, 0), (2, 0, 10, 1, 0, 0)], 0, 0), (16, [(23, 10, 8, 0)]))]
def kd_X11_missesOf_ebc78d_1 : List (Nat × sf_D × sf_M) := [(9, ([(1, 11, 0), (0, 0, 0), (0, 0, 0), (0, 0, 0)], [(1, 132, 0), (0, 0, 0)], [(1, 4, 0, 0, 7, 0), (1, 7, 0, -2147483648, 2147483647, 0), (1, 10, 0, 0, 8, 0), (1, 0, 0, 0, 8, 0), (3, 10, 399005, 1, 8, 0), (2, 0, 10, 1, 0, 0)], 0, 0), (15, [(23, 10, 8, 0)])),
  (10, ([(1, 11, 0), (0, 0, 0), (0, 0, 0), (0, 0, 0)], [(0, 0, 0), (1, 132, 0), (0, 0, 0)], [(1, 4, 0, 0, 7, 0), (1, 7, 0, -2147483648, 2147483647, 0), (1, 10, 0, 0, 8, 0), (1, 0, 0, 0, 8, 0), (1, 6, 0, 1, 1, 0), (2, 0, 10, 1, 0, 0), (3, 10, 399005, 1, 8, 0)], 0, 0), (14, [(23, 10, 8, 0)])),
  (11, ([(1, 11, 0), (0, 0, 0), (0, 0, 0), (0, 0, 0)], [(0, 0, 0), (0, 0, 0)], [(1, 4, 0, 0, 7, 0), (1, 7, 0, -2147483648, 2147483647, 0), (1, 10, 0, 0, 8, 0), (1, 0, 0, 0, 8, 0), (1, 3, 0, 0, 8, 0), (1, 399005, 0, -2147483648, 2147483647, 0), (2, 0, 10, 1, 0, 0), (3, 10, 399005, 1, 8, 0), (2, 3, 399005, 1, 0, 0)], 0, 0), (13, [(23, 10, 8, 0)])),
  (14, ([(1, 11, 0), (0, 0, 0), (0, 0, 0), (0, 0, 0)], [], [(1, 4, 0, 0, 7, 0), (1, 7, 0, -2147483648, 2147483647, 0), (1, 10, 0, 0, 7, 0), (1, 399005, 0, 1, 8, 0)], 0, 0), (12, [(23, 10, 8, 0)]))]
def kd_X11_missesOf_ebc78d_2 : List (Nat × sf_D × sf_M) := [(15, ([(1, 11, 0), (0, 0, 0), (0, 0, 0), (0, 0, 0)], [(0, 0, 0)], [(1, 4, 0, 0, 7, 0), (1, 7, 0, -2147483648, 2147483647, 0), (1, 10, 0, 0, 7, 0), (1, 399005, 0, 1, 8, 0), (1, 0, 0, -2147483648, 2147483647, 0), (2, 0, 7, 1, 0, 0)], 0, 0), (11, [(23, 10, 8, 0)])),
  (16, ([(1, 11, 0), (0, 0, 0), (0, 0, 0), (0, 0, 0)], [(1, 11, 0), (0, 0, 0)], [(1, 4, 0, 0, 7, 0), (1, 7, 0, -2147483648, 2147483647, 0), (1, 10, 0, 0, 7, 0), (1, 399005, 0, 1, 8, 0), (1, 0, 0, -2147483648, 2147483647, 0), (2, 0, 7, 1, 0, 0)], 0, 0), (10, [(23, 10, 8, 0)])),
  (17, ([(1, 11, 0), (0, 0, 0), (0, 0, 0), (0, 0, 0)], [(0, 0, 0), (1, 11, 0), (0, 0, 0)], [(1, 4, 0, 0, 7, 0), (1, 7, 0, -2147483648, 2147483647, 0), (1, 10, 0, 0, 7, 0), (1, 399005, 0, 1, 8, 0), (1, 0, 0, -2147483648, 2147483647, 0), (1, 6, 0, 0, 7, 0), (2, 0, 7, 1, 0, 0), (2, 6, 4, 1, 0, 0)], 0, 0), (9, [(23, 10, 8, 0)])),
  (18, ([(1, 11, 0), (0, 0, 0), (0, 0, 0), (0, 0, 0)], [(0, 0, 0), (0, 0, 0), (1, 11, 0), (0, 0, 0)], [(1, 4, 0, 0, 7, 0), (1, 7, 0, -2147483648, 2147483647, 0), (1, 10, 0, 0, 7, 0), (1, 399005, 0, 1, 8, 0), (1, 0, 0, -2147483648, 2147483647, 0), (1, 6, 0, 0, 7, 0), (1, 9, 0, 0, 7, 0), (2, 0, 7, 1, 0, 0), (2, 6, 4, 1, 0, 0), (2, 9, 10, 1, 0, 0)], 0, 0), (8, [(23, 10, 8, 0)]))]
def kd_X11_missesOf_ebc78d_3 : List (Nat × sf_D × sf_M) := [(21, ([(1, 11, 0), (0, 0, 0), (0, 0, 0), (0, 0, 0)], [(0, 0, 0), (0, 0, 0)], [(1, 4, 0, 0, 7, 0), (1, 7, 0, -2147483648, 2147483647, 0), (1, 10, 0, 0, 7, 0), (1, 399005, 0, 1, 8, 0), (1, 0, 0, -2147483648, 2147483647, 0), (1, 3, 0, 0, 1, 0), (2, 0, 7, 1, 0, 0)], 0, 0), (7, [(23, 10, 8, 0)])),
  (24, ([(1, 11, 0), (0, 0, 0), (0, 0, 0), (0, 0, 0)], [(0, 0, 0)], [(1, 4, 0, 0, 7, 0), (1, 7, 0, -2147483648, 2147483647, 0), (1, 10, 0, 0, 7, 0), (1, 399005, 0, 1, 8, 0), (1, 0, 0, -2147483648, 2147483647, 0), (2, 0, 7, 1, 0, 0)], 0, 0), (6, [(23, 10, 8, 0)])),
  (25, ([(1, 11, 0), (0, 0, 0), (0, 0, 0), (0, 0, 0)], [(0, 0, 0), (0, 0, 0)], [(1, 4, 0, 0, 7, 0), (1, 7, 0, -2147483648, 2147483647, 0), (1, 10, 0, 0, 7, 0), (1, 399005, 0, 1, 8, 0), (1, 0, 0, -2147483648, 2147483647, 0), (1, 3, 0, 1, 1, 0), (2, 0, 7, 1, 0, 0)], 0, 0), (5, [(23, 10, 8, 0)])),
  (26, ([(1, 11, 0), (0, 0, 0), (0, 0, 0), (0, 0, 0)], [(0, 0, 0), (0, 0, 0), (0, 0, 0)], [(1, 4, 0, 0, 7, 0), (1, 7, 0, -2147483648, 2147483647, 0), (1, 10, 0, 0, 7, 0), (1, 399005, 0, 1, 8, 0), (1, 0, 0, -2147483648, 2147483647, 0), (1, 3, 0, 1, 1, 0), (1, 6, 0, 0, 7, 0), (2, 0, 7, 1, 0, 0), (2, 6, 10, 1, 0, 0)], 0, 0), (4, [(23, 10, 8, 0)]))]
def kd_X11_missesOf_ebc78d_4 : List (Nat × sf_D × sf_M) := [(27, ([(1, 11, 0), (0, 0, 0), (0, 0, 0), (0, 0, 0)], [(0, 0, 0), (0, 0, 0)], [(1, 4, 0, 0, 7, 0), (1, 7, 0, -2147483648, 2147483647, 0), (1, 10, 0, 0, 7, 0), (1, 399005, 0, 1, 8, 0), (1, 0, 0, -2147483648, 2147483647, 0), (1, 3, 0, -2147483648, 2147483647, 0), (2, 0, 7, 1, 0, 0)], 0, 0), (3, [(23, 10, 8, 0)])),
  (30, ([(1, 11, 0), (0, 0, 0), (0, 0, 0), (0, 0, 0)], [(0, 0, 0)], [(1, 4, 0, 0, 7, 0), (1, 7, 0, -2147483648, 2147483647, 0), (1, 10, 0, 0, 7, 0), (1, 399005, 0, 1, 8, 0), (1, 0, 0, -2147483648, 2147483647, 0), (2, 0, 7, 1, 0, 0)], 0, 0), (3, [(23, 10, 8, 0)])),
  (31, ([(1, 11, 0), (0, 0, 0), (0, 0, 0), (0, 0, 0)], [(0, 0, 0), (0, 0, 0)], [(1, 4, 0, 0, 7, 0), (1, 7, 0, -2147483648, 2147483647, 0), (1, 10, 0, 0, 7, 0), (1, 399005, 0, 1, 8, 0), (1, 0, 0, -2147483648, 2147483647, 0), (1, 3, 0, -2147483648, 2147483647, 0), (2, 0, 7, 1, 0, 0)], 0, 0), (2, [(23, 10, 8, 0)])),
  (32, ([(1, 11, 0), (0, 0, 0), (0, 0, 0), (0, 0, 0)], [(0, 0, 0)], [(1, 4, 0, 0, 7, 0), (1, 7, 0, -2147483648, 2147483647, 0), (1, 10, 0, 0, 7, 0), (1, 399005, 0, 1, 8, 0), (1, 0, 0, -2147483648, 2147483647, 0)], 0, 0), (1, [(23, 10, 8, 0)])),
  (33, ([(1, 11, 0), (0, 0, 0), (0, 0, 0), (0, 0, 0)], [], [(1, 4, 0, 0, 7, 0), (1, 10, 0, 0, 7, 0), (1, 399005, 0, 1, 8, 0), (1, 7, 0, -2147483648, 2147483647, 0)], 0, 0), (0, [(23, 10, 8, 0)]))]
def kd_X11_missesOf_ebc78d_5 : List (Nat × sf_D × sf_M) := [(36, ([(1, 11, 0), (0, 0, 0), (0, 0, 0), (0, 0, 0)], [], [(1, 4, 0, 0, 7, 0), (1, 399005, 0, 1, 8, 0), (1, 7, 0, -2147483648, 2147483647, 0), (1, 10, 0, 1, 8, 0)], 0, 0), (19, [(23, 10, 8, 0)])),
  (39, ([(1, 11, 0), (0, 0, 0), (0, 0, 0), (0, 0, 0)], [], [(1, 4, 0, 0, 7, 0), (1, 7, 0, -2147483648, 2147483647, 0), (1, 10, 0, 0, 8, 0), (1, 399005, 0, 0, 8, 0), (3, 10, 399005, 1, 8, 0)], 0, 0), (1, [])),
  (40, ([(1, 11, 0), (0, 0, 0), (0, 0, 0), (0, 0, 0)], [(0, 0, 0)], [(1, 4, 0, 0, 7, 0), (1, 7, 0, -2147483648, 2147483647, 0), (1, 10, 0, 0, 8, 0), (1, 399005, 0, 0, 8, 0), (1, 0, 0, -2147483648, 2147483647, 0), (3, 10, 399005, 1, 8, 0), (2, 0, 7, 1, 0, 0)], 0, 0), (0, []))]
def kd_X11_missesOf_ebc78d : List (Nat × sf_D × sf_M) := kd_X11_missesOf_ebc78d_0 ++ (kd_X11_missesOf_ebc78d_1 ++ (kd_X11_missesOf_ebc78d_2 ++ (kd_X11_missesOf_ebc78d_3 ++ (kd_X11_missesOf_ebc78d_4 ++ (kd_X11_missesOf_ebc78d_5)))))
set_option maxRecDepth 100000 in
theorem kt_X11_missesOf_ebc78d : sf_chk [kq_X11_doesMiss_24a9f6] kq_X11_missesOf_ebc78d 4 kc_X11_missesOf_ebc78d kd_X11_missesOf_ebc78d = true := by decide +kernel
set_option maxRecDepth 100000 in
theorem kl_X11_missesOf_ebc78d : (kc_X11_missesOf_ebc78d).map (fun c => (c.1, sf_den ([Z_X11_doesMiss] : List sf_X) c.2)) = L_X11_missesOf Z_X11_doesMiss := rfl
theorem ct_X11_missesOf_ebc78d : sf_ct kq_X11_missesOf_ebc78d Z_X11_missesOf := by
  have h := sf_meth (K := [kq_X11_doesMiss_24a9f6]) (E := [Z_X11_doesMiss]) (k := kq_X11_missesOf_ebc78d) (nL := 4) (C := kc_X11_missesOf_ebc78d) (D := kd_X11_missesOf_ebc78d) (fun m k hk => match m, hk with
    | 0, hk => (Option.some.inj hk) ▸ ct_X11_doesMiss_24a9f6
    | _ + 1, hk => (by cases hk)) kt_X11_missesOf_ebc78d
  rw [kl_X11_missesOf_ebc78d] at h
  exact h
def kq_X11_man_h : sf_Q := ([(1, 11, 0), (0, 0, 0), (0, 0, 0)], [], some (0, 0, 0), [], [(11, 0, 0)])
set_option maxRecDepth 100000 in
set_option maxHeartbeats 4000000 in
theorem ct_X11_man_h : sf_ct kq_X11_man_h Z_X11_man := by
  intro t hp as H hl hj hpre
  match as, hl with
  | [v0, v1, v2], _ =>
    obtain ⟨a0, rfl, ra0⟩ := bs_aR (hj 0 _ rfl)
    obtain rfl := ra0.eq H (p := 69) rfl
    obtain ⟨x1, rfl⟩ := bs_aI (hj 1 _ rfl)
    have rg1 := n_range x1
    obtain ⟨x2, rfl⟩ := bs_aI (hj 2 _ rfl)
    have rg2 := n_range x2
    clear hpre hj
    have F0 : sf_fr [(11, 0, 0)] t hp t hp := sf_fr_rf
    refine bs_fin (K := kq_X11_man_h) (L := (L_X11_man Z_X11_isMan Z_X11_isIn Z_X11_throwsIf Z_X11_isDead Z_X11_missedBy Z_X11_missesOf)) (nL := 3) (Nat.le_of_ble_eq_true rfl) ?_
    obtain ⟨Q, hQ⟩ : ∃ Q : ab_O → Prop, Q = (fun o => ∃ t', sf_h t' o.2 ∧ sf_fr (kq_X11_man_h).2.2.2.2 t hp t' o.2 ∧ sf_an t' o.2.1 (kq_X11_man_h).2.2.1 o.1 ∧ sf_S (sf_v1 o.1 [.ref 69, .int x1, .int x2] o.2) (kq_X11_man_h).2.2.2.1) := ⟨_, rfl⟩
    rw [← hQ]
    refine (show Ev (ab_T (L_X11_man Z_X11_isMan Z_X11_isIn Z_X11_throwsIf Z_X11_isDead Z_X11_missedBy Z_X11_missesOf)) 0 ([some (.ref 69), some (.int x1), some (.int x2)], [], (0, 0), hp) Q from ?_)
    exact by
     refine Ev.step (j := 1) (s' := ([some (.ref 69), some (.int x1), some (.int x2)], [.ref 69], (0, 0), hp)) rfl rfl ?_
     refine Ev.step (j := 2) (s' := ([some (.ref 69), some (.int x1), some (.int x2)], [.ref 69, .ref 69], (0, 0), hp)) rfl rfl ?_
     refine Ev.step (j := 3) (s' := ([some (.ref 69), some (.int x1), some (.int x2)], [.int x1, .ref 69, .ref 69], (0, 0), hp)) rfl rfl ?_
     refine Ev.inl (L := (L_X11_isMan Z_X11_isIn)) (nL := 2) rfl (bs_rcv (g := 11) H (bs_R.uq H (g := 11) rfl) (by decide) rfl) rfl (Nat.le_of_ble_eq_true rfl) ?_
     generalize hQ1 : (fun (o : ab_O) => Ev _ _ _ _) = Q1
     refine (show Ev (ab_T (L_X11_isMan Z_X11_isIn)) 0 ([some (.ref 69), some (.int x1)], [], (0, 0), hp) Q1 from ?_)
     refine Ev.step (j := 1) (s' := ([some (.ref 69), some (.int x1)], [.int x1], (0, 0), hp)) rfl rfl ?_
     refine bs_lit (k := 0) rfl rfl fun z2 hz2 => ?_
     refine Ev.step (j := 3) (s' := ([some (.ref 69), some (.int x1)], [.ref 69, .int z2, .int x1], (0, 0), hp)) rfl rfl ?_
     exact by
      refine bs_getU (g := 11) (g1 := 132) rfl rfl H (bs_R.uq H (g := 11) rfl) (by decide) rfl rfl ?_
      refine bs_lit (k := 1) rfl rfl fun z3 hz3 => ?_
      refine bs_ld (g := 132) 1 1 (0, 8) rfl H (bs_R.uq H (g := 132) rfl) (by decide) rfl (by decide) (by decide) rfl (by decide) (by omega) (by omega) fun z4 hz4 lz4 gz4 => ?_
      dsimp only at lz4 gz4
      replace hz4 := bs_at hz4 (show z3.toInt.toNat = 1 by omega)
      refine bs_lit (k := 1) rfl rfl fun z5 hz5 => ?_
      first | (refine bs_sub rfl (by omega) (by omega) fun z6 hz6 => ?_) | (refine bs_any rfl fun z6 => ?_)
      have rz6 := n_range z6
      refine Ev.inlS (L := L_X11_isIn) (nL := 3) rfl rfl (Nat.le_of_ble_eq_true rfl) ?_
      generalize hQ7 : (fun (o : ab_O) => Ev _ _ _ _) = Q7
      refine (show Ev (ab_T L_X11_isIn) 0 ([some (.int x1), some (.int z2), some (.int z6)], [], (0, 0), hp) Q7 from ?_)
      exact by
       refine Ev.step (j := 1) (s' := ([some (.int x1), some (.int z2), some (.int z6)], [.int x1], (0, 0), hp)) rfl rfl ?_
       refine Ev.step (j := 2) (s' := ([some (.int x1), some (.int z2), some (.int z6)], [.int z2, .int x1], (0, 0), hp)) rfl rfl ?_
       refine bs_lt rfl (fun c8 => ?_) (fun c8 => ?_)
       · skip
         refine bs_lit (k := 0) rfl rfl fun z9 hz9 => ?_
         refine bs_zret rfl rfl (by omega) (by omega) ?_
         rw [← hQ7]
         refine (show Ev _ 13 ([some (.ref 69), some (.int x1)], [.int z9], (0, 0), hp) _ from ?_)
         refine bs_zret rfl rfl (by omega) (by omega) ?_
         rw [← hQ1]
         refine (show Ev _ 6 ([some (.ref 69), some (.int x1), some (.int x2)], [.int z9, .ref 69], (0, 0), hp) _ from ?_)
         exact by
          refine bs_ifeq rfl (fun c10 => ?_) (fun c10 => ?_)
          · skip
            refine bs_lit (k := 1) rfl rfl fun z11 hz11 => ?_
            refine Ev.step (j := 23) (s' := ([some (.ref 69), some (.int x1), some (.int x2)], [.int z11, .ref 69], (0, 0), hp)) rfl rfl ?_
            refine Ev.inl (L := L_X11_throwsIf) (nL := 2) rfl (bs_rcv (g := 11) H (bs_R.uq H (g := 11) rfl) (by decide) rfl) rfl (Nat.le_of_ble_eq_true rfl) ?_
            generalize hQ12 : (fun (o : ab_O) => Ev _ _ _ _) = Q12
            refine (show Ev (ab_T L_X11_throwsIf) 0 ([some (.ref 69), some (.int z11)], [], (0, 0), hp) Q12 from ?_)
            refine Ev.step (j := 1) (s' := ([some (.ref 69), some (.int z11)], [.ref 69], (0, 0), hp)) rfl rfl ?_
            refine Ev.step (j := 2) (s' := ([some (.ref 69), some (.int z11)], [.int z11, .ref 69], (0, 0), hp)) rfl rfl ?_
            refine bs_ifeq rfl (fun c13 => ?_) (fun c13 => ?_)
            · exfalso; omega
            · skip
              refine bs_lit (k := 1) rfl rfl fun z14 hz14 => ?_
              exact by
               refine Ev.step (j := 10) (s' := ([some (.ref 69), some (.int z11)], [.int z14, .ref 69], (0, 0), hp)) rfl rfl ?_
               refine bs_putI (W := [(11, 0, 0)]) (g := 11) rfl rfl H (bs_R.uq H (g := 11) rfl) (by decide) rfl rfl rfl rfl (Or.inl rfl) (by omega) (by omega) fun hp15 Hhp15 fhp15 rhp15 ehp15 qhp15 nhp15 => ?_
               have Fhp15 := sf_fr_tr F0 (sf_fr_wider (W := [(11, 0, 0)]) rfl fhp15)
               have h16 : sf_rd hp15 71 1 = some z4.toInt := (ehp15 _ _ (Or.inl (by decide))).trans hz4
               refine Ev.step (j := 14) (s' := ([some (.ref 69), some (.int z11)], [.int z11], (0, 0), hp15)) rfl rfl ?_
               refine bs_zret rfl rfl (by omega) (by omega) ?_
               rw [← hQ12]
               refine (show Ev _ 26 ([some (.ref 69), some (.int x1), some (.int x2)], [.int z11], (0, 0), hp15) _ from ?_)
               refine bs_ifeq rfl (fun c17 => ?_) (fun c17 => ?_)
               · exfalso; omega
               · skip
                 refine bs_lit (k := 0) rfl rfl fun z18 hz18 => ?_
                 exact Ev.ret rfl rfl (by rw [hQ]; exact ⟨t, Hhp15, Fhp15, bs_an0, sf_S_nil⟩)
          · exfalso; omega
       · skip
         refine Ev.step (j := 6) (s' := ([some (.int x1), some (.int z2), some (.int z6)], [.int x1], (0, 0), hp)) rfl rfl ?_
         exact by
          refine Ev.step (j := 7) (s' := ([some (.int x1), some (.int z2), some (.int z6)], [.int z6, .int x1], (0, 0), hp)) rfl rfl ?_
          refine bs_gt rfl (fun c19 => ?_) (fun c19 => ?_)
          · skip
            refine bs_lit (k := 0) rfl rfl fun z20 hz20 => ?_
            refine bs_zret rfl rfl (by omega) (by omega) ?_
            rw [← hQ7]
            refine (show Ev _ 13 ([some (.ref 69), some (.int x1)], [.int z20], (0, 0), hp) _ from ?_)
            refine bs_zret rfl rfl (by omega) (by omega) ?_
            rw [← hQ1]
            refine (show Ev _ 6 ([some (.ref 69), some (.int x1), some (.int x2)], [.int z20, .ref 69], (0, 0), hp) _ from ?_)
            refine bs_ifeq rfl (fun c21 => ?_) (fun c21 => ?_)
            · skip
              refine bs_lit (k := 1) rfl rfl fun z22 hz22 => ?_
              exact by
               refine Ev.step (j := 23) (s' := ([some (.ref 69), some (.int x1), some (.int x2)], [.int z22, .ref 69], (0, 0), hp)) rfl rfl ?_
               refine Ev.inl (L := L_X11_throwsIf) (nL := 2) rfl (bs_rcv (g := 11) H (bs_R.uq H (g := 11) rfl) (by decide) rfl) rfl (Nat.le_of_ble_eq_true rfl) ?_
               generalize hQ23 : (fun (o : ab_O) => Ev _ _ _ _) = Q23
               refine (show Ev (ab_T L_X11_throwsIf) 0 ([some (.ref 69), some (.int z22)], [], (0, 0), hp) Q23 from ?_)
               refine Ev.step (j := 1) (s' := ([some (.ref 69), some (.int z22)], [.ref 69], (0, 0), hp)) rfl rfl ?_
               refine Ev.step (j := 2) (s' := ([some (.ref 69), some (.int z22)], [.int z22, .ref 69], (0, 0), hp)) rfl rfl ?_
               refine bs_ifeq rfl (fun c24 => ?_) (fun c24 => ?_)
               · exfalso; omega
               · skip
                 refine bs_lit (k := 1) rfl rfl fun z25 hz25 => ?_
                 refine Ev.step (j := 10) (s' := ([some (.ref 69), some (.int z22)], [.int z25, .ref 69], (0, 0), hp)) rfl rfl ?_
                 exact by
                  refine bs_putI (W := [(11, 0, 0)]) (g := 11) rfl rfl H (bs_R.uq H (g := 11) rfl) (by decide) rfl rfl rfl rfl (Or.inl rfl) (by omega) (by omega) fun hp26 Hhp26 fhp26 rhp26 ehp26 qhp26 nhp26 => ?_
                  have Fhp26 := sf_fr_tr F0 (sf_fr_wider (W := [(11, 0, 0)]) rfl fhp26)
                  have h27 : sf_rd hp26 71 1 = some z4.toInt := (ehp26 _ _ (Or.inl (by decide))).trans hz4
                  refine Ev.step (j := 14) (s' := ([some (.ref 69), some (.int z22)], [.int z22], (0, 0), hp26)) rfl rfl ?_
                  refine bs_zret rfl rfl (by omega) (by omega) ?_
                  rw [← hQ23]
                  refine (show Ev _ 26 ([some (.ref 69), some (.int x1), some (.int x2)], [.int z22], (0, 0), hp26) _ from ?_)
                  refine bs_ifeq rfl (fun c28 => ?_) (fun c28 => ?_)
                  · exfalso; omega
                  · skip
                    refine bs_lit (k := 0) rfl rfl fun z29 hz29 => ?_
                    exact Ev.ret rfl rfl (by rw [hQ]; exact ⟨t, Hhp26, Fhp26, bs_an0, sf_S_nil⟩)
            · exfalso; omega
          · skip
            refine bs_lit (k := 1) rfl rfl fun z30 hz30 => ?_
            exact by
             refine Ev.step (j := 15) (s' := ([some (.int x1), some (.int z2), some (.int z6)], [.int z30], (0, 0), hp)) rfl rfl ?_
             refine bs_zret rfl rfl (by omega) (by omega) ?_
             rw [← hQ7]
             refine (show Ev _ 13 ([some (.ref 69), some (.int x1)], [.int z30], (0, 0), hp) _ from ?_)
             refine bs_zret rfl rfl (by omega) (by omega) ?_
             rw [← hQ1]
             refine (show Ev _ 6 ([some (.ref 69), some (.int x1), some (.int x2)], [.int z30, .ref 69], (0, 0), hp) _ from ?_)
             refine bs_ifeq rfl (fun c31 => ?_) (fun c31 => ?_)
             · exfalso; omega
             · skip
               refine Ev.step (j := 10) (s' := ([some (.ref 69), some (.int x1), some (.int x2)], [.int x2, .ref 69], (0, 0), hp)) rfl rfl ?_
               refine bs_lit (k := 0) rfl rfl fun z32 hz32 => ?_
               exact by
                refine bs_lit (k := 4) rfl rfl fun z33 hz33 => ?_
                refine Ev.inlS (L := L_X11_isIn) (nL := 3) rfl rfl (Nat.le_of_ble_eq_true rfl) ?_
                generalize hQ34 : (fun (o : ab_O) => Ev _ _ _ _) = Q34
                refine (show Ev (ab_T L_X11_isIn) 0 ([some (.int x2), some (.int z32), some (.int z33)], [], (0, 0), hp) Q34 from ?_)
                refine Ev.step (j := 1) (s' := ([some (.int x2), some (.int z32), some (.int z33)], [.int x2], (0, 0), hp)) rfl rfl ?_
                refine Ev.step (j := 2) (s' := ([some (.int x2), some (.int z32), some (.int z33)], [.int z32, .int x2], (0, 0), hp)) rfl rfl ?_
                refine bs_lt rfl (fun c35 => ?_) (fun c35 => ?_)
                · skip
                  refine bs_lit (k := 0) rfl rfl fun z36 hz36 => ?_
                  refine bs_zret rfl rfl (by omega) (by omega) ?_
                  rw [← hQ34]
                  refine (show Ev _ 15 ([some (.ref 69), some (.int x1), some (.int x2)], [.int z36, .ref 69], (0, 0), hp) _ from ?_)
                  exact by
                   refine bs_ifne rfl (fun c37 => ?_) (fun c37 => ?_)
                   · exfalso; omega
                   · skip
                     refine bs_lit (k := 1) rfl rfl fun z38 hz38 => ?_
                     refine Ev.step (j := 23) (s' := ([some (.ref 69), some (.int x1), some (.int x2)], [.int z38, .ref 69], (0, 0), hp)) rfl rfl ?_
                     refine Ev.inl (L := L_X11_throwsIf) (nL := 2) rfl (bs_rcv (g := 11) H (bs_R.uq H (g := 11) rfl) (by decide) rfl) rfl (Nat.le_of_ble_eq_true rfl) ?_
                     generalize hQ39 : (fun (o : ab_O) => Ev _ _ _ _) = Q39
                     refine (show Ev (ab_T L_X11_throwsIf) 0 ([some (.ref 69), some (.int z38)], [], (0, 0), hp) Q39 from ?_)
                     refine Ev.step (j := 1) (s' := ([some (.ref 69), some (.int z38)], [.ref 69], (0, 0), hp)) rfl rfl ?_
                     refine Ev.step (j := 2) (s' := ([some (.ref 69), some (.int z38)], [.int z38, .ref 69], (0, 0), hp)) rfl rfl ?_
                     refine bs_ifeq rfl (fun c40 => ?_) (fun c40 => ?_)
                     · exfalso; omega
                     · skip
                       refine bs_lit (k := 1) rfl rfl fun z41 hz41 => ?_
                       exact by
                        refine Ev.step (j := 10) (s' := ([some (.ref 69), some (.int z38)], [.int z41, .ref 69], (0, 0), hp)) rfl rfl ?_
                        refine bs_putI (W := [(11, 0, 0)]) (g := 11) rfl rfl H (bs_R.uq H (g := 11) rfl) (by decide) rfl rfl rfl rfl (Or.inl rfl) (by omega) (by omega) fun hp42 Hhp42 fhp42 rhp42 ehp42 qhp42 nhp42 => ?_
                        have Fhp42 := sf_fr_tr F0 (sf_fr_wider (W := [(11, 0, 0)]) rfl fhp42)
                        have h43 : sf_rd hp42 71 1 = some z4.toInt := (ehp42 _ _ (Or.inl (by decide))).trans hz4
                        refine Ev.step (j := 14) (s' := ([some (.ref 69), some (.int z38)], [.int z38], (0, 0), hp42)) rfl rfl ?_
                        refine bs_zret rfl rfl (by omega) (by omega) ?_
                        rw [← hQ39]
                        refine (show Ev _ 26 ([some (.ref 69), some (.int x1), some (.int x2)], [.int z38], (0, 0), hp42) _ from ?_)
                        refine bs_ifeq rfl (fun c44 => ?_) (fun c44 => ?_)
                        · exfalso; omega
                        · skip
                          refine bs_lit (k := 0) rfl rfl fun z45 hz45 => ?_
                          exact Ev.ret rfl rfl (by rw [hQ]; exact ⟨t, Hhp42, Fhp42, bs_an0, sf_S_nil⟩)
                · skip
                  refine Ev.step (j := 6) (s' := ([some (.int x2), some (.int z32), some (.int z33)], [.int x2], (0, 0), hp)) rfl rfl ?_
                  exact by
                   refine Ev.step (j := 7) (s' := ([some (.int x2), some (.int z32), some (.int z33)], [.int z33, .int x2], (0, 0), hp)) rfl rfl ?_
                   refine bs_gt rfl (fun c46 => ?_) (fun c46 => ?_)
                   · skip
                     refine bs_lit (k := 0) rfl rfl fun z47 hz47 => ?_
                     refine bs_zret rfl rfl (by omega) (by omega) ?_
                     rw [← hQ34]
                     refine (show Ev _ 15 ([some (.ref 69), some (.int x1), some (.int x2)], [.int z47, .ref 69], (0, 0), hp) _ from ?_)
                     refine bs_ifne rfl (fun c48 => ?_) (fun c48 => ?_)
                     · exfalso; omega
                     · skip
                       refine bs_lit (k := 1) rfl rfl fun z49 hz49 => ?_
                       refine Ev.step (j := 23) (s' := ([some (.ref 69), some (.int x1), some (.int x2)], [.int z49, .ref 69], (0, 0), hp)) rfl rfl ?_
                       exact by
                        refine Ev.inl (L := L_X11_throwsIf) (nL := 2) rfl (bs_rcv (g := 11) H (bs_R.uq H (g := 11) rfl) (by decide) rfl) rfl (Nat.le_of_ble_eq_true rfl) ?_
                        generalize hQ50 : (fun (o : ab_O) => Ev _ _ _ _) = Q50
                        refine (show Ev (ab_T L_X11_throwsIf) 0 ([some (.ref 69), some (.int z49)], [], (0, 0), hp) Q50 from ?_)
                        refine Ev.step (j := 1) (s' := ([some (.ref 69), some (.int z49)], [.ref 69], (0, 0), hp)) rfl rfl ?_
                        refine Ev.step (j := 2) (s' := ([some (.ref 69), some (.int z49)], [.int z49, .ref 69], (0, 0), hp)) rfl rfl ?_
                        refine bs_ifeq rfl (fun c51 => ?_) (fun c51 => ?_)
                        · exfalso; omega
                        · skip
                          refine bs_lit (k := 1) rfl rfl fun z52 hz52 => ?_
                          refine Ev.step (j := 10) (s' := ([some (.ref 69), some (.int z49)], [.int z52, .ref 69], (0, 0), hp)) rfl rfl ?_
                          refine bs_putI (W := [(11, 0, 0)]) (g := 11) rfl rfl H (bs_R.uq H (g := 11) rfl) (by decide) rfl rfl rfl rfl (Or.inl rfl) (by omega) (by omega) fun hp53 Hhp53 fhp53 rhp53 ehp53 qhp53 nhp53 => ?_
                          have Fhp53 := sf_fr_tr F0 (sf_fr_wider (W := [(11, 0, 0)]) rfl fhp53)
                          have h54 : sf_rd hp53 71 1 = some z4.toInt := (ehp53 _ _ (Or.inl (by decide))).trans hz4
                          refine Ev.step (j := 14) (s' := ([some (.ref 69), some (.int z49)], [.int z49], (0, 0), hp53)) rfl rfl ?_
                          exact by
                           refine bs_zret rfl rfl (by omega) (by omega) ?_
                           rw [← hQ50]
                           refine (show Ev _ 26 ([some (.ref 69), some (.int x1), some (.int x2)], [.int z49], (0, 0), hp53) _ from ?_)
                           refine bs_ifeq rfl (fun c55 => ?_) (fun c55 => ?_)
                           · exfalso; omega
                           · skip
                             refine bs_lit (k := 0) rfl rfl fun z56 hz56 => ?_
                             exact Ev.ret rfl rfl (by rw [hQ]; exact ⟨t, Hhp53, Fhp53, bs_an0, sf_S_nil⟩)
                   · skip
                     refine bs_lit (k := 1) rfl rfl fun z57 hz57 => ?_
                     exact by
                      refine Ev.step (j := 15) (s' := ([some (.int x2), some (.int z32), some (.int z33)], [.int z57], (0, 0), hp)) rfl rfl ?_
                      refine bs_zret rfl rfl (by omega) (by omega) ?_
                      rw [← hQ34]
                      refine (show Ev _ 15 ([some (.ref 69), some (.int x1), some (.int x2)], [.int z57, .ref 69], (0, 0), hp) _ from ?_)
                      refine bs_ifne rfl (fun c58 => ?_) (fun c58 => ?_)
                      · skip
                        refine bs_lit (k := 0) rfl rfl fun z59 hz59 => ?_
                        refine Ev.inl (L := L_X11_throwsIf) (nL := 2) rfl (bs_rcv (g := 11) H (bs_R.uq H (g := 11) rfl) (by decide) rfl) rfl (Nat.le_of_ble_eq_true rfl) ?_
                        generalize hQ60 : (fun (o : ab_O) => Ev _ _ _ _) = Q60
                        refine (show Ev (ab_T L_X11_throwsIf) 0 ([some (.ref 69), some (.int z59)], [], (0, 0), hp) Q60 from ?_)
                        refine Ev.step (j := 1) (s' := ([some (.ref 69), some (.int z59)], [.ref 69], (0, 0), hp)) rfl rfl ?_
                        exact by
                         refine Ev.step (j := 2) (s' := ([some (.ref 69), some (.int z59)], [.int z59, .ref 69], (0, 0), hp)) rfl rfl ?_
                         refine bs_ifeq rfl (fun c61 => ?_) (fun c61 => ?_)
                         · skip
                           refine bs_lit (k := 0) rfl rfl fun z62 hz62 => ?_
                           refine bs_putI (W := [(11, 0, 0)]) (g := 11) rfl rfl H (bs_R.uq H (g := 11) rfl) (by decide) rfl rfl rfl rfl (Or.inl rfl) (by omega) (by omega) fun hp63 Hhp63 fhp63 rhp63 ehp63 qhp63 nhp63 => ?_
                           have Fhp63 := sf_fr_tr F0 (sf_fr_wider (W := [(11, 0, 0)]) rfl fhp63)
                           have h64 : sf_rd hp63 71 1 = some z4.toInt := (ehp63 _ _ (Or.inl (by decide))).trans hz4
                           refine Ev.step (j := 14) (s' := ([some (.ref 69), some (.int z59)], [.int z59], (0, 0), hp63)) rfl rfl ?_
                           refine bs_zret rfl rfl (by omega) (by omega) ?_
                           rw [← hQ60]
                           refine (show Ev _ 26 ([some (.ref 69), some (.int x1), some (.int x2)], [.int z59], (0, 0), hp63) _ from ?_)
                           exact by
                            refine bs_ifeq rfl (fun c65 => ?_) (fun c65 => ?_)
                            · skip
                              refine Ev.step (j := 32) (s' := ([some (.ref 69), some (.int x1), some (.int x2)], [.int x2], (0, 0), hp63)) rfl rfl ?_
                              rcases (show x2.toInt = 0 ∨ x2.toInt = 1 ∨ x2.toInt = 2 ∨ x2.toInt = 3 ∨ (x2.toInt < 0 ∨ 4 ≤ x2.toInt) by omega) with c66 | c66 | c66 | c66 | c66
                              · refine bs_tab 0 rfl (by omega) rfl ?_
                                refine Ev.step (j := 65) (s' := ([some (.ref 69), some (.int x1), some (.int x2)], [.ref 69], (0, 0), hp63)) rfl rfl ?_
                                refine Ev.step (j := 66) (s' := ([some (.ref 69), some (.int x1), some (.int x2)], [.int x1, .ref 69], (0, 0), hp63)) rfl rfl ?_
                                refine bs_call (K := kq_X11_isDead_ebc78d) [.ref 69, .int x1] [] rfl ct_X11_isDead_ebc78d Hhp63 rfl rfl rfl (bs_rcv (g := 11) Hhp63 (bs_R.uq Hhp63 (g := 11) rfl) (by decide) rfl) rfl ?_ (sf_S_cons (sf_s1 (x := x1.toInt) rfl (by omega) (by omega)) (sf_S_nil)) fun r67 hp68 thp68 Hhp68 fhp68 ahp68 php68 => ?_
                                · intro q k h
                                  match q, h with
                                  | 0, h => cases h; exact bs_jR (bs_R.uq Hhp63 (g := 11) rfl)
                                  | 1, h => cases h; exact sf_j0
                                  | q + 2, h => cases h
                                obtain ⟨z69, rfl⟩ := bs_anI ahp68
                                have rgz69 := n_range z69
                                have Fhp68 := sf_fr_tr Fhp63 (sf_fr_wider (W := [(11, 0, 0)]) rfl fhp68)
                                have h70 : sf_rd hp68 71 1 = some z4.toInt := (fhp68.2.2.1 _ (bs_R.uq Hhp63 (g := 132) (p := 71) rfl).1 _ (by rw [(bs_R.uq Hhp63 (g := 132) (p := 71) rfl).2]; rfl)).trans h64
                                have h71 : sf_rd hp68 69 0 = some z62.toInt := (fhp68.2.2.1 _ (bs_R.uq Hhp63 (g := 11) (p := 69) rfl).1 _ (by rw [(bs_R.uq Hhp63 (g := 11) (p := 69) rfl).2]; rfl)).trans rhp63
                                obtain ⟨uz69, vz69⟩ := bs_s1 (x := z69.toInt) rfl (php68 _ (List.mem_of_getElem? (i := 0) rfl))
                                refine (show Ev _ 69 ([some (.ref 69), some (.int x1), some (.int x2)], [.int z69], (0, 0), hp68) _ from ?_)
                                exact by
                                 refine bs_ifeq rfl (fun c72 => ?_) (fun c72 => ?_)
                                 · skip
                                   have c73 : z69.toInt = 0 := by omega
                                   refine Ev.step (j := 77) (s' := ([some (.ref 69), some (.int x1), some (.int x2)], [.ref 69], (0, 0), hp68)) rfl rfl ?_
                                   refine bs_getU (g := 11) (g1 := 132) rfl rfl Hhp68 (bs_R.uq Hhp68 (g := 11) rfl) (by decide) rfl rfl ?_
                                   refine bs_lit (k := 172) rfl rfl fun z74 hz74 => ?_
                                   refine Ev.step (j := 84) (s' := ([some (.ref 69), some (.int x1), some (.int x2)], [.int x1, .int z74, .ref 71], (0, 0), hp68)) rfl rfl ?_
                                   first | (refine bs_add rfl (by omega) (by omega) fun z75 hz75 => ?_) | (refine bs_any rfl fun z75 => ?_)
                                   have rz75 := n_range z75
                                   refine bs_ld (g := 132) 172 179 (-2147483648, 2147483647) rfl Hhp68 (bs_R.uq Hhp68 (g := 132) rfl) (by decide) rfl (by decide) (by decide) rfl (by decide) (by omega) (by omega) fun z76 hz76 lz76 gz76 => ?_
                                   dsimp only at lz76 gz76
                                   exact Ev.ret rfl rfl (by rw [hQ]; exact ⟨thp68, Hhp68, Fhp68, bs_an0, sf_S_nil⟩)
                                 · skip
                                   refine bs_lit (k := -1) rfl rfl fun z77 hz77 => ?_
                                   exact by
                                    refine Ev.step (j := 86) (s' := ([some (.ref 69), some (.int x1), some (.int x2)], [.int z77], (0, 0), hp68)) rfl rfl ?_
                                    exact Ev.ret rfl rfl (by rw [hQ]; exact ⟨thp68, Hhp68, Fhp68, bs_an0, sf_S_nil⟩)
                              · refine bs_tab 1 rfl (by omega) rfl ?_
                                refine Ev.step (j := 88) (s' := ([some (.ref 69), some (.int x1), some (.int x2)], [.ref 69], (0, 0), hp63)) rfl rfl ?_
                                exact by
                                 refine Ev.step (j := 89) (s' := ([some (.ref 69), some (.int x1), some (.int x2)], [.int x1, .ref 69], (0, 0), hp63)) rfl rfl ?_
                                 refine bs_call (K := kq_X11_missedBy_ebc78d) [.ref 69, .int x1] [] rfl ct_X11_missedBy_ebc78d Hhp63 rfl rfl rfl (bs_rcv (g := 11) Hhp63 (bs_R.uq Hhp63 (g := 11) rfl) (by decide) rfl) rfl ?_ (sf_S_cons (sf_s1 (x := x1.toInt) rfl (by omega) (by omega)) (sf_S_nil)) fun r78 hp79 thp79 Hhp79 fhp79 ahp79 php79 => ?_
                                 · intro q k h
                                   match q, h with
                                   | 0, h => cases h; exact bs_jR (bs_R.uq Hhp63 (g := 11) rfl)
                                   | 1, h => cases h; exact sf_j0
                                   | q + 2, h => cases h
                                 obtain ⟨z80, rfl⟩ := bs_anI ahp79
                                 have rgz80 := n_range z80
                                 have Fhp79 := sf_fr_tr Fhp63 (sf_fr_wider (W := [(11, 0, 0)]) rfl fhp79)
                                 have h81 : sf_rd hp79 71 1 = some z4.toInt := (fhp79.2.2.1 _ (bs_R.uq Hhp63 (g := 132) (p := 71) rfl).1 _ (by rw [(bs_R.uq Hhp63 (g := 132) (p := 71) rfl).2]; rfl)).trans h64
                                 have h82 : sf_rd hp79 69 0 = some z62.toInt := (fhp79.2.2.1 _ (bs_R.uq Hhp63 (g := 11) (p := 69) rfl).1 _ (by rw [(bs_R.uq Hhp63 (g := 11) (p := 69) rfl).2]; rfl)).trans rhp63
                                 refine (show Ev _ 92 ([some (.ref 69), some (.int x1), some (.int x2)], [.int z80], (0, 0), hp79) _ from ?_)
                                 exact Ev.ret rfl rfl (by rw [hQ]; exact ⟨thp79, Hhp79, Fhp79, bs_an0, sf_S_nil⟩)
                              · refine bs_tab 2 rfl (by omega) rfl ?_
                                refine Ev.step (j := 94) (s' := ([some (.ref 69), some (.int x1), some (.int x2)], [.ref 69], (0, 0), hp63)) rfl rfl ?_
                                exact by
                                 refine Ev.step (j := 95) (s' := ([some (.ref 69), some (.int x1), some (.int x2)], [.int x1, .ref 69], (0, 0), hp63)) rfl rfl ?_
                                 refine bs_call (K := kq_X11_missesOf_ebc78d) [.ref 69, .int x1] [] rfl ct_X11_missesOf_ebc78d Hhp63 rfl rfl rfl (bs_rcv (g := 11) Hhp63 (bs_R.uq Hhp63 (g := 11) rfl) (by decide) rfl) rfl ?_ (sf_S_cons (sf_s1 (x := x1.toInt) rfl (by omega) (by omega)) (sf_S_nil)) fun r83 hp84 thp84 Hhp84 fhp84 ahp84 php84 => ?_
                                 · intro q k h
                                   match q, h with
                                   | 0, h => cases h; exact bs_jR (bs_R.uq Hhp63 (g := 11) rfl)
                                   | 1, h => cases h; exact sf_j0
                                   | q + 2, h => cases h
                                 obtain ⟨z85, rfl⟩ := bs_anI ahp84
                                 have rgz85 := n_range z85
                                 have Fhp84 := sf_fr_tr Fhp63 (sf_fr_wider (W := [(11, 0, 0)]) rfl fhp84)
                                 have h86 : sf_rd hp84 71 1 = some z4.toInt := (fhp84.2.2.1 _ (bs_R.uq Hhp63 (g := 132) (p := 71) rfl).1 _ (by rw [(bs_R.uq Hhp63 (g := 132) (p := 71) rfl).2]; rfl)).trans h64
                                 have h87 : sf_rd hp84 69 0 = some z62.toInt := (fhp84.2.2.1 _ (bs_R.uq Hhp63 (g := 11) (p := 69) rfl).1 _ (by rw [(bs_R.uq Hhp63 (g := 11) (p := 69) rfl).2]; rfl)).trans rhp63
                                 refine (show Ev _ 98 ([some (.ref 69), some (.int x1), some (.int x2)], [.int z85], (0, 0), hp84) _ from ?_)
                                 exact Ev.ret rfl rfl (by rw [hQ]; exact ⟨thp84, Hhp84, Fhp84, bs_an0, sf_S_nil⟩)
                              · refine bs_tab 3 rfl (by omega) rfl ?_
                                refine Ev.step (j := 100) (s' := ([some (.ref 69), some (.int x1), some (.int x2)], [.ref 69], (0, 0), hp63)) rfl rfl ?_
                                exact by
                                 refine bs_getU (g := 11) (g1 := 132) rfl rfl Hhp63 (bs_R.uq Hhp63 (g := 11) rfl) (by decide) rfl rfl ?_
                                 refine bs_lit (k := 181) rfl rfl fun z88 hz88 => ?_
                                 refine Ev.step (j := 107) (s' := ([some (.ref 69), some (.int x1), some (.int x2)], [.int x1, .int z88, .ref 71], (0, 0), hp63)) rfl rfl ?_
                                 first | (refine bs_add rfl (by omega) (by omega) fun z89 hz89 => ?_) | (refine bs_any rfl fun z89 => ?_)
                                 have rz89 := n_range z89
                                 refine bs_ld (g := 132) 181 188 (-2147483648, 2147483647) rfl Hhp63 (bs_R.uq Hhp63 (g := 132) rfl) (by decide) rfl (by decide) (by decide) rfl (by decide) (by omega) (by omega) fun z90 hz90 lz90 gz90 => ?_
                                 dsimp only at lz90 gz90
                                 exact Ev.ret rfl rfl (by rw [hQ]; exact ⟨t, Hhp63, Fhp63, bs_an0, sf_S_nil⟩)
                              · refine bs_tabD rfl (by show _ ∨ _ + ((4 : Nat) : Int) ≤ _; omega) ?_
                                refine Ev.step (j := 111) (s' := ([some (.ref 69), some (.int x1), some (.int x2)], [.ref 69], (0, 0), hp63)) rfl rfl ?_
                                exact by
                                 refine Ev.step (j := 112) (s' := ([some (.ref 69), some (.int x1), some (.int x2)], [.int x1, .ref 69], (0, 0), hp63)) rfl rfl ?_
                                 refine bs_call (K := kq_X11_isDead_ebc78d) [.ref 69, .int x1] [] rfl ct_X11_isDead_ebc78d Hhp63 rfl rfl rfl (bs_rcv (g := 11) Hhp63 (bs_R.uq Hhp63 (g := 11) rfl) (by decide) rfl) rfl ?_ (sf_S_cons (sf_s1 (x := x1.toInt) rfl (by omega) (by omega)) (sf_S_nil)) fun r91 hp92 thp92 Hhp92 fhp92 ahp92 php92 => ?_
                                 · intro q k h
                                   match q, h with
                                   | 0, h => cases h; exact bs_jR (bs_R.uq Hhp63 (g := 11) rfl)
                                   | 1, h => cases h; exact sf_j0
                                   | q + 2, h => cases h
                                 obtain ⟨z93, rfl⟩ := bs_anI ahp92
                                 have rgz93 := n_range z93
                                 have Fhp92 := sf_fr_tr Fhp63 (sf_fr_wider (W := [(11, 0, 0)]) rfl fhp92)
                                 have h94 : sf_rd hp92 71 1 = some z4.toInt := (fhp92.2.2.1 _ (bs_R.uq Hhp63 (g := 132) (p := 71) rfl).1 _ (by rw [(bs_R.uq Hhp63 (g := 132) (p := 71) rfl).2]; rfl)).trans h64
                                 have h95 : sf_rd hp92 69 0 = some z62.toInt := (fhp92.2.2.1 _ (bs_R.uq Hhp63 (g := 11) (p := 69) rfl).1 _ (by rw [(bs_R.uq Hhp63 (g := 11) (p := 69) rfl).2]; rfl)).trans rhp63
                                 obtain ⟨uz93, vz93⟩ := bs_s1 (x := z93.toInt) rfl (php92 _ (List.mem_of_getElem? (i := 0) rfl))
                                 refine (show Ev _ 115 ([some (.ref 69), some (.int x1), some (.int x2)], [.int z93], (0, 0), hp92) _ from ?_)
                                 exact by
                                  refine bs_ifeq rfl (fun c96 => ?_) (fun c96 => ?_)
                                  · skip
                                    have c97 : z93.toInt = 0 := by omega
                                    refine bs_lit (k := 1) rfl rfl fun z98 hz98 => ?_
                                    exact Ev.ret rfl rfl (by rw [hQ]; exact ⟨thp92, Hhp92, Fhp92, bs_an0, sf_S_nil⟩)
                                  · skip
                                    refine bs_lit (k := 0) rfl rfl fun z99 hz99 => ?_
                                    refine Ev.step (j := 123) (s' := ([some (.ref 69), some (.int x1), some (.int x2)], [.int z99], (0, 0), hp92)) rfl rfl ?_
                                    exact Ev.ret rfl rfl (by rw [hQ]; exact ⟨thp92, Hhp92, Fhp92, bs_an0, sf_S_nil⟩)
                            · exfalso; omega
                         · exfalso; omega
                      · exfalso; omega
def kq_X11_draw_754021 : sf_Q := ([(1, 11, 0), (0, 0, 0)], [(1, 3, 0, 6, 6, 0)], some (0, 0, 0), [(1, 0, 0, 0, 5, 0)], [(11, 29, 29)])
def kc_X11_draw_754021 : List (Nat × sf_I) := [(0, 4, [1, 0]),
  (1, 4, [2, 0]),
  (2, 23, [5, 11, 29]),
  (5, 0, [8, 1103515245]),
  (8, 9, [9, 2]),
  (9, 0, [12, 12345]),
  (12, 9, [13, 0]),
  (13, 24, [16, 11, 29, 0]),
  (16, 4, [17, 0]),
  (17, 23, [20, 11, 29]),
  (20, 0, [22, 8]),
  (22, 9, [23, 8]),
  (23, 2, [24, 1]),
  (24, 10, [25]),
  (25, 35, [0, 0])]
def kd_X11_draw_754021_0 : List (Nat × sf_D × sf_M) := [(0, ([(1, 11, 0), (0, 0, 0)], [], [(1, 4, 0, 6, 6, 0)], 0, 0), (14, [])),
  (1, ([(1, 11, 0), (0, 0, 0)], [(1, 11, 0)], [(1, 4, 0, 6, 6, 0)], 0, 0), (13, [])),
  (2, ([(1, 11, 0), (0, 0, 0)], [(1, 11, 0), (1, 11, 0)], [(1, 4, 0, 6, 6, 0)], 0, 0), (12, [])),
  (5, ([(1, 11, 0), (0, 0, 0)], [(0, 0, 2147483647), (1, 11, 0)], [(1, 4, 0, 6, 6, 0), (1, 3, 0, -2147483648, 2147483647, 0), (1, 36089, 0, -2147483648, 2147483647, 0), (2, 3, 36089, 1, 0, 0)], 0, 0), (11, [])),
  (8, ([(1, 11, 0), (0, 0, 0)], [(0, 0, 0), (0, 0, 2147483647), (1, 11, 0)], [(1, 4, 0, 6, 6, 0), (1, 3, 0, -2147483648, 2147483647, 0), (1, 36089, 0, -2147483648, 2147483647, 0), (1, 6, 0, 1103515245, 1103515245, 0), (2, 3, 36089, 1, 0, 0)], 0, 0), (10, [])),
  (9, ([(1, 11, 0), (0, 0, 0)], [(0, 0, 0), (1, 11, 0)], [(1, 4, 0, 6, 6, 0), (1, 36089, 0, -2147483648, 2147483647, 0), (1, 3, 0, -2147483648, 2147483647, 0)], 0, 0), (9, [])),
  (12, ([(1, 11, 0), (0, 0, 0)], [(0, 0, 0), (0, 0, 0), (1, 11, 0)], [(1, 4, 0, 6, 6, 0), (1, 36089, 0, -2147483648, 2147483647, 0), (1, 3, 0, -2147483648, 2147483647, 0), (1, 6, 0, 12345, 12345, 0)], 0, 0), (8, [])),
  (13, ([(1, 11, 0), (0, 0, 0)], [(0, 0, 0), (1, 11, 0)], [(1, 4, 0, 6, 6, 0), (1, 36089, 0, -2147483648, 2147483647, 0), (1, 3, 0, -2147483648, 2147483647, 0)], 0, 0), (7, [])),
  (16, ([(1, 11, 0), (0, 0, 0)], [], [(1, 4, 0, 6, 6, 0), (1, 36089, 0, -2147483648, 2147483647, 0)], 0, 0), (6, [])),
  (17, ([(1, 11, 0), (0, 0, 0)], [(1, 11, 0)], [(1, 4, 0, 6, 6, 0), (1, 36089, 0, -2147483648, 2147483647, 0)], 0, 0), (5, []))]
def kd_X11_draw_754021_1 : List (Nat × sf_D × sf_M) := [(20, ([(1, 11, 0), (0, 0, 0)], [(0, 0, 2147483647)], [(1, 4, 0, 6, 6, 0), (1, 36089, 0, -2147483648, 2147483647, 0), (1, 0, 0, -2147483648, 2147483647, 0), (2, 0, 36089, 1, 0, 0)], 0, 0), (4, [])),
  (22, ([(1, 11, 0), (0, 0, 0)], [(0, 0, 0), (0, 0, 2147483647)], [(1, 4, 0, 6, 6, 0), (1, 36089, 0, -2147483648, 2147483647, 0), (1, 0, 0, -2147483648, 2147483647, 0), (1, 3, 0, 8, 8, 0), (2, 0, 36089, 1, 0, 0)], 0, 0), (3, [])),
  (23, ([(1, 11, 0), (0, 0, 0)], [(0, 0, 0)], [(1, 4, 0, 6, 6, 0), (1, 36089, 0, -2147483648, 2147483647, 0), (1, 0, 0, 0, 16777215, 0)], 0, 0), (2, [])),
  (24, ([(1, 11, 0), (0, 0, 0)], [(0, 0, 0), (0, 0, 0)], [(1, 4, 0, 6, 6, 0), (1, 36089, 0, -2147483648, 2147483647, 0), (1, 0, 0, 0, 16777215, 0), (1, 3, 0, 6, 6, 0), (2, 3, 4, 1, 0, 0)], 0, 0), (1, [])),
  (25, ([(1, 11, 0), (0, 0, 0)], [(0, 0, 0)], [(1, 4, 0, 6, 6, 0), (1, 36089, 0, -2147483648, 2147483647, 0), (1, 0, 0, 0, 5, 0)], 0, 0), (0, []))]
def kd_X11_draw_754021 : List (Nat × sf_D × sf_M) := kd_X11_draw_754021_0 ++ (kd_X11_draw_754021_1)
set_option maxRecDepth 100000 in
theorem kt_X11_draw_754021 : sf_chk [] kq_X11_draw_754021 2 kc_X11_draw_754021 kd_X11_draw_754021 = true := by decide +kernel
set_option maxRecDepth 100000 in
theorem kl_X11_draw_754021 : (kc_X11_draw_754021).map (fun c => (c.1, sf_den ([] : List sf_X) c.2)) = L_X11_draw := rfl
theorem ct_X11_draw_754021 : sf_ct kq_X11_draw_754021 Z_X11_draw := by
  have h := sf_meth (K := []) (E := []) (k := kq_X11_draw_754021) (nL := 2) (C := kc_X11_draw_754021) (D := kd_X11_draw_754021) (fun m k hk => match m, hk with
    | _ + 0, hk => (by cases hk)) kt_X11_draw_754021
  rw [kl_X11_draw_754021] at h
  exact h
def kq_X11_draw_055593 : sf_Q := ([(1, 11, 0), (0, 0, 0)], [(1, 3, 0, 90, 90, 0)], some (0, 0, 0), [(1, 0, 0, 0, 89, 0)], [(11, 29, 29)])
def kc_X11_draw_055593 : List (Nat × sf_I) := [(0, 4, [1, 0]),
  (1, 4, [2, 0]),
  (2, 23, [5, 11, 29]),
  (5, 0, [8, 1103515245]),
  (8, 9, [9, 2]),
  (9, 0, [12, 12345]),
  (12, 9, [13, 0]),
  (13, 24, [16, 11, 29, 0]),
  (16, 4, [17, 0]),
  (17, 23, [20, 11, 29]),
  (20, 0, [22, 8]),
  (22, 9, [23, 8]),
  (23, 2, [24, 1]),
  (24, 10, [25]),
  (25, 35, [0, 0])]
def kd_X11_draw_055593_0 : List (Nat × sf_D × sf_M) := [(0, ([(1, 11, 0), (0, 0, 0)], [], [(1, 4, 0, 90, 90, 0)], 0, 0), (14, [])),
  (1, ([(1, 11, 0), (0, 0, 0)], [(1, 11, 0)], [(1, 4, 0, 90, 90, 0)], 0, 0), (13, [])),
  (2, ([(1, 11, 0), (0, 0, 0)], [(1, 11, 0), (1, 11, 0)], [(1, 4, 0, 90, 90, 0)], 0, 0), (12, [])),
  (5, ([(1, 11, 0), (0, 0, 0)], [(0, 0, 2147483647), (1, 11, 0)], [(1, 4, 0, 90, 90, 0), (1, 3, 0, -2147483648, 2147483647, 0), (1, 36089, 0, -2147483648, 2147483647, 0), (2, 3, 36089, 1, 0, 0)], 0, 0), (11, [])),
  (8, ([(1, 11, 0), (0, 0, 0)], [(0, 0, 0), (0, 0, 2147483647), (1, 11, 0)], [(1, 4, 0, 90, 90, 0), (1, 3, 0, -2147483648, 2147483647, 0), (1, 36089, 0, -2147483648, 2147483647, 0), (1, 6, 0, 1103515245, 1103515245, 0), (2, 3, 36089, 1, 0, 0)], 0, 0), (10, [])),
  (9, ([(1, 11, 0), (0, 0, 0)], [(0, 0, 0), (1, 11, 0)], [(1, 4, 0, 90, 90, 0), (1, 36089, 0, -2147483648, 2147483647, 0), (1, 3, 0, -2147483648, 2147483647, 0)], 0, 0), (9, [])),
  (12, ([(1, 11, 0), (0, 0, 0)], [(0, 0, 0), (0, 0, 0), (1, 11, 0)], [(1, 4, 0, 90, 90, 0), (1, 36089, 0, -2147483648, 2147483647, 0), (1, 3, 0, -2147483648, 2147483647, 0), (1, 6, 0, 12345, 12345, 0)], 0, 0), (8, [])),
  (13, ([(1, 11, 0), (0, 0, 0)], [(0, 0, 0), (1, 11, 0)], [(1, 4, 0, 90, 90, 0), (1, 36089, 0, -2147483648, 2147483647, 0), (1, 3, 0, -2147483648, 2147483647, 0)], 0, 0), (7, [])),
  (16, ([(1, 11, 0), (0, 0, 0)], [], [(1, 4, 0, 90, 90, 0), (1, 36089, 0, -2147483648, 2147483647, 0)], 0, 0), (6, [])),
  (17, ([(1, 11, 0), (0, 0, 0)], [(1, 11, 0)], [(1, 4, 0, 90, 90, 0), (1, 36089, 0, -2147483648, 2147483647, 0)], 0, 0), (5, []))]
def kd_X11_draw_055593_1 : List (Nat × sf_D × sf_M) := [(20, ([(1, 11, 0), (0, 0, 0)], [(0, 0, 2147483647)], [(1, 4, 0, 90, 90, 0), (1, 36089, 0, -2147483648, 2147483647, 0), (1, 0, 0, -2147483648, 2147483647, 0), (2, 0, 36089, 1, 0, 0)], 0, 0), (4, [])),
  (22, ([(1, 11, 0), (0, 0, 0)], [(0, 0, 0), (0, 0, 2147483647)], [(1, 4, 0, 90, 90, 0), (1, 36089, 0, -2147483648, 2147483647, 0), (1, 0, 0, -2147483648, 2147483647, 0), (1, 3, 0, 8, 8, 0), (2, 0, 36089, 1, 0, 0)], 0, 0), (3, [])),
  (23, ([(1, 11, 0), (0, 0, 0)], [(0, 0, 0)], [(1, 4, 0, 90, 90, 0), (1, 36089, 0, -2147483648, 2147483647, 0), (1, 0, 0, 0, 16777215, 0)], 0, 0), (2, [])),
  (24, ([(1, 11, 0), (0, 0, 0)], [(0, 0, 0), (0, 0, 0)], [(1, 4, 0, 90, 90, 0), (1, 36089, 0, -2147483648, 2147483647, 0), (1, 0, 0, 0, 16777215, 0), (1, 3, 0, 90, 90, 0), (2, 3, 4, 1, 0, 0)], 0, 0), (1, [])),
  (25, ([(1, 11, 0), (0, 0, 0)], [(0, 0, 0)], [(1, 4, 0, 90, 90, 0), (1, 36089, 0, -2147483648, 2147483647, 0), (1, 0, 0, 0, 89, 0)], 0, 0), (0, []))]
def kd_X11_draw_055593 : List (Nat × sf_D × sf_M) := kd_X11_draw_055593_0 ++ (kd_X11_draw_055593_1)
set_option maxRecDepth 100000 in
theorem kt_X11_draw_055593 : sf_chk [] kq_X11_draw_055593 2 kc_X11_draw_055593 kd_X11_draw_055593 = true := by decide +kernel
set_option maxRecDepth 100000 in
theorem kl_X11_draw_055593 : (kc_X11_draw_055593).map (fun c => (c.1, sf_den ([] : List sf_X) c.2)) = L_X11_draw := rfl
theorem ct_X11_draw_055593 : sf_ct kq_X11_draw_055593 Z_X11_draw := by
  have h := sf_meth (K := []) (E := []) (k := kq_X11_draw_055593) (nL := 2) (C := kc_X11_draw_055593) (D := kd_X11_draw_055593) (fun m k hk => match m, hk with
    | _ + 0, hk => (by cases hk)) kt_X11_draw_055593
  rw [kl_X11_draw_055593] at h
  exact h
def kq_X11_draw_527597 : sf_Q := ([(1, 11, 0), (0, 0, 0)], [(1, 3, 0, 1, 8, 0)], some (0, 0, 0), [(1, 0, 0, 0, 7, 0)], [(11, 29, 29)])
def kc_X11_draw_527597 : List (Nat × sf_I) := [(0, 4, [1, 0]),
  (1, 4, [2, 0]),
  (2, 23, [5, 11, 29]),
  (5, 0, [8, 1103515245]),
  (8, 9, [9, 2]),
  (9, 0, [12, 12345]),
  (12, 9, [13, 0]),
  (13, 24, [16, 11, 29, 0]),
  (16, 4, [17, 0]),
  (17, 23, [20, 11, 29]),
  (20, 0, [22, 8]),
  (22, 9, [23, 8]),
  (23, 2, [24, 1]),
  (24, 10, [25]),
  (25, 35, [0, 0])]
def kd_X11_draw_527597_0 : List (Nat × sf_D × sf_M) := [(0, ([(1, 11, 0), (0, 0, 0)], [], [(1, 4, 0, 1, 8, 0)], 0, 0), (14, [])),
  (1, ([(1, 11, 0), (0, 0, 0)], [(1, 11, 0)], [(1, 4, 0, 1, 8, 0)], 0, 0), (13, [])),
  (2, ([(1, 11, 0), (0, 0, 0)], [(1, 11, 0), (1, 11, 0)], [(1, 4, 0, 1, 8, 0)], 0, 0), (12, [])),
  (5, ([(1, 11, 0), (0, 0, 0)], [(0, 0, 2147483647), (1, 11, 0)], [(1, 4, 0, 1, 8, 0), (1, 3, 0, -2147483648, 2147483647, 0), (1, 36089, 0, -2147483648, 2147483647, 0), (2, 3, 36089, 1, 0, 0)], 0, 0), (11, [])),
  (8, ([(1, 11, 0), (0, 0, 0)], [(0, 0, 0), (0, 0, 2147483647), (1, 11, 0)], [(1, 4, 0, 1, 8, 0), (1, 3, 0, -2147483648, 2147483647, 0), (1, 36089, 0, -2147483648, 2147483647, 0), (1, 6, 0, 1103515245, 1103515245, 0), (2, 3, 36089, 1, 0, 0)], 0, 0), (10, [])),
  (9, ([(1, 11, 0), (0, 0, 0)], [(0, 0, 0), (1, 11, 0)], [(1, 4, 0, 1, 8, 0), (1, 36089, 0, -2147483648, 2147483647, 0), (1, 3, 0, -2147483648, 2147483647, 0)], 0, 0), (9, [])),
  (12, ([(1, 11, 0), (0, 0, 0)], [(0, 0, 0), (0, 0, 0), (1, 11, 0)], [(1, 4, 0, 1, 8, 0), (1, 36089, 0, -2147483648, 2147483647, 0), (1, 3, 0, -2147483648, 2147483647, 0), (1, 6, 0, 12345, 12345, 0)], 0, 0), (8, [])),
  (13, ([(1, 11, 0), (0, 0, 0)], [(0, 0, 0), (1, 11, 0)], [(1, 4, 0, 1, 8, 0), (1, 36089, 0, -2147483648, 2147483647, 0), (1, 3, 0, -2147483648, 2147483647, 0)], 0, 0), (7, [])),
  (16, ([(1, 11, 0), (0, 0, 0)], [], [(1, 4, 0, 1, 8, 0), (1, 36089, 0, -2147483648, 2147483647, 0)], 0, 0), (6, [])),
  (17, ([(1, 11, 0), (0, 0, 0)], [(1, 11, 0)], [(1, 4, 0, 1, 8, 0), (1, 36089, 0, -2147483648, 2147483647, 0)], 0, 0), (5, []))]
def kd_X11_draw_527597_1 : List (Nat × sf_D × sf_M) := [(20, ([(1, 11, 0), (0, 0, 0)], [(0, 0, 2147483647)], [(1, 4, 0, 1, 8, 0), (1, 36089, 0, -2147483648, 2147483647, 0), (1, 0, 0, -2147483648, 2147483647, 0), (2, 0, 36089, 1, 0, 0)], 0, 0), (4, [])),
  (22, ([(1, 11, 0), (0, 0, 0)], [(0, 0, 0), (0, 0, 2147483647)], [(1, 4, 0, 1, 8, 0), (1, 36089, 0, -2147483648, 2147483647, 0), (1, 0, 0, -2147483648, 2147483647, 0), (1, 3, 0, 8, 8, 0), (2, 0, 36089, 1, 0, 0)], 0, 0), (3, [])),
  (23, ([(1, 11, 0), (0, 0, 0)], [(0, 0, 0)], [(1, 4, 0, 1, 8, 0), (1, 36089, 0, -2147483648, 2147483647, 0), (1, 0, 0, 0, 16777215, 0)], 0, 0), (2, [])),
  (24, ([(1, 11, 0), (0, 0, 0)], [(0, 0, 0), (0, 0, 0)], [(1, 4, 0, 1, 8, 0), (1, 36089, 0, -2147483648, 2147483647, 0), (1, 0, 0, 0, 16777215, 0), (1, 3, 0, 1, 8, 0), (2, 3, 4, 1, 0, 0)], 0, 0), (1, [])),
  (25, ([(1, 11, 0), (0, 0, 0)], [(0, 0, 0)], [(1, 4, 0, 1, 8, 0), (1, 36089, 0, -2147483648, 2147483647, 0), (1, 0, 0, 0, 7, 0)], 0, 0), (0, []))]
def kd_X11_draw_527597 : List (Nat × sf_D × sf_M) := kd_X11_draw_527597_0 ++ (kd_X11_draw_527597_1)
set_option maxRecDepth 100000 in
theorem kt_X11_draw_527597 : sf_chk [] kq_X11_draw_527597 2 kc_X11_draw_527597 kd_X11_draw_527597 = true := by decide +kernel
set_option maxRecDepth 100000 in
theorem kl_X11_draw_527597 : (kc_X11_draw_527597).map (fun c => (c.1, sf_den ([] : List sf_X) c.2)) = L_X11_draw := rfl
theorem ct_X11_draw_527597 : sf_ct kq_X11_draw_527597 Z_X11_draw := by
  have h := sf_meth (K := []) (E := []) (k := kq_X11_draw_527597) (nL := 2) (C := kc_X11_draw_527597) (D := kd_X11_draw_527597) (fun m k hk => match m, hk with
    | _ + 0, hk => (by cases hk)) kt_X11_draw_527597
  rw [kl_X11_draw_527597] at h
  exact h
def kq_X11_draw_3d739f : sf_Q := ([(1, 11, 0), (0, 0, 0)], [(1, 3, 0, 1, 6, 0)], some (0, 0, 0), [(1, 0, 0, 0, 5, 0)], [(11, 29, 29)])
def kc_X11_draw_3d739f : List (Nat × sf_I) := [(0, 4, [1, 0]),
  (1, 4, [2, 0]),
  (2, 23, [5, 11, 29]),
  (5, 0, [8, 1103515245]),
  (8, 9, [9, 2]),
  (9, 0, [12, 12345]),
  (12, 9, [13, 0]),
  (13, 24, [16, 11, 29, 0]),
  (16, 4, [17, 0]),
  (17, 23, [20, 11, 29]),
  (20, 0, [22, 8]),
  (22, 9, [23, 8]),
  (23, 2, [24, 1]),
  (24, 10, [25]),
  (25, 35, [0, 0])]
def kd_X11_draw_3d739f_0 : List (Nat × sf_D × sf_M) := [(0, ([(1, 11, 0), (0, 0, 0)], [], [(1, 4, 0, 1, 6, 0)], 0, 0), (14, [])),
  (1, ([(1, 11, 0), (0, 0, 0)], [(1, 11, 0)], [(1, 4, 0, 1, 6, 0)], 0, 0), (13, [])),
  (2, ([(1, 11, 0), (0, 0, 0)], [(1, 11, 0), (1, 11, 0)], [(1, 4, 0, 1, 6, 0)], 0, 0), (12, [])),
  (5, ([(1, 11, 0), (0, 0, 0)], [(0, 0, 2147483647), (1, 11, 0)], [(1, 4, 0, 1, 6, 0), (1, 3, 0, -2147483648, 2147483647, 0), (1, 36089, 0, -2147483648, 2147483647, 0), (2, 3, 36089, 1, 0, 0)], 0, 0), (11, [])),
  (8, ([(1, 11, 0), (0, 0, 0)], [(0, 0, 0), (0, 0, 2147483647), (1, 11, 0)], [(1, 4, 0, 1, 6, 0), (1, 3, 0, -2147483648, 2147483647, 0), (1, 36089, 0, -2147483648, 2147483647, 0), (1, 6, 0, 1103515245, 1103515245, 0), (2, 3, 36089, 1, 0, 0)], 0, 0), (10, [])),
  (9, ([(1, 11, 0), (0, 0, 0)], [(0, 0, 0), (1, 11, 0)], [(1, 4, 0, 1, 6, 0), (1, 36089, 0, -2147483648, 2147483647, 0), (1, 3, 0, -2147483648, 2147483647, 0)], 0, 0), (9, [])),
  (12, ([(1, 11, 0), (0, 0, 0)], [(0, 0, 0), (0, 0, 0), (1, 11, 0)], [(1, 4, 0, 1, 6, 0), (1, 36089, 0, -2147483648, 2147483647, 0), (1, 3, 0, -2147483648, 2147483647, 0), (1, 6, 0, 12345, 12345, 0)], 0, 0), (8, [])),
  (13, ([(1, 11, 0), (0, 0, 0)], [(0, 0, 0), (1, 11, 0)], [(1, 4, 0, 1, 6, 0), (1, 36089, 0, -2147483648, 2147483647, 0), (1, 3, 0, -2147483648, 2147483647, 0)], 0, 0), (7, [])),
  (16, ([(1, 11, 0), (0, 0, 0)], [], [(1, 4, 0, 1, 6, 0), (1, 36089, 0, -2147483648, 2147483647, 0)], 0, 0), (6, [])),
  (17, ([(1, 11, 0), (0, 0, 0)], [(1, 11, 0)], [(1, 4, 0, 1, 6, 0), (1, 36089, 0, -2147483648, 2147483647, 0)], 0, 0), (5, []))]
def kd_X11_draw_3d739f_1 : List (Nat × sf_D × sf_M) := [(20, ([(1, 11, 0), (0, 0, 0)], [(0, 0, 2147483647)], [(1, 4, 0, 1, 6, 0), (1, 36089, 0, -2147483648, 2147483647, 0), (1, 0, 0, -2147483648, 2147483647, 0), (2, 0, 36089, 1, 0, 0)], 0, 0), (4, [])),
  (22, ([(1, 11, 0), (0, 0, 0)], [(0, 0, 0), (0, 0, 2147483647)], [(1, 4, 0, 1, 6, 0), (1, 36089, 0, -2147483648, 2147483647, 0), (1, 0, 0, -2147483648, 2147483647, 0), (1, 3, 0, 8, 8, 0), (2, 0, 36089, 1, 0, 0)], 0, 0), (3, [])),
  (23, ([(1, 11, 0), (0, 0, 0)], [(0, 0, 0)], [(1, 4, 0, 1, 6, 0), (1, 36089, 0, -2147483648, 2147483647, 0), (1, 0, 0, 0, 16777215, 0)], 0, 0), (2, [])),
  (24, ([(1, 11, 0), (0, 0, 0)], [(0, 0, 0), (0, 0, 0)], [(1, 4, 0, 1, 6, 0), (1, 36089, 0, -2147483648, 2147483647, 0), (1, 0, 0, 0, 16777215, 0), (1, 3, 0, 1, 6, 0), (2, 3, 4, 1, 0, 0)], 0, 0), (1, [])),
  (25, ([(1, 11, 0), (0, 0, 0)], [(0, 0, 0)], [(1, 4, 0, 1, 6, 0), (1, 36089, 0, -2147483648, 2147483647, 0), (1, 0, 0, 0, 5, 0)], 0, 0), (0, []))]
def kd_X11_draw_3d739f : List (Nat × sf_D × sf_M) := kd_X11_draw_3d739f_0 ++ (kd_X11_draw_3d739f_1)
set_option maxRecDepth 100000 in
theorem kt_X11_draw_3d739f : sf_chk [] kq_X11_draw_3d739f 2 kc_X11_draw_3d739f kd_X11_draw_3d739f = true := by decide +kernel
set_option maxRecDepth 100000 in
theorem kl_X11_draw_3d739f : (kc_X11_draw_3d739f).map (fun c => (c.1, sf_den ([] : List sf_X) c.2)) = L_X11_draw := rfl
theorem ct_X11_draw_3d739f : sf_ct kq_X11_draw_3d739f Z_X11_draw := by
  have h := sf_meth (K := []) (E := []) (k := kq_X11_draw_3d739f) (nL := 2) (C := kc_X11_draw_3d739f) (D := kd_X11_draw_3d739f) (fun m k hk => match m, hk with
    | _ + 0, hk => (by cases hk)) kt_X11_draw_3d739f
  rw [kl_X11_draw_3d739f] at h
  exact h
def kq_X11_draw_d8ddf5 : sf_Q := ([(1, 11, 0), (0, 0, 0)], [(1, 3, 0, 2, 2, 0)], some (0, 0, 0), [(1, 0, 0, 0, 1, 0)], [(11, 29, 29)])
def kc_X11_draw_d8ddf5 : List (Nat × sf_I) := [(0, 4, [1, 0]),
  (1, 4, [2, 0]),
  (2, 23, [5, 11, 29]),
  (5, 0, [8, 1103515245]),
  (8, 9, [9, 2]),
  (9, 0, [12, 12345]),
  (12, 9, [13, 0]),
  (13, 24, [16, 11, 29, 0]),
  (16, 4, [17, 0]),
  (17, 23, [20, 11, 29]),
  (20, 0, [22, 8]),
  (22, 9, [23, 8]),
  (23, 2, [24, 1]),
  (24, 10, [25]),
  (25, 35, [0, 0])]
def kd_X11_draw_d8ddf5_0 : List (Nat × sf_D × sf_M) := [(0, ([(1, 11, 0), (0, 0, 0)], [], [(1, 4, 0, 2, 2, 0)], 0, 0), (14, [])),
  (1, ([(1, 11, 0), (0, 0, 0)], [(1, 11, 0)], [(1, 4, 0, 2, 2, 0)], 0, 0), (13, [])),
  (2, ([(1, 11, 0), (0, 0, 0)], [(1, 11, 0), (1, 11, 0)], [(1, 4, 0, 2, 2, 0)], 0, 0), (12, [])),
  (5, ([(1, 11, 0), (0, 0, 0)], [(0, 0, 2147483647), (1, 11, 0)], [(1, 4, 0, 2, 2, 0), (1, 3, 0, -2147483648, 2147483647, 0), (1, 36089, 0, -2147483648, 2147483647, 0), (2, 3, 36089, 1, 0, 0)], 0, 0), (11, [])),
  (8, ([(1, 11, 0), (0, 0, 0)], [(0, 0, 0), (0, 0, 2147483647), (1, 11, 0)], [(1, 4, 0, 2, 2, 0), (1, 3, 0, -2147483648, 2147483647, 0), (1, 36089, 0, -2147483648, 2147483647, 0), (1, 6, 0, 1103515245, 1103515245, 0), (2, 3, 36089, 1, 0, 0)], 0, 0), (10, [])),
  (9, ([(1, 11, 0), (0, 0, 0)], [(0, 0, 0), (1, 11, 0)], [(1, 4, 0, 2, 2, 0), (1, 36089, 0, -2147483648, 2147483647, 0), (1, 3, 0, -2147483648, 2147483647, 0)], 0, 0), (9, [])),
  (12, ([(1, 11, 0), (0, 0, 0)], [(0, 0, 0), (0, 0, 0), (1, 11, 0)], [(1, 4, 0, 2, 2, 0), (1, 36089, 0, -2147483648, 2147483647, 0), (1, 3, 0, -2147483648, 2147483647, 0), (1, 6, 0, 12345, 12345, 0)], 0, 0), (8, [])),
  (13, ([(1, 11, 0), (0, 0, 0)], [(0, 0, 0), (1, 11, 0)], [(1, 4, 0, 2, 2, 0), (1, 36089, 0, -2147483648, 2147483647, 0), (1, 3, 0, -2147483648, 2147483647, 0)], 0, 0), (7, [])),
  (16, ([(1, 11, 0), (0, 0, 0)], [], [(1, 4, 0, 2, 2, 0), (1, 36089, 0, -2147483648, 2147483647, 0)], 0, 0), (6, [])),
  (17, ([(1, 11, 0), (0, 0, 0)], [(1, 11, 0)], [(1, 4, 0, 2, 2, 0), (1, 36089, 0, -2147483648, 2147483647, 0)], 0, 0), (5, []))]
def kd_X11_draw_d8ddf5_1 : List (Nat × sf_D × sf_M) := [(20, ([(1, 11, 0), (0, 0, 0)], [(0, 0, 2147483647)], [(1, 4, 0, 2, 2, 0), (1, 36089, 0, -2147483648, 2147483647, 0), (1, 0, 0, -2147483648, 2147483647, 0), (2, 0, 36089, 1, 0, 0)], 0, 0), (4, [])),
  (22, ([(1, 11, 0), (0, 0, 0)], [(0, 0, 0), (0, 0, 2147483647)], [(1, 4, 0, 2, 2, 0), (1, 36089, 0, -2147483648, 2147483647, 0), (1, 0, 0, -2147483648, 2147483647, 0), (1, 3, 0, 8, 8, 0), (2, 0, 36089, 1, 0, 0)], 0, 0), (3, [])),
  (23, ([(1, 11, 0), (0, 0, 0)], [(0, 0, 0)], [(1, 4, 0, 2, 2, 0), (1, 36089, 0, -2147483648, 2147483647, 0), (1, 0, 0, 0, 16777215, 0)], 0, 0), (2, [])),
  (24, ([(1, 11, 0), (0, 0, 0)], [(0, 0, 0), (0, 0, 0)], [(1, 4, 0, 2, 2, 0), (1, 36089, 0, -2147483648, 2147483647, 0), (1, 0, 0, 0, 16777215, 0), (1, 3, 0, 2, 2, 0), (2, 3, 4, 1, 0, 0)], 0, 0), (1, [])),
  (25, ([(1, 11, 0), (0, 0, 0)], [(0, 0, 0)], [(1, 4, 0, 2, 2, 0), (1, 36089, 0, -2147483648, 2147483647, 0), (1, 0, 0, 0, 1, 0)], 0, 0), (0, []))]
def kd_X11_draw_d8ddf5 : List (Nat × sf_D × sf_M) := kd_X11_draw_d8ddf5_0 ++ (kd_X11_draw_d8ddf5_1)
set_option maxRecDepth 100000 in
theorem kt_X11_draw_d8ddf5 : sf_chk [] kq_X11_draw_d8ddf5 2 kc_X11_draw_d8ddf5 kd_X11_draw_d8ddf5 = true := by decide +kernel
set_option maxRecDepth 100000 in
theorem kl_X11_draw_d8ddf5 : (kc_X11_draw_d8ddf5).map (fun c => (c.1, sf_den ([] : List sf_X) c.2)) = L_X11_draw := rfl
theorem ct_X11_draw_d8ddf5 : sf_ct kq_X11_draw_d8ddf5 Z_X11_draw := by
  have h := sf_meth (K := []) (E := []) (k := kq_X11_draw_d8ddf5) (nL := 2) (C := kc_X11_draw_d8ddf5) (D := kd_X11_draw_d8ddf5) (fun m k hk => match m, hk with
    | _ + 0, hk => (by cases hk)) kt_X11_draw_d8ddf5
  rw [kl_X11_draw_d8ddf5] at h
  exact h
def kq_X11_draw_7d34e3 : sf_Q := ([(1, 11, 0), (0, 0, 0)], [(1, 3, 0, 20, 20, 0)], some (0, 0, 0), [(1, 0, 0, 0, 19, 0)], [(11, 29, 29)])
def kc_X11_draw_7d34e3 : List (Nat × sf_I) := [(0, 4, [1, 0]),
  (1, 4, [2, 0]),
  (2, 23, [5, 11, 29]),
  (5, 0, [8, 1103515245]),
  (8, 9, [9, 2]),
  (9, 0, [12, 12345]),
  (12, 9, [13, 0]),
  (13, 24, [16, 11, 29, 0]),
  (16, 4, [17, 0]),
  (17, 23, [20, 11, 29]),
  (20, 0, [22, 8]),
  (22, 9, [23, 8]),
  (23, 2, [24, 1]),
  (24, 10, [25]),
  (25, 35, [0, 0])]
def kd_X11_draw_7d34e3_0 : List (Nat × sf_D × sf_M) := [(0, ([(1, 11, 0), (0, 0, 0)], [], [(1, 4, 0, 20, 20, 0)], 0, 0), (14, [])),
  (1, ([(1, 11, 0), (0, 0, 0)], [(1, 11, 0)], [(1, 4, 0, 20, 20, 0)], 0, 0), (13, [])),
  (2, ([(1, 11, 0), (0, 0, 0)], [(1, 11, 0), (1, 11, 0)], [(1, 4, 0, 20, 20, 0)], 0, 0), (12, [])),
  (5, ([(1, 11, 0), (0, 0, 0)], [(0, 0, 2147483647), (1, 11, 0)], [(1, 4, 0, 20, 20, 0), (1, 3, 0, -2147483648, 2147483647, 0), (1, 36089, 0, -2147483648, 2147483647, 0), (2, 3, 36089, 1, 0, 0)], 0, 0), (11, [])),
  (8, ([(1, 11, 0), (0, 0, 0)], [(0, 0, 0), (0, 0, 2147483647), (1, 11, 0)], [(1, 4, 0, 20, 20, 0), (1, 3, 0, -2147483648, 2147483647, 0), (1, 36089, 0, -2147483648, 2147483647, 0), (1, 6, 0, 1103515245, 1103515245, 0), (2, 3, 36089, 1, 0, 0)], 0, 0), (10, [])),
  (9, ([(1, 11, 0), (0, 0, 0)], [(0, 0, 0), (1, 11, 0)], [(1, 4, 0, 20, 20, 0), (1, 36089, 0, -2147483648, 2147483647, 0), (1, 3, 0, -2147483648, 2147483647, 0)], 0, 0), (9, [])),
  (12, ([(1, 11, 0), (0, 0, 0)], [(0, 0, 0), (0, 0, 0), (1, 11, 0)], [(1, 4, 0, 20, 20, 0), (1, 36089, 0, -2147483648, 2147483647, 0), (1, 3, 0, -2147483648, 2147483647, 0), (1, 6, 0, 12345, 12345, 0)], 0, 0), (8, [])),
  (13, ([(1, 11, 0), (0, 0, 0)], [(0, 0, 0), (1, 11, 0)], [(1, 4, 0, 20, 20, 0), (1, 36089, 0, -2147483648, 2147483647, 0), (1, 3, 0, -2147483648, 2147483647, 0)], 0, 0), (7, [])),
  (16, ([(1, 11, 0), (0, 0, 0)], [], [(1, 4, 0, 20, 20, 0), (1, 36089, 0, -2147483648, 2147483647, 0)], 0, 0), (6, [])),
  (17, ([(1, 11, 0), (0, 0, 0)], [(1, 11, 0)], [(1, 4, 0, 20, 20, 0), (1, 36089, 0, -2147483648, 2147483647, 0)], 0, 0), (5, []))]
def kd_X11_draw_7d34e3_1 : List (Nat × sf_D × sf_M) := [(20, ([(1, 11, 0), (0, 0, 0)], [(0, 0, 2147483647)], [(1, 4, 0, 20, 20, 0), (1, 36089, 0, -2147483648, 2147483647, 0), (1, 0, 0, -2147483648, 2147483647, 0), (2, 0, 36089, 1, 0, 0)], 0, 0), (4, [])),
  (22, ([(1, 11, 0), (0, 0, 0)], [(0, 0, 0), (0, 0, 2147483647)], [(1, 4, 0, 20, 20, 0), (1, 36089, 0, -2147483648, 2147483647, 0), (1, 0, 0, -2147483648, 2147483647, 0), (1, 3, 0, 8, 8, 0), (2, 0, 36089, 1, 0, 0)], 0, 0), (3, [])),
  (23, ([(1, 11, 0), (0, 0, 0)], [(0, 0, 0)], [(1, 4, 0, 20, 20, 0), (1, 36089, 0, -2147483648, 2147483647, 0), (1, 0, 0, 0, 16777215, 0)], 0, 0), (2, [])),
  (24, ([(1, 11, 0), (0, 0, 0)], [(0, 0, 0), (0, 0, 0)], [(1, 4, 0, 20, 20, 0), (1, 36089, 0, -2147483648, 2147483647, 0), (1, 0, 0, 0, 16777215, 0), (1, 3, 0, 20, 20, 0), (2, 3, 4, 1, 0, 0)], 0, 0), (1, [])),
  (25, ([(1, 11, 0), (0, 0, 0)], [(0, 0, 0)], [(1, 4, 0, 20, 20, 0), (1, 36089, 0, -2147483648, 2147483647, 0), (1, 0, 0, 0, 19, 0)], 0, 0), (0, []))]
def kd_X11_draw_7d34e3 : List (Nat × sf_D × sf_M) := kd_X11_draw_7d34e3_0 ++ (kd_X11_draw_7d34e3_1)
set_option maxRecDepth 100000 in
theorem kt_X11_draw_7d34e3 : sf_chk [] kq_X11_draw_7d34e3 2 kc_X11_draw_7d34e3 kd_X11_draw_7d34e3 = true := by decide +kernel
set_option maxRecDepth 100000 in
theorem kl_X11_draw_7d34e3 : (kc_X11_draw_7d34e3).map (fun c => (c.1, sf_den ([] : List sf_X) c.2)) = L_X11_draw := rfl
theorem ct_X11_draw_7d34e3 : sf_ct kq_X11_draw_7d34e3 Z_X11_draw := by
  have h := sf_meth (K := []) (E := []) (k := kq_X11_draw_7d34e3) (nL := 2) (C := kc_X11_draw_7d34e3) (D := kd_X11_draw_7d34e3) (fun m k hk => match m, hk with
    | _ + 0, hk => (by cases hk)) kt_X11_draw_7d34e3
  rw [kl_X11_draw_7d34e3] at h
  exact h
def kq_X11_drawsDay_h : sf_Q := ([(1, 11, 0)], [(1, 399002, 0, 1, 6, 0), (1, 399362, 0, 0, 399, 0)], none, [], [(11, 22, 22), (11, 29, 29), (132, 120, 252)])
set_option maxRecDepth 100000 in
set_option maxHeartbeats 4000000 in
theorem ct_X11_drawsDay_h : sf_ct kq_X11_drawsDay_h Z_X11_drawsDay := by
  intro t hp as H hl hj hpre
  match as, hl with
  | [v0], _ =>
    obtain ⟨a0, rfl, ra0⟩ := bs_aR (hj 0 _ rfl)
    obtain rfl := ra0.eq H (p := 69) rfl
    obtain ⟨pv0, pe0, pl0, ph0⟩ := (hpre _ (List.mem_of_getElem? (i := 0) rfl)).1 rfl
    replace pe0 : sf_rd hp 71 0 = some pv0 := pe0
    replace pl0 : (1 : Int) ≤ pv0 := pl0
    replace ph0 : pv0 ≤ (6 : Int) := ph0
    obtain ⟨pv1, pe1, pl1, ph1⟩ := (hpre _ (List.mem_of_getElem? (i := 1) rfl)).1 rfl
    replace pe1 : sf_rd hp 71 120 = some pv1 := pe1
    replace pl1 : (0 : Int) ≤ pv1 := pl1
    replace ph1 : pv1 ≤ (399 : Int) := ph1
    clear hpre hj
    have F0 : sf_fr [(11, 22, 22), (11, 29, 29), (132, 120, 252)] t hp t hp := sf_fr_rf
    refine bs_fin (K := kq_X11_drawsDay_h) (L := (L_X11_drawsDay Z_X11_draw Z_X11_cell Z_X11_whyHoard Z_X11_hoards Z_X11_whyBare Z_X11_day)) (nL := 5) (Nat.le_of_ble_eq_true rfl) ?_
    obtain ⟨Q, hQ⟩ : ∃ Q : ab_O → Prop, Q = (fun o => ∃ t', sf_h t' o.2 ∧ sf_fr (kq_X11_drawsDay_h).2.2.2.2 t hp t' o.2 ∧ sf_an t' o.2.1 (kq_X11_drawsDay_h).2.2.1 o.1 ∧ sf_S (sf_v1 o.1 [.ref 69] o.2) (kq_X11_drawsDay_h).2.2.2.1) := ⟨_, rfl⟩
    rw [← hQ]
    refine (show Ev (ab_T (L_X11_drawsDay Z_X11_draw Z_X11_cell Z_X11_whyHoard Z_X11_hoards Z_X11_whyBare Z_X11_day)) 0 ([some (.ref 69), none, none, none, none], [], (0, 0), hp) Q from ?_)
    exact by
     refine Ev.step (j := 1) (s' := ([some (.ref 69), none, none, none, none], [.ref 69], (0, 0), hp)) rfl rfl ?_
     refine bs_lit (k := 6) rfl rfl fun z1 hz1 => ?_
     refine bs_call (K := kq_X11_draw_754021) [.ref 69, .int z1] [] rfl ct_X11_draw_754021 H rfl rfl rfl (bs_rcv (g := 11) H (bs_R.uq H (g := 11) rfl) (by decide) rfl) rfl ?_ (sf_S_cons (sf_s1 (x := z1.toInt) rfl (by omega) (by omega)) (sf_S_nil)) fun r2 hp3 thp3 Hhp3 fhp3 ahp3 php3 => ?_
     · intro q k h
       match q, h with
       | 0, h => cases h; exact bs_jR (bs_R.uq H (g := 11) rfl)
       | 1, h => cases h; exact sf_j0
       | q + 2, h => cases h
     obtain ⟨z4, rfl⟩ := bs_anI ahp3
     have rgz4 := n_range z4
     have Fhp3 := sf_fr_tr F0 (sf_fr_wider (W := [(11, 22, 22), (11, 29, 29), (132, 120, 252)]) rfl fhp3)
     have h5 : sf_rd hp3 71 0 = some pv0 := (fhp3.2.2.1 _ (bs_R.uq H (g := 132) (p := 71) rfl).1 _ (by rw [(bs_R.uq H (g := 132) (p := 71) rfl).2]; rfl)).trans pe0
     have h6 : sf_rd hp3 71 120 = some pv1 := (fhp3.2.2.1 _ (bs_R.uq H (g := 132) (p := 71) rfl).1 _ (by rw [(bs_R.uq H (g := 132) (p := 71) rfl).2]; rfl)).trans pe1
     obtain ⟨uz4, vz4⟩ := bs_s1 (x := z4.toInt) rfl (php3 _ (List.mem_of_getElem? (i := 0) rfl))
     refine (show Ev _ 6 ([some (.ref 69), none, none, none, none], [.int z4], (0, 0), hp3) _ from ?_)
     exact by
      refine Ev.step (j := 7) (s' := ([some (.ref 69), some (.int z4), none, none, none], [], (0, 0), hp3)) rfl rfl ?_
      refine Ev.step (j := 8) (s' := ([some (.ref 69), some (.int z4), none, none, none], [.int z4], (0, 0), hp3)) rfl rfl ?_
      refine bs_lit (k := 3) rfl rfl fun z7 hz7 => ?_
      refine bs_ge rfl (fun c8 => ?_) (fun c8 => ?_)
      · skip
        refine Ev.step (j := 117) (s' := ([some (.ref 69), some (.int z4), none, none, none], [.ref 69], (0, 0), hp3)) rfl rfl ?_
        refine bs_lit (k := 90) rfl rfl fun z9 hz9 => ?_
        refine bs_call (K := kq_X11_draw_055593) [.ref 69, .int z9] [] rfl ct_X11_draw_055593 Hhp3 rfl rfl rfl (bs_rcv (g := 11) Hhp3 (bs_R.uq Hhp3 (g := 11) rfl) (by decide) rfl) rfl ?_ (sf_S_cons (sf_s1 (x := z9.toInt) rfl (by omega) (by omega)) (sf_S_nil)) fun r10 hp11 thp11 Hhp11 fhp11 ahp11 php11 => ?_
        · intro q k h
          match q, h with
          | 0, h => cases h; exact bs_jR (bs_R.uq Hhp3 (g := 11) rfl)
          | 1, h => cases h; exact sf_j0
          | q + 2, h => cases h
        obtain ⟨z12, rfl⟩ := bs_anI ahp11
        have rgz12 := n_range z12
        have Fhp11 := sf_fr_tr Fhp3 (sf_fr_wider (W := [(11, 22, 22), (11, 29, 29), (132, 120, 252)]) rfl fhp11)
        have h13 : sf_rd hp11 71 0 = some pv0 := (fhp11.2.2.1 _ (bs_R.uq Hhp3 (g := 132) (p := 71) rfl).1 _ (by rw [(bs_R.uq Hhp3 (g := 132) (p := 71) rfl).2]; rfl)).trans h5
        have h14 : sf_rd hp11 71 120 = some pv1 := (fhp11.2.2.1 _ (bs_R.uq Hhp3 (g := 132) (p := 71) rfl).1 _ (by rw [(bs_R.uq Hhp3 (g := 132) (p := 71) rfl).2]; rfl)).trans h6
        obtain ⟨uz12, vz12⟩ := bs_s1 (x := z12.toInt) rfl (php11 _ (List.mem_of_getElem? (i := 0) rfl))
        refine (show Ev _ 122 ([some (.ref 69), some (.int z4), none, none, none], [.int z12], (0, 0), hp11) _ from ?_)
        exact by
         refine bs_ifne rfl (fun c15 => ?_) (fun c15 => ?_)
         · skip
           refine Ev.step (j := 158) (s' := ([some (.ref 69), some (.int z4), none, none, none], [.ref 69], (0, 0), hp11)) rfl rfl ?_
           refine bs_call (K := kq_X11_day_h) [.ref 69] [] rfl ct_X11_day_h Hhp11 rfl rfl rfl (bs_rcv (g := 11) Hhp11 (bs_R.uq Hhp11 (g := 11) rfl) (by decide) rfl) rfl ?_ (sf_S_cons (sf_s1 (x := pv1) (show sf_v0 _ _ 399362 = _ from h14) (by omega) (by omega)) (sf_S_nil)) fun r16 hp17 thp17 Hhp17 fhp17 ahp17 php17 => ?_
           · intro q k h
             match q, h with
             | 0, h => cases h; exact bs_jR (bs_R.uq Hhp11 (g := 11) rfl)
             | q + 1, h => cases h
           obtain rfl := ahp17.1 rfl
           have Fhp17 := sf_fr_tr Fhp11 (sf_fr_wider (W := [(11, 22, 22), (11, 29, 29), (132, 120, 252)]) rfl fhp17)
           have h18 : sf_rd hp17 71 0 = some pv0 := (fhp17.2.2.1 _ (bs_R.uq Hhp11 (g := 132) (p := 71) rfl).1 _ (by rw [(bs_R.uq Hhp11 (g := 132) (p := 71) rfl).2]; rfl)).trans h13
           refine (show Ev _ 161 ([some (.ref 69), some (.int z4), none, none, none], [], (0, 0), hp17) _ from ?_)
           exact Ev.ret rfl rfl (by rw [hQ]; exact ⟨thp17, Hhp17, Fhp17, bs_anU, sf_S_nil⟩)
         · skip
           have c19 : z12.toInt = 0 := by omega
           refine Ev.step (j := 126) (s' := ([some (.ref 69), some (.int z4), none, none, none], [.ref 69], (0, 0), hp11)) rfl rfl ?_
           exact by
            refine bs_getU (g := 11) (g1 := 132) rfl rfl Hhp11 (bs_R.uq Hhp11 (g := 11) rfl) (by decide) rfl rfl ?_
            refine bs_lit (k := 1) rfl rfl fun z20 hz20 => ?_
            refine bs_ld (g := 132) 1 1 (0, 8) rfl Hhp11 (bs_R.uq Hhp11 (g := 132) rfl) (by decide) rfl (by decide) (by decide) rfl (by decide) (by omega) (by omega) fun z21 hz21 lz21 gz21 => ?_
            dsimp only at lz21 gz21
            replace hz21 := bs_at hz21 (show z20.toInt.toNat = 1 by omega)
            refine bs_ifle rfl (fun c22 => ?_) (fun c22 => ?_)
            · skip
              refine Ev.step (j := 158) (s' := ([some (.ref 69), some (.int z4), none, none, none], [.ref 69], (0, 0), hp11)) rfl rfl ?_
              refine bs_call (K := kq_X11_day_h) [.ref 69] [] rfl ct_X11_day_h Hhp11 rfl rfl rfl (bs_rcv (g := 11) Hhp11 (bs_R.uq Hhp11 (g := 11) rfl) (by decide) rfl) rfl ?_ (sf_S_cons (sf_s1 (x := pv1) (show sf_v0 _ _ 399362 = _ from h14) (by omega) (by omega)) (sf_S_nil)) fun r23 hp24 thp24 Hhp24 fhp24 ahp24 php24 => ?_
              · intro q k h
                match q, h with
                | 0, h => cases h; exact bs_jR (bs_R.uq Hhp11 (g := 11) rfl)
                | q + 1, h => cases h
              obtain rfl := ahp24.1 rfl
              have Fhp24 := sf_fr_tr Fhp11 (sf_fr_wider (W := [(11, 22, 22), (11, 29, 29), (132, 120, 252)]) rfl fhp24)
              have h25 : sf_rd hp24 71 0 = some pv0 := (fhp24.2.2.1 _ (bs_R.uq Hhp11 (g := 132) (p := 71) rfl).1 _ (by rw [(bs_R.uq Hhp11 (g := 132) (p := 71) rfl).2]; rfl)).trans h13
              have h26 : sf_rd hp24 71 1 = some z21.toInt := (fhp24.2.2.1 _ (bs_R.uq Hhp11 (g := 132) (p := 71) rfl).1 _ (by rw [(bs_R.uq Hhp11 (g := 132) (p := 71) rfl).2]; rfl)).trans hz21
              refine (show Ev _ 161 ([some (.ref 69), some (.int z4), none, none, none], [], (0, 0), hp24) _ from ?_)
              exact Ev.ret rfl rfl (by rw [hQ]; exact ⟨thp24, Hhp24, Fhp24, bs_anU, sf_S_nil⟩)
            · skip
              refine Ev.step (j := 135) (s' := ([some (.ref 69), some (.int z4), none, none, none], [.ref 69], (0, 0), hp11)) rfl rfl ?_
              exact by
               refine bs_getU (g := 11) (g1 := 132) rfl rfl Hhp11 (bs_R.uq Hhp11 (g := 11) rfl) (by decide) rfl rfl ?_
               refine bs_lit (k := 180) rfl rfl fun z27 hz27 => ?_
               refine Ev.step (j := 142) (s' := ([some (.ref 69), some (.int z4), none, none, none], [.int z27, .ref 71, .int z27, .ref 71], (0, 0), hp11)) rfl rfl ?_
               refine bs_ld (g := 132) 180 180 (-2147483648, 2147483647) rfl Hhp11 (bs_R.uq Hhp11 (g := 132) rfl) (by decide) rfl (by decide) (by decide) rfl (by decide) (by omega) (by omega) fun z28 hz28 lz28 gz28 => ?_
               dsimp only at lz28 gz28
               replace hz28 := bs_at hz28 (show z27.toInt.toNat = 180 by omega)
               refine bs_lit (k := 1) rfl rfl fun z29 hz29 => ?_
               refine Ev.step (j := 145) (s' := ([some (.ref 69), some (.int z4), none, none, none], [.ref 69, .int z29, .int z28, .int z27, .ref 71], (0, 0), hp11)) rfl rfl ?_
               refine Ev.step (j := 146) (s' := ([some (.ref 69), some (.int z4), none, none, none], [.ref 69, .ref 69, .int z29, .int z28, .int z27, .ref 71], (0, 0), hp11)) rfl rfl ?_
               exact by
                refine bs_getU (g := 11) (g1 := 132) rfl rfl Hhp11 (bs_R.uq Hhp11 (g := 11) rfl) (by decide) rfl rfl ?_
                refine bs_lit (k := 1) rfl rfl fun z30 hz30 => ?_
                refine bs_ld (g := 132) 1 1 (0, 8) rfl Hhp11 (bs_R.uq Hhp11 (g := 132) rfl) (by decide) rfl (by decide) (by decide) rfl (by decide) (by omega) (by omega) fun z31 hz31 lz31 gz31 => ?_
                dsimp only at lz31 gz31
                replace hz31 := bs_at hz31 (show z30.toInt.toNat = 1 by omega)
                have e32 : z31.toInt = z21.toInt := Option.some.inj (hz31.symm.trans hz21)
                refine bs_call (K := kq_X11_draw_527597) [.ref 69, .int z31] [.int z29, .int z28, .int z27, .ref 71] rfl ct_X11_draw_527597 Hhp11 rfl rfl rfl (bs_rcv (g := 11) Hhp11 (bs_R.uq Hhp11 (g := 11) rfl) (by decide) rfl) rfl ?_ (sf_S_cons (sf_s1 (x := z31.toInt) rfl (by omega) (by omega)) (sf_S_nil)) fun r33 hp34 thp34 Hhp34 fhp34 ahp34 php34 => ?_
                · intro q k h
                  match q, h with
                  | 0, h => cases h; exact bs_jR (bs_R.uq Hhp11 (g := 11) rfl)
                  | 1, h => cases h; exact sf_j0
                  | q + 2, h => cases h
                obtain ⟨z35, rfl⟩ := bs_anI ahp34
                have rgz35 := n_range z35
                have Fhp34 := sf_fr_tr Fhp11 (sf_fr_wider (W := [(11, 22, 22), (11, 29, 29), (132, 120, 252)]) rfl fhp34)
                have h36 : sf_rd hp34 71 0 = some pv0 := (fhp34.2.2.1 _ (bs_R.uq Hhp11 (g := 132) (p := 71) rfl).1 _ (by rw [(bs_R.uq Hhp11 (g := 132) (p := 71) rfl).2]; rfl)).trans h13
                have h37 : sf_rd hp34 71 120 = some pv1 := (fhp34.2.2.1 _ (bs_R.uq Hhp11 (g := 132) (p := 71) rfl).1 _ (by rw [(bs_R.uq Hhp11 (g := 132) (p := 71) rfl).2]; rfl)).trans h14
                have h38 : sf_rd hp34 71 1 = some z21.toInt := (fhp34.2.2.1 _ (bs_R.uq Hhp11 (g := 132) (p := 71) rfl).1 _ (by rw [(bs_R.uq Hhp11 (g := 132) (p := 71) rfl).2]; rfl)).trans hz21
                have h39 : sf_rd hp34 71 180 = some z28.toInt := (fhp34.2.2.1 _ (bs_R.uq Hhp11 (g := 132) (p := 71) rfl).1 _ (by rw [(bs_R.uq Hhp11 (g := 132) (p := 71) rfl).2]; rfl)).trans hz28
                obtain ⟨uz35, vz35⟩ := bs_s1 (x := z35.toInt) rfl (php34 _ (List.mem_of_getElem? (i := 0) rfl))
                refine (show Ev _ 154 ([some (.ref 69), some (.int z4), none, none, none], [.int z35, .int z29, .int z28, .int z27, .ref 71], (0, 0), hp34) _ from ?_)
                exact by
                 refine bs_any rfl fun z40 => ?_
                 have rz40 := n_range z40
                 refine bs_any rfl fun z41 => ?_
                 have rz41 := n_range z41
                 refine bs_st (W := [(132, 180, 180)]) (g := 132) 180 180 (-2147483648, 2147483647) rfl Hhp34 (bs_R.uq Hhp34 (g := 132) rfl) (by decide) rfl rfl (by decide) rfl rfl (by omega) (by omega) (by dsimp only; omega) (by dsimp only; omega) fun hp42 Hhp42 fhp42 rhp42 ehp42 qhp42 nhp42 => ?_
                 replace rhp42 := bs_at rhp42 (show z27.toInt.toNat = 180 by omega)
                 have Fhp42 := sf_fr_tr Fhp34 (sf_fr_wider (W := [(11, 22, 22), (11, 29, 29), (132, 120, 252)]) rfl fhp42)
                 have h43 : sf_rd hp42 71 0 = some pv0 := (ehp42 _ _ (Or.inr (by omega))).trans h36
                 have h44 : sf_rd hp42 71 120 = some pv1 := (ehp42 _ _ (Or.inr (by omega))).trans h37
                 have h45 : sf_rd hp42 71 1 = some z21.toInt := (ehp42 _ _ (Or.inr (by omega))).trans h38
                 refine Ev.step (j := 158) (s' := ([some (.ref 69), some (.int z4), none, none, none], [.ref 69], (0, 0), hp42)) rfl rfl ?_
                 exact by
                  refine bs_call (K := kq_X11_day_h) [.ref 69] [] rfl ct_X11_day_h Hhp42 rfl rfl rfl (bs_rcv (g := 11) Hhp42 (bs_R.uq Hhp42 (g := 11) rfl) (by decide) rfl) rfl ?_ (sf_S_cons (sf_s1 (x := pv1) (show sf_v0 _ _ 399362 = _ from h44) (by omega) (by omega)) (sf_S_nil)) fun r46 hp47 thp47 Hhp47 fhp47 ahp47 php47 => ?_
                  · intro q k h
                    match q, h with
                    | 0, h => cases h; exact bs_jR (bs_R.uq Hhp42 (g := 11) rfl)
                    | q + 1, h => cases h
                  obtain rfl := ahp47.1 rfl
                  have Fhp47 := sf_fr_tr Fhp42 (sf_fr_wider (W := [(11, 22, 22), (11, 29, 29), (132, 120, 252)]) rfl fhp47)
                  have h48 : sf_rd hp47 71 0 = some pv0 := (fhp47.2.2.1 _ (bs_R.uq Hhp42 (g := 132) (p := 71) rfl).1 _ (by rw [(bs_R.uq Hhp42 (g := 132) (p := 71) rfl).2]; rfl)).trans h43
                  have h49 : sf_rd hp47 71 1 = some z21.toInt := (fhp47.2.2.1 _ (bs_R.uq Hhp42 (g := 132) (p := 71) rfl).1 _ (by rw [(bs_R.uq Hhp42 (g := 132) (p := 71) rfl).2]; rfl)).trans h45
                  refine (show Ev _ 161 ([some (.ref 69), some (.int z4), none, none, none], [], (0, 0), hp47) _ from ?_)
                  exact Ev.ret rfl rfl (by rw [hQ]; exact ⟨thp47, Hhp47, Fhp47, bs_anU, sf_S_nil⟩)
      · skip
        have cut50 : ∀ (o51 : Option Value) (o52 : Option Value) (o53 : Option Value) (hp54 : ab_H) (t55 : Nat → Nat), sf_h t55 hp54 → sf_fr [(11, 22, 22), (11, 29, 29), (132, 120, 252)] t hp t55 hp54 → (sf_rd hp54 71 120 = some pv1) → Ev (ab_T (L_X11_drawsDay Z_X11_draw Z_X11_cell Z_X11_whyHoard Z_X11_hoards Z_X11_whyBare Z_X11_day)) 116 ([some (.ref 69), some (.int z4), o51, o52, o53], [], (0, 0), hp54) Q := by
          intro o51 o52 o53 hp54 t55 Hhp54 Fhp54 i56
          refine Ev.step (j := 117) (s' := ([some (.ref 69), some (.int z4), o51, o52, o53], [.ref 69], (0, 0), hp54)) rfl rfl ?_
          exact by
           refine bs_lit (k := 90) rfl rfl fun z57 hz57 => ?_
           refine bs_call (K := kq_X11_draw_055593) [.ref 69, .int z57] [] rfl ct_X11_draw_055593 Hhp54 rfl rfl rfl (bs_rcv (g := 11) Hhp54 (bs_R.uq Hhp54 (g := 11) rfl) (by decide) rfl) rfl ?_ (sf_S_cons (sf_s1 (x := z57.toInt) rfl (by omega) (by omega)) (sf_S_nil)) fun r58 hp59 thp59 Hhp59 fhp59 ahp59 php59 => ?_
           · intro q k h
             match q, h with
             | 0, h => cases h; exact bs_jR (bs_R.uq Hhp54 (g := 11) rfl)
             | 1, h => cases h; exact sf_j0
             | q + 2, h => cases h
           obtain ⟨z60, rfl⟩ := bs_anI ahp59
           have rgz60 := n_range z60
           have Fhp59 := sf_fr_tr Fhp54 (sf_fr_wider (W := [(11, 22, 22), (11, 29, 29), (132, 120, 252)]) rfl fhp59)
           have h61 : sf_rd hp59 71 120 = some pv1 := (fhp59.2.2.1 _ (bs_R.uq Hhp54 (g := 132) (p := 71) rfl).1 _ (by rw [(bs_R.uq Hhp54 (g := 132) (p := 71) rfl).2]; rfl)).trans i56
           obtain ⟨uz60, vz60⟩ := bs_s1 (x := z60.toInt) rfl (php59 _ (List.mem_of_getElem? (i := 0) rfl))
           refine (show Ev _ 122 ([some (.ref 69), some (.int z4), o51, o52, o53], [.int z60], (0, 0), hp59) _ from ?_)
           exact by
            refine bs_ifne rfl (fun c62 => ?_) (fun c62 => ?_)
            · skip
              refine Ev.step (j := 158) (s' := ([some (.ref 69), some (.int z4), o51, o52, o53], [.ref 69], (0, 0), hp59)) rfl rfl ?_
              refine bs_call (K := kq_X11_day_h) [.ref 69] [] rfl ct_X11_day_h Hhp59 rfl rfl rfl (bs_rcv (g := 11) Hhp59 (bs_R.uq Hhp59 (g := 11) rfl) (by decide) rfl) rfl ?_ (sf_S_cons (sf_s1 (x := pv1) (show sf_v0 _ _ 399362 = _ from h61) (by omega) (by omega)) (sf_S_nil)) fun r63 hp64 thp64 Hhp64 fhp64 ahp64 php64 => ?_
              · intro q k h
                match q, h with
                | 0, h => cases h; exact bs_jR (bs_R.uq Hhp59 (g := 11) rfl)
                | q + 1, h => cases h
              obtain rfl := ahp64.1 rfl
              have Fhp64 := sf_fr_tr Fhp59 (sf_fr_wider (W := [(11, 22, 22), (11, 29, 29), (132, 120, 252)]) rfl fhp64)
              refine (show Ev _ 161 ([some (.ref 69), some (.int z4), o51, o52, o53], [], (0, 0), hp64) _ from ?_)
              exact Ev.ret rfl rfl (by rw [hQ]; exact ⟨thp64, Hhp64, Fhp64, bs_anU, sf_S_nil⟩)
            · skip
              have c65 : z60.toInt = 0 := by omega
              refine Ev.step (j := 126) (s' := ([some (.ref 69), some (.int z4), o51, o52, o53], [.ref 69], (0, 0), hp59)) rfl rfl ?_
              exact by
               refine bs_getU (g := 11) (g1 := 132) rfl rfl Hhp59 (bs_R.uq Hhp59 (g := 11) rfl) (by decide) rfl rfl ?_
               refine bs_lit (k := 1) rfl rfl fun z66 hz66 => ?_
               refine bs_ld (g := 132) 1 1 (0, 8) rfl Hhp59 (bs_R.uq Hhp59 (g := 132) rfl) (by decide) rfl (by decide) (by decide) rfl (by decide) (by omega) (by omega) fun z67 hz67 lz67 gz67 => ?_
               dsimp only at lz67 gz67
               replace hz67 := bs_at hz67 (show z66.toInt.toNat = 1 by omega)
               refine bs_ifle rfl (fun c68 => ?_) (fun c68 => ?_)
               · skip
                 refine Ev.step (j := 158) (s' := ([some (.ref 69), some (.int z4), o51, o52, o53], [.ref 69], (0, 0), hp59)) rfl rfl ?_
                 refine bs_call (K := kq_X11_day_h) [.ref 69] [] rfl ct_X11_day_h Hhp59 rfl rfl rfl (bs_rcv (g := 11) Hhp59 (bs_R.uq Hhp59 (g := 11) rfl) (by decide) rfl) rfl ?_ (sf_S_cons (sf_s1 (x := pv1) (show sf_v0 _ _ 399362 = _ from h61) (by omega) (by omega)) (sf_S_nil)) fun r69 hp70 thp70 Hhp70 fhp70 ahp70 php70 => ?_
                 · intro q k h
                   match q, h with
                   | 0, h => cases h; exact bs_jR (bs_R.uq Hhp59 (g := 11) rfl)
                   | q + 1, h => cases h
                 obtain rfl := ahp70.1 rfl
                 have Fhp70 := sf_fr_tr Fhp59 (sf_fr_wider (W := [(11, 22, 22), (11, 29, 29), (132, 120, 252)]) rfl fhp70)
                 have h71 : sf_rd hp70 71 1 = some z67.toInt := (fhp70.2.2.1 _ (bs_R.uq Hhp59 (g := 132) (p := 71) rfl).1 _ (by rw [(bs_R.uq Hhp59 (g := 132) (p := 71) rfl).2]; rfl)).trans hz67
                 refine (show Ev _ 161 ([some (.ref 69), some (.int z4), o51, o52, o53], [], (0, 0), hp70) _ from ?_)
                 exact Ev.ret rfl rfl (by rw [hQ]; exact ⟨thp70, Hhp70, Fhp70, bs_anU, sf_S_nil⟩)
               · skip
                 refine Ev.step (j := 135) (s' := ([some (.ref 69), some (.int z4), o51, o52, o53], [.ref 69], (0, 0), hp59)) rfl rfl ?_
                 exact by
                  refine bs_getU (g := 11) (g1 := 132) rfl rfl Hhp59 (bs_R.uq Hhp59 (g := 11) rfl) (by decide) rfl rfl ?_
                  refine bs_lit (k := 180) rfl rfl fun z72 hz72 => ?_
                  refine Ev.step (j := 142) (s' := ([some (.ref 69), some (.int z4), o51, o52, o53], [.int z72, .ref 71, .int z72, .ref 71], (0, 0), hp59)) rfl rfl ?_
                  refine bs_ld (g := 132) 180 180 (-2147483648, 2147483647) rfl Hhp59 (bs_R.uq Hhp59 (g := 132) rfl) (by decide) rfl (by decide) (by decide) rfl (by decide) (by omega) (by omega) fun z73 hz73 lz73 gz73 => ?_
                  dsimp only at lz73 gz73
                  replace hz73 := bs_at hz73 (show z72.toInt.toNat = 180 by omega)
                  refine bs_lit (k := 1) rfl rfl fun z74 hz74 => ?_
                  refine Ev.step (j := 145) (s' := ([some (.ref 69), some (.int z4), o51, o52, o53], [.ref 69, .int z74, .int z73, .int z72, .ref 71], (0, 0), hp59)) rfl rfl ?_
                  refine Ev.step (j := 146) (s' := ([some (.ref 69), some (.int z4), o51, o52, o53], [.ref 69, .ref 69, .int z74, .int z73, .int z72, .ref 71], (0, 0), hp59)) rfl rfl ?_
                  exact by
                   refine bs_getU (g := 11) (g1 := 132) rfl rfl Hhp59 (bs_R.uq Hhp59 (g := 11) rfl) (by decide) rfl rfl ?_
                   refine bs_lit (k := 1) rfl rfl fun z75 hz75 => ?_
                   refine bs_ld (g := 132) 1 1 (0, 8) rfl Hhp59 (bs_R.uq Hhp59 (g := 132) rfl) (by decide) rfl (by decide) (by decide) rfl (by decide) (by omega) (by omega) fun z76 hz76 lz76 gz76 => ?_
                   dsimp only at lz76 gz76
                   replace hz76 := bs_at hz76 (show z75.toInt.toNat = 1 by omega)
                   have e77 : z76.toInt = z67.toInt := Option.some.inj (hz76.symm.trans hz67)
                   refine bs_call (K := kq_X11_draw_527597) [.ref 69, .int z76] [.int z74, .int z73, .int z72, .ref 71] rfl ct_X11_draw_527597 Hhp59 rfl rfl rfl (bs_rcv (g := 11) Hhp59 (bs_R.uq Hhp59 (g := 11) rfl) (by decide) rfl) rfl ?_ (sf_S_cons (sf_s1 (x := z76.toInt) rfl (by omega) (by omega)) (sf_S_nil)) fun r78 hp79 thp79 Hhp79 fhp79 ahp79 php79 => ?_
                   · intro q k h
                     match q, h with
                     | 0, h => cases h; exact bs_jR (bs_R.uq Hhp59 (g := 11) rfl)
                     | 1, h => cases h; exact sf_j0
                     | q + 2, h => cases h
                   obtain ⟨z80, rfl⟩ := bs_anI ahp79
                   have rgz80 := n_range z80
                   have Fhp79 := sf_fr_tr Fhp59 (sf_fr_wider (W := [(11, 22, 22), (11, 29, 29), (132, 120, 252)]) rfl fhp79)
                   have h81 : sf_rd hp79 71 120 = some pv1 := (fhp79.2.2.1 _ (bs_R.uq Hhp59 (g := 132) (p := 71) rfl).1 _ (by rw [(bs_R.uq Hhp59 (g := 132) (p := 71) rfl).2]; rfl)).trans h61
                   have h82 : sf_rd hp79 71 1 = some z67.toInt := (fhp79.2.2.1 _ (bs_R.uq Hhp59 (g := 132) (p := 71) rfl).1 _ (by rw [(bs_R.uq Hhp59 (g := 132) (p := 71) rfl).2]; rfl)).trans hz67
                   have h83 : sf_rd hp79 71 180 = some z73.toInt := (fhp79.2.2.1 _ (bs_R.uq Hhp59 (g := 132) (p := 71) rfl).1 _ (by rw [(bs_R.uq Hhp59 (g := 132) (p := 71) rfl).2]; rfl)).trans hz73
                   obtain ⟨uz80, vz80⟩ := bs_s1 (x := z80.toInt) rfl (php79 _ (List.mem_of_getElem? (i := 0) rfl))
                   refine (show Ev _ 154 ([some (.ref 69), some (.int z4), o51, o52, o53], [.int z80, .int z74, .int z73, .int z72, .ref 71], (0, 0), hp79) _ from ?_)
                   exact by
                    refine bs_any rfl fun z84 => ?_
                    have rz84 := n_range z84
                    refine bs_any rfl fun z85 => ?_
                    have rz85 := n_range z85
                    refine bs_st (W := [(132, 180, 180)]) (g := 132) 180 180 (-2147483648, 2147483647) rfl Hhp79 (bs_R.uq Hhp79 (g := 132) rfl) (by decide) rfl rfl (by decide) rfl rfl (by omega) (by omega) (by dsimp only; omega) (by dsimp only; omega) fun hp86 Hhp86 fhp86 rhp86 ehp86 qhp86 nhp86 => ?_
                    replace rhp86 := bs_at rhp86 (show z72.toInt.toNat = 180 by omega)
                    have Fhp86 := sf_fr_tr Fhp79 (sf_fr_wider (W := [(11, 22, 22), (11, 29, 29), (132, 120, 252)]) rfl fhp86)
                    have h87 : sf_rd hp86 71 120 = some pv1 := (ehp86 _ _ (Or.inr (by omega))).trans h81
                    have h88 : sf_rd hp86 71 1 = some z67.toInt := (ehp86 _ _ (Or.inr (by omega))).trans h82
                    refine Ev.step (j := 158) (s' := ([some (.ref 69), some (.int z4), o51, o52, o53], [.ref 69], (0, 0), hp86)) rfl rfl ?_
                    exact by
                     refine bs_call (K := kq_X11_day_h) [.ref 69] [] rfl ct_X11_day_h Hhp86 rfl rfl rfl (bs_rcv (g := 11) Hhp86 (bs_R.uq Hhp86 (g := 11) rfl) (by decide) rfl) rfl ?_ (sf_S_cons (sf_s1 (x := pv1) (show sf_v0 _ _ 399362 = _ from h87) (by omega) (by omega)) (sf_S_nil)) fun r89 hp90 thp90 Hhp90 fhp90 ahp90 php90 => ?_
                     · intro q k h
                       match q, h with
                       | 0, h => cases h; exact bs_jR (bs_R.uq Hhp86 (g := 11) rfl)
                       | q + 1, h => cases h
                     obtain rfl := ahp90.1 rfl
                     have Fhp90 := sf_fr_tr Fhp86 (sf_fr_wider (W := [(11, 22, 22), (11, 29, 29), (132, 120, 252)]) rfl fhp90)
                     have h91 : sf_rd hp90 71 1 = some z67.toInt := (fhp90.2.2.1 _ (bs_R.uq Hhp86 (g := 132) (p := 71) rfl).1 _ (by rw [(bs_R.uq Hhp86 (g := 132) (p := 71) rfl).2]; rfl)).trans h88
                     refine (show Ev _ 161 ([some (.ref 69), some (.int z4), o51, o52, o53], [], (0, 0), hp90) _ from ?_)
                     exact Ev.ret rfl rfl (by rw [hQ]; exact ⟨thp90, Hhp90, Fhp90, bs_anU, sf_S_nil⟩)
        refine Ev.step (j := 13) (s' := ([some (.ref 69), some (.int z4), none, none, none], [.ref 69], (0, 0), hp3)) rfl rfl ?_
        exact by
         refine Ev.step (j := 14) (s' := ([some (.ref 69), some (.int z4), none, none, none], [.ref 69, .ref 69], (0, 0), hp3)) rfl rfl ?_
         refine bs_getU (g := 11) (g1 := 132) rfl rfl Hhp3 (bs_R.uq Hhp3 (g := 11) rfl) (by decide) rfl rfl ?_
         refine bs_lit (k := 0) rfl rfl fun z92 hz92 => ?_
         refine bs_ld (g := 132) 0 0 (0, 6) rfl Hhp3 (bs_R.uq Hhp3 (g := 132) rfl) (by decide) rfl (by decide) (by decide) rfl (by decide) (by omega) (by omega) fun z93 hz93 lz93 gz93 => ?_
         dsimp only at lz93 gz93
         replace hz93 := bs_at hz93 (show z92.toInt.toNat = 0 by omega)
         have e94 : z93.toInt = pv0 := Option.some.inj (hz93.symm.trans h5)
         refine bs_call (K := kq_X11_draw_3d739f) [.ref 69, .int z93] [] rfl ct_X11_draw_3d739f Hhp3 rfl rfl rfl (bs_rcv (g := 11) Hhp3 (bs_R.uq Hhp3 (g := 11) rfl) (by decide) rfl) rfl ?_ (sf_S_cons (sf_s1 (x := z93.toInt) rfl (by omega) (by omega)) (sf_S_nil)) fun r95 hp96 thp96 Hhp96 fhp96 ahp96 php96 => ?_
         · intro q k h
           match q, h with
           | 0, h => cases h; exact bs_jR (bs_R.uq Hhp3 (g := 11) rfl)
           | 1, h => cases h; exact sf_j0
           | q + 2, h => cases h
         obtain ⟨z97, rfl⟩ := bs_anI ahp96
         have rgz97 := n_range z97
         have Fhp96 := sf_fr_tr Fhp3 (sf_fr_wider (W := [(11, 22, 22), (11, 29, 29), (132, 120, 252)]) rfl fhp96)
         have h98 : sf_rd hp96 71 0 = some pv0 := (fhp96.2.2.1 _ (bs_R.uq Hhp3 (g := 132) (p := 71) rfl).1 _ (by rw [(bs_R.uq Hhp3 (g := 132) (p := 71) rfl).2]; rfl)).trans h5
         have h99 : sf_rd hp96 71 120 = some pv1 := (fhp96.2.2.1 _ (bs_R.uq Hhp3 (g := 132) (p := 71) rfl).1 _ (by rw [(bs_R.uq Hhp3 (g := 132) (p := 71) rfl).2]; rfl)).trans h6
         obtain ⟨uz97, vz97⟩ := bs_s1 (x := z97.toInt) rfl (php96 _ (List.mem_of_getElem? (i := 0) rfl))
         refine (show Ev _ 22 ([some (.ref 69), some (.int z4), none, none, none], [.int z97], (0, 0), hp96) _ from ?_)
         exact by
          refine Ev.step (j := 23) (s' := ([some (.ref 69), some (.int z4), some (.int z97), none, none], [], (0, 0), hp96)) rfl rfl ?_
          refine Ev.step (j := 24) (s' := ([some (.ref 69), some (.int z4), some (.int z97), none, none], [.int z97], (0, 0), hp96)) rfl rfl ?_
          refine Ev.step (j := 25) (s' := ([some (.ref 69), some (.int z4), some (.int z97), none, none], [.ref 69, .int z97], (0, 0), hp96)) rfl rfl ?_
          refine bs_lit (k := 2) rfl rfl fun z100 hz100 => ?_
          refine bs_call (K := kq_X11_draw_d8ddf5) [.ref 69, .int z100] [.int z97] rfl ct_X11_draw_d8ddf5 Hhp96 rfl rfl rfl (bs_rcv (g := 11) Hhp96 (bs_R.uq Hhp96 (g := 11) rfl) (by decide) rfl) rfl ?_ (sf_S_cons (sf_s1 (x := z100.toInt) rfl (by omega) (by omega)) (sf_S_nil)) fun r101 hp102 thp102 Hhp102 fhp102 ahp102 php102 => ?_
          · intro q k h
            match q, h with
            | 0, h => cases h; exact bs_jR (bs_R.uq Hhp96 (g := 11) rfl)
            | 1, h => cases h; exact sf_j0
            | q + 2, h => cases h
          obtain ⟨z103, rfl⟩ := bs_anI ahp102
          have rgz103 := n_range z103
          have Fhp102 := sf_fr_tr Fhp96 (sf_fr_wider (W := [(11, 22, 22), (11, 29, 29), (132, 120, 252)]) rfl fhp102)
          have h104 : sf_rd hp102 71 0 = some pv0 := (fhp102.2.2.1 _ (bs_R.uq Hhp96 (g := 132) (p := 71) rfl).1 _ (by rw [(bs_R.uq Hhp96 (g := 132) (p := 71) rfl).2]; rfl)).trans h98
          have h105 : sf_rd hp102 71 120 = some pv1 := (fhp102.2.2.1 _ (bs_R.uq Hhp96 (g := 132) (p := 71) rfl).1 _ (by rw [(bs_R.uq Hhp96 (g := 132) (p := 71) rfl).2]; rfl)).trans h99
          obtain ⟨uz103, vz103⟩ := bs_s1 (x := z103.toInt) rfl (php102 _ (List.mem_of_getElem? (i := 0) rfl))
          refine (show Ev _ 29 ([some (.ref 69), some (.int z4), some (.int z97), none, none], [.int z103, .int z97], (0, 0), hp102) _ from ?_)
          exact by
           refine Ev.inlS (L := L_X11_cell) (nL := 2) rfl rfl (Nat.le_of_ble_eq_true rfl) ?_
           generalize hQ106 : (fun (o : ab_O) => Ev _ _ _ _) = Q106
           refine (show Ev (ab_T L_X11_cell) 0 ([some (.int z97), some (.int z103)], [], (0, 0), hp102) Q106 from ?_)
           refine bs_lit (k := 2) rfl rfl fun z107 hz107 => ?_
           refine Ev.step (j := 2) (s' := ([some (.int z97), some (.int z103)], [.int z97, .int z107], (0, 0), hp102)) rfl rfl ?_
           refine bs_mul (2) rfl (Or.inl hz107) (by rw [hz107]; omega) (by rw [hz107]; omega) fun z108 hz108 => ?_
           rw [hz107] at hz108
           refine Ev.step (j := 4) (s' := ([some (.int z97), some (.int z103)], [.int z103, .int z108], (0, 0), hp102)) rfl rfl ?_
           first | (refine bs_add rfl (by omega) (by omega) fun z109 hz109 => ?_) | (refine bs_any rfl fun z109 => ?_)
           have rz109 := n_range z109
           refine Ev.ret rfl rfl ?_
           rw [← hQ106]
           refine (show Ev _ 32 ([some (.ref 69), some (.int z4), some (.int z97), none, none], [.int z109], (0, 0), hp102) _ from ?_)
           exact by
            refine Ev.step (j := 33) (s' := ([some (.ref 69), some (.int z4), some (.int z97), some (.int z109), none], [], (0, 0), hp102)) rfl rfl ?_
            refine bs_lit (k := 1) rfl rfl fun z110 hz110 => ?_
            refine Ev.step (j := 35) (s' := ([some (.ref 69), some (.int z4), some (.int z97), some (.int z109), none], [.ref 69, .int z110], (0, 0), hp102)) rfl rfl ?_
            refine bs_lit (k := 20) rfl rfl fun z111 hz111 => ?_
            refine bs_call (K := kq_X11_draw_7d34e3) [.ref 69, .int z111] [.int z110] rfl ct_X11_draw_7d34e3 Hhp102 rfl rfl rfl (bs_rcv (g := 11) Hhp102 (bs_R.uq Hhp102 (g := 11) rfl) (by decide) rfl) rfl ?_ (sf_S_cons (sf_s1 (x := z111.toInt) rfl (by omega) (by omega)) (sf_S_nil)) fun r112 hp113 thp113 Hhp113 fhp113 ahp113 php113 => ?_
            · intro q k h
              match q, h with
              | 0, h => cases h; exact bs_jR (bs_R.uq Hhp102 (g := 11) rfl)
              | 1, h => cases h; exact sf_j0
              | q + 2, h => cases h
            obtain ⟨z114, rfl⟩ := bs_anI ahp113
            have rgz114 := n_range z114
            have Fhp113 := sf_fr_tr Fhp102 (sf_fr_wider (W := [(11, 22, 22), (11, 29, 29), (132, 120, 252)]) rfl fhp113)
            have h115 : sf_rd hp113 71 0 = some pv0 := (fhp113.2.2.1 _ (bs_R.uq Hhp102 (g := 132) (p := 71) rfl).1 _ (by rw [(bs_R.uq Hhp102 (g := 132) (p := 71) rfl).2]; rfl)).trans h104
            have h116 : sf_rd hp113 71 120 = some pv1 := (fhp113.2.2.1 _ (bs_R.uq Hhp102 (g := 132) (p := 71) rfl).1 _ (by rw [(bs_R.uq Hhp102 (g := 132) (p := 71) rfl).2]; rfl)).trans h105
            obtain ⟨uz114, vz114⟩ := bs_s1 (x := z114.toInt) rfl (php113 _ (List.mem_of_getElem? (i := 0) rfl))
            refine (show Ev _ 40 ([some (.ref 69), some (.int z4), some (.int z97), some (.int z109), none], [.int z114, .int z110], (0, 0), hp113) _ from ?_)
            first | (refine bs_add rfl (by omega) (by omega) fun z117 hz117 => ?_) | (refine bs_any rfl fun z117 => ?_)
            have rz117 := n_range z117
            refine Ev.step (j := 43) (s' := ([some (.ref 69), some (.int z4), some (.int z97), some (.int z109), some (.int z117)], [], (0, 0), hp113)) rfl rfl ?_
            exact by
             refine Ev.step (j := 44) (s' := ([some (.ref 69), some (.int z4), some (.int z97), some (.int z109), some (.int z117)], [.int z4], (0, 0), hp113)) rfl rfl ?_
             refine bs_ifne rfl (fun c118 => ?_) (fun c118 => ?_)
             · skip
               refine Ev.step (j := 65) (s' := ([some (.ref 69), some (.int z4), some (.int z97), some (.int z109), some (.int z117)], [.int z4], (0, 0), hp113)) rfl rfl ?_
               refine bs_lit (k := 1) rfl rfl fun z119 hz119 => ?_
               refine bs_ne rfl (fun c120 => ?_) (fun c120 => ?_)
               · skip
                 refine Ev.step (j := 88) (s' := ([some (.ref 69), some (.int z4), some (.int z97), some (.int z109), some (.int z117)], [.int z4], (0, 0), hp113)) rfl rfl ?_
                 refine bs_lit (k := 2) rfl rfl fun z121 hz121 => ?_
                 refine bs_ne rfl (fun c122 => ?_) (fun c122 => ?_)
                 · skip
                   exact cut50 (some (.int z97)) (some (.int z109)) (some (.int z117)) hp113 thp113 Hhp113 Fhp113 h116
                 · skip
                   have c123 : z4.toInt = 2 := by omega
                   refine Ev.step (j := 93) (s' := ([some (.ref 69), some (.int z4), some (.int z97), some (.int z109), some (.int z117)], [.ref 69], (0, 0), hp113)) rfl rfl ?_
                   exact by
                    refine Ev.step (j := 94) (s' := ([some (.ref 69), some (.int z4), some (.int z97), some (.int z109), some (.int z117)], [.int z109, .ref 69], (0, 0), hp113)) rfl rfl ?_
                    refine Ev.step (j := 96) (s' := ([some (.ref 69), some (.int z4), some (.int z97), some (.int z109), some (.int z117)], [.int z117, .int z109, .ref 69], (0, 0), hp113)) rfl rfl ?_
                    refine Ev.inl (L := L_X11_whyHoard) (nL := 3) rfl (bs_rcv (g := 11) Hhp113 (bs_R.uq Hhp113 (g := 11) rfl) (by decide) rfl) rfl (Nat.le_of_ble_eq_true rfl) ?_
                    generalize hQ124 : (fun (o : ab_O) => Ev _ _ _ _) = Q124
                    refine (show Ev (ab_T L_X11_whyHoard) 0 ([some (.ref 69), some (.int z109), some (.int z117)], [], (0, 0), hp113) Q124 from ?_)
                    refine Ev.step (j := 1) (s' := ([some (.ref 69), some (.int z109), some (.int z117)], [.ref 69], (0, 0), hp113)) rfl rfl ?_
                    refine bs_getU (g := 11) (g1 := 132) rfl rfl Hhp113 (bs_R.uq Hhp113 (g := 11) rfl) (by decide) rfl rfl ?_
                    refine bs_lit (k := 124) rfl rfl fun z125 hz125 => ?_
                    refine Ev.step (j := 7) (s' := ([some (.ref 69), some (.int z109), some (.int z117)], [.int z109, .int z125, .ref 71], (0, 0), hp113)) rfl rfl ?_
                    first | (refine bs_add rfl (by omega) (by omega) fun z126 hz126 => ?_) | (refine bs_any rfl fun z126 => ?_)
                    have rz126 := n_range z126
                    refine bs_ld (g := 132) 124 135 (0, 999) rfl Hhp113 (bs_R.uq Hhp113 (g := 132) rfl) (by decide) rfl (by decide) (by decide) rfl (by decide) (by omega) (by omega) fun z127 hz127 lz127 gz127 => ?_
                    dsimp only at lz127 gz127
                    refine Ev.step (j := 10) (s' := ([some (.ref 69), some (.int z109), some (.int z117)], [.int z117, .int z127], (0, 0), hp113)) rfl rfl ?_
                    exact by
                     refine bs_ge rfl (fun c128 => ?_) (fun c128 => ?_)
                     · skip
                       refine bs_lit (k := 0) rfl rfl fun z129 hz129 => ?_
                       refine Ev.ret rfl rfl ?_
                       rw [← hQ124]
                       refine (show Ev _ 99 ([some (.ref 69), some (.int z4), some (.int z97), some (.int z109), some (.int z117)], [.int z129], (0, 0), hp113) _ from ?_)
                       refine bs_ifne rfl (fun c130 => ?_) (fun c130 => ?_)
                       · exfalso; omega
                       · skip
                         refine Ev.step (j := 103) (s' := ([some (.ref 69), some (.int z4), some (.int z97), some (.int z109), some (.int z117)], [.ref 69], (0, 0), hp113)) rfl rfl ?_
                         refine bs_getU (g := 11) (g1 := 132) rfl rfl Hhp113 (bs_R.uq Hhp113 (g := 11) rfl) (by decide) rfl rfl ?_
                         refine bs_lit (k := 124) rfl rfl fun z131 hz131 => ?_
                         exact by
                          refine Ev.step (j := 109) (s' := ([some (.ref 69), some (.int z4), some (.int z97), some (.int z109), some (.int z117)], [.int z109, .int z131, .ref 71], (0, 0), hp113)) rfl rfl ?_
                          first | (refine bs_add rfl (by omega) (by omega) fun z132 hz132 => ?_) | (refine bs_any rfl fun z132 => ?_)
                          have rz132 := n_range z132
                          refine Ev.step (j := 111) (s' := ([some (.ref 69), some (.int z4), some (.int z97), some (.int z109), some (.int z117)], [.int z132, .ref 71, .int z132, .ref 71], (0, 0), hp113)) rfl rfl ?_
                          refine bs_ld (g := 132) 124 135 (0, 999) rfl Hhp113 (bs_R.uq Hhp113 (g := 132) rfl) (by decide) rfl (by decide) (by decide) rfl (by decide) (by omega) (by omega) fun z133 hz133 lz133 gz133 => ?_
                          dsimp only at lz133 gz133
                          have e134 : z133.toInt = z127.toInt := Option.some.inj ((bs_at hz133 (by omega)).symm.trans (rfl.trans hz127))
                          refine Ev.step (j := 114) (s' := ([some (.ref 69), some (.int z4), some (.int z97), some (.int z109), some (.int z117)], [.int z117, .int z133, .int z132, .ref 71], (0, 0), hp113)) rfl rfl ?_
                          first | (refine bs_sub rfl (by omega) (by omega) fun z135 hz135 => ?_) | (refine bs_any rfl fun z135 => ?_)
                          have rz135 := n_range z135
                          refine bs_st (W := [(132, 124, 135)]) (g := 132) 124 135 (0, 999) rfl Hhp113 (bs_R.uq Hhp113 (g := 132) rfl) (by decide) rfl rfl (by decide) rfl rfl (by omega) (by omega) (by dsimp only; omega) (by dsimp only; omega) fun hp136 Hhp136 fhp136 rhp136 ehp136 qhp136 nhp136 => ?_
                          have Fhp136 := sf_fr_tr Fhp113 (sf_fr_wider (W := [(11, 22, 22), (11, 29, 29), (132, 120, 252)]) rfl fhp136)
                          have h137 : sf_rd hp136 71 0 = some pv0 := (ehp136 _ _ (Or.inr (by omega))).trans h115
                          have h138 : sf_rd hp136 71 120 = some pv1 := (ehp136 _ _ (Or.inr (by omega))).trans h116
                          exact cut50 (some (.int z97)) (some (.int z109)) (some (.int z117)) hp136 thp113 Hhp136 Fhp136 h138
                     · skip
                       refine bs_lit (k := 1) rfl rfl fun z139 hz139 => ?_
                       exact by
                        refine Ev.step (j := 18) (s' := ([some (.ref 69), some (.int z109), some (.int z117)], [.int z139], (0, 0), hp113)) rfl rfl ?_
                        refine Ev.ret rfl rfl ?_
                        rw [← hQ124]
                        refine (show Ev _ 99 ([some (.ref 69), some (.int z4), some (.int z97), some (.int z109), some (.int z117)], [.int z139], (0, 0), hp113) _ from ?_)
                        refine bs_ifne rfl (fun c140 => ?_) (fun c140 => ?_)
                        · skip
                          exact cut50 (some (.int z97)) (some (.int z109)) (some (.int z117)) hp113 thp113 Hhp113 Fhp113 h116
                        · exfalso; omega
               · skip
                 have c141 : z4.toInt = 1 := by omega
                 refine Ev.step (j := 70) (s' := ([some (.ref 69), some (.int z4), some (.int z97), some (.int z109), some (.int z117)], [.ref 69], (0, 0), hp113)) rfl rfl ?_
                 exact by
                  refine Ev.step (j := 71) (s' := ([some (.ref 69), some (.int z4), some (.int z97), some (.int z109), some (.int z117)], [.int z109, .ref 69], (0, 0), hp113)) rfl rfl ?_
                  refine Ev.step (j := 73) (s' := ([some (.ref 69), some (.int z4), some (.int z97), some (.int z109), some (.int z117)], [.int z117, .int z109, .ref 69], (0, 0), hp113)) rfl rfl ?_
                  refine Ev.inl (L := L_X11_whyBare) (nL := 3) rfl (bs_rcv (g := 11) Hhp113 (bs_R.uq Hhp113 (g := 11) rfl) (by decide) rfl) rfl (Nat.le_of_ble_eq_true rfl) ?_
                  generalize hQ142 : (fun (o : ab_O) => Ev _ _ _ _) = Q142
                  refine (show Ev (ab_T L_X11_whyBare) 0 ([some (.ref 69), some (.int z109), some (.int z117)], [], (0, 0), hp113) Q142 from ?_)
                  refine Ev.step (j := 1) (s' := ([some (.ref 69), some (.int z109), some (.int z117)], [.ref 69], (0, 0), hp113)) rfl rfl ?_
                  refine bs_getU (g := 11) (g1 := 132) rfl rfl Hhp113 (bs_R.uq Hhp113 (g := 11) rfl) (by decide) rfl rfl ?_
                  refine bs_lit (k := 136) rfl rfl fun z143 hz143 => ?_
                  refine Ev.step (j := 8) (s' := ([some (.ref 69), some (.int z109), some (.int z117)], [.int z109, .int z143, .ref 71], (0, 0), hp113)) rfl rfl ?_
                  first | (refine bs_add rfl (by omega) (by omega) fun z144 hz144 => ?_) | (refine bs_any rfl fun z144 => ?_)
                  have rz144 := n_range z144
                  refine bs_ld (g := 132) 136 147 (-2147483648, 2147483647) rfl Hhp113 (bs_R.uq Hhp113 (g := 132) rfl) (by decide) rfl (by decide) (by decide) rfl (by decide) (by omega) (by omega) fun z145 hz145 lz145 gz145 => ?_
                  dsimp only at lz145 gz145
                  refine Ev.step (j := 11) (s' := ([some (.ref 69), some (.int z109), some (.int z117)], [.int z117, .int z145], (0, 0), hp113)) rfl rfl ?_
                  exact by
                   refine bs_ge rfl (fun c146 => ?_) (fun c146 => ?_)
                   · skip
                     refine Ev.step (j := 19) (s' := ([some (.ref 69), some (.int z109), some (.int z117)], [.ref 69], (0, 0), hp113)) rfl rfl ?_
                     refine bs_getU (g := 11) (g1 := 132) rfl rfl Hhp113 (bs_R.uq Hhp113 (g := 11) rfl) (by decide) rfl rfl ?_
                     refine bs_lit (k := 124) rfl rfl fun z147 hz147 => ?_
                     refine Ev.step (j := 25) (s' := ([some (.ref 69), some (.int z109), some (.int z117)], [.int z109, .int z147, .ref 71], (0, 0), hp113)) rfl rfl ?_
                     first | (refine bs_add rfl (by omega) (by omega) fun z148 hz148 => ?_) | (refine bs_any rfl fun z148 => ?_)
                     have rz148 := n_range z148
                     refine bs_ld (g := 132) 124 135 (0, 999) rfl Hhp113 (bs_R.uq Hhp113 (g := 132) rfl) (by decide) rfl (by decide) (by decide) rfl (by decide) (by omega) (by omega) fun z149 hz149 lz149 gz149 => ?_
                     dsimp only at lz149 gz149
                     refine Ev.step (j := 28) (s' := ([some (.ref 69), some (.int z109), some (.int z117)], [.int z117, .int z149], (0, 0), hp113)) rfl rfl ?_
                     first | (refine bs_add rfl (by omega) (by omega) fun z150 hz150 => ?_) | (refine bs_any rfl fun z150 => ?_)
                     have rz150 := n_range z150
                     refine bs_lit (k := 999) rfl rfl fun z151 hz151 => ?_
                     exact by
                      refine bs_le rfl (fun c152 => ?_) (fun c152 => ?_)
                      · skip
                        refine bs_lit (k := 0) rfl rfl fun z153 hz153 => ?_
                        refine Ev.ret rfl rfl ?_
                        rw [← hQ142]
                        refine (show Ev _ 76 ([some (.ref 69), some (.int z4), some (.int z97), some (.int z109), some (.int z117)], [.int z153], (0, 0), hp113) _ from ?_)
                        refine bs_ifne rfl (fun c154 => ?_) (fun c154 => ?_)
                        · exfalso; omega
                        · skip
                          refine Ev.step (j := 80) (s' := ([some (.ref 69), some (.int z4), some (.int z97), some (.int z109), some (.int z117)], [.ref 69], (0, 0), hp113)) rfl rfl ?_
                          refine Ev.step (j := 81) (s' := ([some (.ref 69), some (.int z4), some (.int z97), some (.int z109), some (.int z117)], [.int z109, .ref 69], (0, 0), hp113)) rfl rfl ?_
                          refine Ev.step (j := 83) (s' := ([some (.ref 69), some (.int z4), some (.int z97), some (.int z109), some (.int z117)], [.int z117, .int z109, .ref 69], (0, 0), hp113)) rfl rfl ?_
                          exact by
                           refine bs_neg rfl (by omega) fun z155 hz155 => ?_
                           refine Ev.inl (L := L_X11_hoards) (nL := 3) rfl (bs_rcv (g := 11) Hhp113 (bs_R.uq Hhp113 (g := 11) rfl) (by decide) rfl) rfl (Nat.le_of_ble_eq_true rfl) ?_
                           generalize hQ156 : (fun (o : ab_O) => Ev _ _ _ _) = Q156
                           refine (show Ev (ab_T L_X11_hoards) 0 ([some (.ref 69), some (.int z109), some (.int z155)], [], (0, 0), hp113) Q156 from ?_)
                           refine Ev.step (j := 1) (s' := ([some (.ref 69), some (.int z109), some (.int z155)], [.ref 69], (0, 0), hp113)) rfl rfl ?_
                           refine bs_getU (g := 11) (g1 := 132) rfl rfl Hhp113 (bs_R.uq Hhp113 (g := 11) rfl) (by decide) rfl rfl ?_
                           refine bs_lit (k := 124) rfl rfl fun z157 hz157 => ?_
                           refine Ev.step (j := 7) (s' := ([some (.ref 69), some (.int z109), some (.int z155)], [.int z109, .int z157, .ref 71], (0, 0), hp113)) rfl rfl ?_
                           first | (refine bs_add rfl (by omega) (by omega) fun z158 hz158 => ?_) | (refine bs_any rfl fun z158 => ?_)
                           have rz158 := n_range z158
                           refine Ev.step (j := 9) (s' := ([some (.ref 69), some (.int z109), some (.int z155)], [.int z158, .ref 71, .int z158, .ref 71], (0, 0), hp113)) rfl rfl ?_
                           exact by
                            refine bs_ld (g := 132) 124 135 (0, 999) rfl Hhp113 (bs_R.uq Hhp113 (g := 132) rfl) (by decide) rfl (by decide) (by decide) rfl (by decide) (by omega) (by omega) fun z159 hz159 lz159 gz159 => ?_
                            dsimp only at lz159 gz159
                            have e160 : z159.toInt = z149.toInt := Option.some.inj ((bs_at hz159 (by omega)).symm.trans (rfl.trans hz149))
                            refine Ev.step (j := 11) (s' := ([some (.ref 69), some (.int z109), some (.int z155)], [.int z155, .int z159, .int z158, .ref 71], (0, 0), hp113)) rfl rfl ?_
                            first | (refine bs_sub rfl (by omega) (by omega) fun z161 hz161 => ?_) | (refine bs_any rfl fun z161 => ?_)
                            have rz161 := n_range z161
                            refine bs_st (W := [(132, 124, 135)]) (g := 132) 124 135 (0, 999) rfl Hhp113 (bs_R.uq Hhp113 (g := 132) rfl) (by decide) rfl rfl (by decide) rfl rfl (by omega) (by omega) (by dsimp only; omega) (by dsimp only; omega) fun hp162 Hhp162 fhp162 rhp162 ehp162 qhp162 nhp162 => ?_
                            have Fhp162 := sf_fr_tr Fhp113 (sf_fr_wider (W := [(11, 22, 22), (11, 29, 29), (132, 120, 252)]) rfl fhp162)
                            have h163 : sf_rd hp162 71 0 = some pv0 := (ehp162 _ _ (Or.inr (by omega))).trans h115
                            have h164 : sf_rd hp162 71 120 = some pv1 := (ehp162 _ _ (Or.inr (by omega))).trans h116
                            refine Ev.step (j := 14) (s' := ([some (.ref 69), some (.int z109), some (.int z155)], [.ref 69], (0, 0), hp162)) rfl rfl ?_
                            exact by
                             refine bs_getU (g := 11) (g1 := 132) rfl rfl Hhp162 (bs_R.uq Hhp162 (g := 11) rfl) (by decide) rfl rfl ?_
                             refine bs_lit (k := 136) rfl rfl fun z165 hz165 => ?_
                             refine Ev.step (j := 21) (s' := ([some (.ref 69), some (.int z109), some (.int z155)], [.int z109, .int z165, .ref 71], (0, 0), hp162)) rfl rfl ?_
                             first | (refine bs_add rfl (by omega) (by omega) fun z166 hz166 => ?_) | (refine bs_any rfl fun z166 => ?_)
                             have rz166 := n_range z166
                             refine Ev.step (j := 23) (s' := ([some (.ref 69), some (.int z109), some (.int z155)], [.int z166, .ref 71, .int z166, .ref 71], (0, 0), hp162)) rfl rfl ?_
                             refine bs_ld (g := 132) 136 147 (-2147483648, 2147483647) rfl Hhp162 (bs_R.uq Hhp162 (g := 132) rfl) (by decide) rfl (by decide) (by decide) rfl (by decide) (by omega) (by omega) fun z167 hz167 lz167 gz167 => ?_
                             dsimp only at lz167 gz167
                             refine Ev.step (j := 25) (s' := ([some (.ref 69), some (.int z109), some (.int z155)], [.int z155, .int z167, .int z166, .ref 71], (0, 0), hp162)) rfl rfl ?_
                             first | (refine bs_add rfl (by omega) (by omega) fun z168 hz168 => ?_) | (refine bs_any rfl fun z168 => ?_)
                             have rz168 := n_range z168
                             refine bs_st (W := [(132, 136, 147)]) (g := 132) 136 147 (-2147483648, 2147483647) rfl Hhp162 (bs_R.uq Hhp162 (g := 132) rfl) (by decide) rfl rfl (by decide) rfl rfl (by omega) (by omega) (by dsimp only; omega) (by dsimp only; omega) fun hp169 Hhp169 fhp169 rhp169 ehp169 qhp169 nhp169 => ?_
                             have Fhp169 := sf_fr_tr Fhp162 (sf_fr_wider (W := [(11, 22, 22), (11, 29, 29), (132, 120, 252)]) rfl fhp169)
                             have h170 : sf_rd hp169 71 0 = some pv0 := (ehp169 _ _ (Or.inr (by omega))).trans h163
                             have h171 : sf_rd hp169 71 120 = some pv1 := (ehp169 _ _ (Or.inr (by omega))).trans h164
                             refine Ev.ret rfl rfl ?_
                             rw [← hQ156]
                             refine (show Ev _ 87 ([some (.ref 69), some (.int z4), some (.int z97), some (.int z109), some (.int z117)], [], (0, 0), hp169) _ from ?_)
                             exact by
                              refine Ev.step (j := 88) (s' := ([some (.ref 69), some (.int z4), some (.int z97), some (.int z109), some (.int z117)], [.int z4], (0, 0), hp169)) rfl rfl ?_
                              refine bs_lit (k := 2) rfl rfl fun z172 hz172 => ?_
                              refine bs_ne rfl (fun c173 => ?_) (fun c173 => ?_)
                              · skip
                                exact cut50 (some (.int z97)) (some (.int z109)) (some (.int z117)) hp169 thp113 Hhp169 Fhp169 h171
                              · exfalso; omega
                      · skip
                        refine bs_lit (k := 2) rfl rfl fun z174 hz174 => ?_
                        exact by
                         refine Ev.step (j := 40) (s' := ([some (.ref 69), some (.int z109), some (.int z117)], [.int z174], (0, 0), hp113)) rfl rfl ?_
                         refine Ev.ret rfl rfl ?_
                         rw [← hQ142]
                         refine (show Ev _ 76 ([some (.ref 69), some (.int z4), some (.int z97), some (.int z109), some (.int z117)], [.int z174], (0, 0), hp113) _ from ?_)
                         refine bs_ifne rfl (fun c175 => ?_) (fun c175 => ?_)
                         · skip
                           refine Ev.step (j := 88) (s' := ([some (.ref 69), some (.int z4), some (.int z97), some (.int z109), some (.int z117)], [.int z4], (0, 0), hp113)) rfl rfl ?_
                           refine bs_lit (k := 2) rfl rfl fun z176 hz176 => ?_
                           refine bs_ne rfl (fun c177 => ?_) (fun c177 => ?_)
                           · skip
                             exact cut50 (some (.int z97)) (some (.int z109)) (some (.int z117)) hp113 thp113 Hhp113 Fhp113 h116
                           · exfalso; omega
                         · exfalso; omega
                   · skip
                     refine bs_lit (k := 1) rfl rfl fun z178 hz178 => ?_
                     exact by
                      refine Ev.step (j := 40) (s' := ([some (.ref 69), some (.int z109), some (.int z117)], [.int z178], (0, 0), hp113)) rfl rfl ?_
                      refine Ev.ret rfl rfl ?_
                      rw [← hQ142]
                      refine (show Ev _ 76 ([some (.ref 69), some (.int z4), some (.int z97), some (.int z109), some (.int z117)], [.int z178], (0, 0), hp113) _ from ?_)
                      refine bs_ifne rfl (fun c179 => ?_) (fun c179 => ?_)
                      · skip
                        refine Ev.step (j := 88) (s' := ([some (.ref 69), some (.int z4), some (.int z97), some (.int z109), some (.int z117)], [.int z4], (0, 0), hp113)) rfl rfl ?_
                        refine bs_lit (k := 2) rfl rfl fun z180 hz180 => ?_
                        refine bs_ne rfl (fun c181 => ?_) (fun c181 => ?_)
                        · skip
                          exact cut50 (some (.int z97)) (some (.int z109)) (some (.int z117)) hp113 thp113 Hhp113 Fhp113 h116
                        · exfalso; omega
                      · exfalso; omega
             · skip
               have c182 : z4.toInt = 0 := by omega
               refine Ev.step (j := 48) (s' := ([some (.ref 69), some (.int z4), some (.int z97), some (.int z109), some (.int z117)], [.ref 69], (0, 0), hp113)) rfl rfl ?_
               exact by
                refine Ev.step (j := 49) (s' := ([some (.ref 69), some (.int z4), some (.int z97), some (.int z109), some (.int z117)], [.int z109, .ref 69], (0, 0), hp113)) rfl rfl ?_
                refine Ev.step (j := 51) (s' := ([some (.ref 69), some (.int z4), some (.int z97), some (.int z109), some (.int z117)], [.int z117, .int z109, .ref 69], (0, 0), hp113)) rfl rfl ?_
                refine Ev.inl (L := L_X11_whyHoard) (nL := 3) rfl (bs_rcv (g := 11) Hhp113 (bs_R.uq Hhp113 (g := 11) rfl) (by decide) rfl) rfl (Nat.le_of_ble_eq_true rfl) ?_
                generalize hQ183 : (fun (o : ab_O) => Ev _ _ _ _) = Q183
                refine (show Ev (ab_T L_X11_whyHoard) 0 ([some (.ref 69), some (.int z109), some (.int z117)], [], (0, 0), hp113) Q183 from ?_)
                refine Ev.step (j := 1) (s' := ([some (.ref 69), some (.int z109), some (.int z117)], [.ref 69], (0, 0), hp113)) rfl rfl ?_
                refine bs_getU (g := 11) (g1 := 132) rfl rfl Hhp113 (bs_R.uq Hhp113 (g := 11) rfl) (by decide) rfl rfl ?_
                refine bs_lit (k := 124) rfl rfl fun z184 hz184 => ?_
                refine Ev.step (j := 7) (s' := ([some (.ref 69), some (.int z109), some (.int z117)], [.int z109, .int z184, .ref 71], (0, 0), hp113)) rfl rfl ?_
                first | (refine bs_add rfl (by omega) (by omega) fun z185 hz185 => ?_) | (refine bs_any rfl fun z185 => ?_)
                have rz185 := n_range z185
                refine bs_ld (g := 132) 124 135 (0, 999) rfl Hhp113 (bs_R.uq Hhp113 (g := 132) rfl) (by decide) rfl (by decide) (by decide) rfl (by decide) (by omega) (by omega) fun z186 hz186 lz186 gz186 => ?_
                dsimp only at lz186 gz186
                refine Ev.step (j := 10) (s' := ([some (.ref 69), some (.int z109), some (.int z117)], [.int z117, .int z186], (0, 0), hp113)) rfl rfl ?_
                exact by
                 refine bs_ge rfl (fun c187 => ?_) (fun c187 => ?_)
                 · skip
                   refine bs_lit (k := 0) rfl rfl fun z188 hz188 => ?_
                   refine Ev.ret rfl rfl ?_
                   rw [← hQ183]
                   refine (show Ev _ 54 ([some (.ref 69), some (.int z4), some (.int z97), some (.int z109), some (.int z117)], [.int z188], (0, 0), hp113) _ from ?_)
                   refine bs_ifne rfl (fun c189 => ?_) (fun c189 => ?_)
                   · exfalso; omega
                   · skip
                     refine Ev.step (j := 58) (s' := ([some (.ref 69), some (.int z4), some (.int z97), some (.int z109), some (.int z117)], [.ref 69], (0, 0), hp113)) rfl rfl ?_
                     refine Ev.step (j := 59) (s' := ([some (.ref 69), some (.int z4), some (.int z97), some (.int z109), some (.int z117)], [.int z109, .ref 69], (0, 0), hp113)) rfl rfl ?_
                     refine Ev.step (j := 61) (s' := ([some (.ref 69), some (.int z4), some (.int z97), some (.int z109), some (.int z117)], [.int z117, .int z109, .ref 69], (0, 0), hp113)) rfl rfl ?_
                     exact by
                      refine Ev.inl (L := L_X11_hoards) (nL := 3) rfl (bs_rcv (g := 11) Hhp113 (bs_R.uq Hhp113 (g := 11) rfl) (by decide) rfl) rfl (Nat.le_of_ble_eq_true rfl) ?_
                      generalize hQ190 : (fun (o : ab_O) => Ev _ _ _ _) = Q190
                      refine (show Ev (ab_T L_X11_hoards) 0 ([some (.ref 69), some (.int z109), some (.int z117)], [], (0, 0), hp113) Q190 from ?_)
                      refine Ev.step (j := 1) (s' := ([some (.ref 69), some (.int z109), some (.int z117)], [.ref 69], (0, 0), hp113)) rfl rfl ?_
                      refine bs_getU (g := 11) (g1 := 132) rfl rfl Hhp113 (bs_R.uq Hhp113 (g := 11) rfl) (by decide) rfl rfl ?_
                      refine bs_lit (k := 124) rfl rfl fun z191 hz191 => ?_
                      refine Ev.step (j := 7) (s' := ([some (.ref 69), some (.int z109), some (.int z117)], [.int z109, .int z191, .ref 71], (0, 0), hp113)) rfl rfl ?_
                      first | (refine bs_add rfl (by omega) (by omega) fun z192 hz192 => ?_) | (refine bs_any rfl fun z192 => ?_)
                      have rz192 := n_range z192
                      refine Ev.step (j := 9) (s' := ([some (.ref 69), some (.int z109), some (.int z117)], [.int z192, .ref 71, .int z192, .ref 71], (0, 0), hp113)) rfl rfl ?_
                      exact by
                       refine bs_ld (g := 132) 124 135 (0, 999) rfl Hhp113 (bs_R.uq Hhp113 (g := 132) rfl) (by decide) rfl (by decide) (by decide) rfl (by decide) (by omega) (by omega) fun z193 hz193 lz193 gz193 => ?_
                       dsimp only at lz193 gz193
                       have e194 : z193.toInt = z186.toInt := Option.some.inj ((bs_at hz193 (by omega)).symm.trans (rfl.trans hz186))
                       refine Ev.step (j := 11) (s' := ([some (.ref 69), some (.int z109), some (.int z117)], [.int z117, .int z193, .int z192, .ref 71], (0, 0), hp113)) rfl rfl ?_
                       first | (refine bs_sub rfl (by omega) (by omega) fun z195 hz195 => ?_) | (refine bs_any rfl fun z195 => ?_)
                       have rz195 := n_range z195
                       refine bs_st (W := [(132, 124, 135)]) (g := 132) 124 135 (0, 999) rfl Hhp113 (bs_R.uq Hhp113 (g := 132) rfl) (by decide) rfl rfl (by decide) rfl rfl (by omega) (by omega) (by dsimp only; omega) (by dsimp only; omega) fun hp196 Hhp196 fhp196 rhp196 ehp196 qhp196 nhp196 => ?_
                       have Fhp196 := sf_fr_tr Fhp113 (sf_fr_wider (W := [(11, 22, 22), (11, 29, 29), (132, 120, 252)]) rfl fhp196)
                       have h197 : sf_rd hp196 71 0 = some pv0 := (ehp196 _ _ (Or.inr (by omega))).trans h115
                       have h198 : sf_rd hp196 71 120 = some pv1 := (ehp196 _ _ (Or.inr (by omega))).trans h116
                       refine Ev.step (j := 14) (s' := ([some (.ref 69), some (.int z109), some (.int z117)], [.ref 69], (0, 0), hp196)) rfl rfl ?_
                       exact by
                        refine bs_getU (g := 11) (g1 := 132) rfl rfl Hhp196 (bs_R.uq Hhp196 (g := 11) rfl) (by decide) rfl rfl ?_
                        refine bs_lit (k := 136) rfl rfl fun z199 hz199 => ?_
                        refine Ev.step (j := 21) (s' := ([some (.ref 69), some (.int z109), some (.int z117)], [.int z109, .int z199, .ref 71], (0, 0), hp196)) rfl rfl ?_
                        first | (refine bs_add rfl (by omega) (by omega) fun z200 hz200 => ?_) | (refine bs_any rfl fun z200 => ?_)
                        have rz200 := n_range z200
                        refine Ev.step (j := 23) (s' := ([some (.ref 69), some (.int z109), some (.int z117)], [.int z200, .ref 71, .int z200, .ref 71], (0, 0), hp196)) rfl rfl ?_
                        refine bs_ld (g := 132) 136 147 (-2147483648, 2147483647) rfl Hhp196 (bs_R.uq Hhp196 (g := 132) rfl) (by decide) rfl (by decide) (by decide) rfl (by decide) (by omega) (by omega) fun z201 hz201 lz201 gz201 => ?_
                        dsimp only at lz201 gz201
                        refine Ev.step (j := 25) (s' := ([some (.ref 69), some (.int z109), some (.int z117)], [.int z117, .int z201, .int z200, .ref 71], (0, 0), hp196)) rfl rfl ?_
                        first | (refine bs_add rfl (by omega) (by omega) fun z202 hz202 => ?_) | (refine bs_any rfl fun z202 => ?_)
                        have rz202 := n_range z202
                        refine bs_st (W := [(132, 136, 147)]) (g := 132) 136 147 (-2147483648, 2147483647) rfl Hhp196 (bs_R.uq Hhp196 (g := 132) rfl) (by decide) rfl rfl (by decide) rfl rfl (by omega) (by omega) (by dsimp only; omega) (by dsimp only; omega) fun hp203 Hhp203 fhp203 rhp203 ehp203 qhp203 nhp203 => ?_
                        have Fhp203 := sf_fr_tr Fhp196 (sf_fr_wider (W := [(11, 22, 22), (11, 29, 29), (132, 120, 252)]) rfl fhp203)
                        have h204 : sf_rd hp203 71 0 = some pv0 := (ehp203 _ _ (Or.inr (by omega))).trans h197
                        have h205 : sf_rd hp203 71 120 = some pv1 := (ehp203 _ _ (Or.inr (by omega))).trans h198
                        refine Ev.ret rfl rfl ?_
                        rw [← hQ190]
                        refine (show Ev _ 64 ([some (.ref 69), some (.int z4), some (.int z97), some (.int z109), some (.int z117)], [], (0, 0), hp203) _ from ?_)
                        exact by
                         refine Ev.step (j := 65) (s' := ([some (.ref 69), some (.int z4), some (.int z97), some (.int z109), some (.int z117)], [.int z4], (0, 0), hp203)) rfl rfl ?_
                         refine bs_lit (k := 1) rfl rfl fun z206 hz206 => ?_
                         refine bs_ne rfl (fun c207 => ?_) (fun c207 => ?_)
                         · skip
                           refine Ev.step (j := 88) (s' := ([some (.ref 69), some (.int z4), some (.int z97), some (.int z109), some (.int z117)], [.int z4], (0, 0), hp203)) rfl rfl ?_
                           refine bs_lit (k := 2) rfl rfl fun z208 hz208 => ?_
                           refine bs_ne rfl (fun c209 => ?_) (fun c209 => ?_)
                           · skip
                             exact cut50 (some (.int z97)) (some (.int z109)) (some (.int z117)) hp203 thp113 Hhp203 Fhp203 h205
                           · exfalso; omega
                         · exfalso; omega
                 · skip
                   refine bs_lit (k := 1) rfl rfl fun z210 hz210 => ?_
                   exact by
                    refine Ev.step (j := 18) (s' := ([some (.ref 69), some (.int z109), some (.int z117)], [.int z210], (0, 0), hp113)) rfl rfl ?_
                    refine Ev.ret rfl rfl ?_
                    rw [← hQ183]
                    refine (show Ev _ 54 ([some (.ref 69), some (.int z4), some (.int z97), some (.int z109), some (.int z117)], [.int z210], (0, 0), hp113) _ from ?_)
                    refine bs_ifne rfl (fun c211 => ?_) (fun c211 => ?_)
                    · skip
                      refine Ev.step (j := 65) (s' := ([some (.ref 69), some (.int z4), some (.int z97), some (.int z109), some (.int z117)], [.int z4], (0, 0), hp113)) rfl rfl ?_
                      refine bs_lit (k := 1) rfl rfl fun z212 hz212 => ?_
                      refine bs_ne rfl (fun c213 => ?_) (fun c213 => ?_)
                      · skip
                        refine Ev.step (j := 88) (s' := ([some (.ref 69), some (.int z4), some (.int z97), some (.int z109), some (.int z117)], [.int z4], (0, 0), hp113)) rfl rfl ?_
                        exact by
                         refine bs_lit (k := 2) rfl rfl fun z214 hz214 => ?_
                         refine bs_ne rfl (fun c215 => ?_) (fun c215 => ?_)
                         · skip
                           exact cut50 (some (.int z97)) (some (.int z109)) (some (.int z117)) hp113 thp113 Hhp113 Fhp113 h116
                         · exfalso; omega
                      · exfalso; omega
                    · exfalso; omega
end
-- 63.b03.lean.txt
section
def kq_X9_step_eafd3e : sf_Q := ([(1, 9, 0)], [], none, [], [(9, 4, 8)])
def kc_X9_step_eafd3e : List (Nat × sf_I) := [(0, 4, [1, 0]),
  (1, 23, [4, 9, 4]),
  (4, 4, [5, 0]),
  (5, 23, [8, 9, 3]),
  (8, 21, [11, 84, 5]),
  (11, 4, [12, 0]),
  (12, 23, [15, 9, 4]),
  (15, 0, [18, 901]),
  (18, 21, [21, 84, 5]),
  (21, 4, [22, 0]),
  (22, 4, [23, 0]),
  (23, 23, [26, 9, 0]),
  (26, 4, [27, 0]),
  (27, 23, [30, 9, 4]),
  (30, 25, [31, 1]),
  (31, 24, [34, 9, 5, 0]),
  (34, 4, [35, 0]),
  (35, 4, [36, 0]),
  (36, 23, [39, 9, 1]),
  (39, 4, [40, 0]),
  (40, 23, [43, 9, 4]),
  (43, 25, [44, 1]),
  (44, 24, [47, 9, 6, 0]),
  (47, 4, [48, 0]),
  (48, 4, [49, 0]),
  (49, 23, [52, 9, 2]),
  (52, 4, [53, 0]),
  (53, 23, [56, 9, 4]),
  (56, 26, [57]),
  (57, 24, [60, 9, 8, 1]),
  (60, 4, [61, 0]),
  (61, 4, [62, 0]),
  (62, 23, [65, 9, 2]),
  (65, 4, [66, 0]),
  (66, 23, [69, 9, 4]),
  (69, 26, [70]),
  (70, 16, [71]),
  (71, 24, [74, 9, 7, 0]),
  (74, 4, [75, 0]),
  (75, 17, [76]),
  (76, 23, [79, 9, 4]),
  (79, 0, [80, 1]),
  (80, 9, [81, 0]),
  (81, 24, [84, 9, 4, 0]),
  (84, 37, [0, 0])]
def kd_X9_step_eafd3e_0 : List (Nat × sf_D × sf_M) := [(0, ([(1, 9, 0)], [], [], 0, 0), (44, [])),
  (1, ([(1, 9, 0)], [(1, 9, 0)], [], 0, 0), (43, [])),
  (4, ([(1, 9, 0)], [(0, 0, 901)], [(1, 0, 0, 0, 901, 0), (1, 30014, 0, -2147483648, 2147483647, 0), (2, 0, 30014, 1, 0, 0)], 0, 0), (42, [])),
  (5, ([(1, 9, 0)], [(1, 9, 0), (0, 0, 901)], [(1, 0, 0, 0, 901, 0), (1, 30014, 0, -2147483648, 2147483647, 0), (2, 0, 30014, 1, 0, 0)], 0, 0), (41, [])),
  (8, ([(1, 9, 0)], [(0, 0, 901), (0, 0, 901)], [(1, 0, 0, 0, 901, 0), (1, 30014, 0, -2147483648, 2147483647, 0), (1, 3, 0, 0, 901, 0), (1, 30011, 0, -2147483648, 2147483647, 0), (2, 0, 30014, 1, 0, 0), (2, 3, 30011, 1, 0, 0)], 0, 0), (40, [])),
  (11, ([(1, 9, 0)], [], [(1, 30014, 0, 0, 900, 0), (1, 30011, 0, 1, 901, 0)], 0, 0), (39, [])),
  (12, ([(1, 9, 0)], [(1, 9, 0)], [(1, 30014, 0, 0, 900, 0), (1, 30011, 0, 1, 901, 0)], 0, 0), (38, [])),
  (15, ([(1, 9, 0)], [(0, 0, 901)], [(1, 30014, 0, 0, 900, 0), (1, 30011, 0, 1, 901, 0), (1, 0, 0, 0, 900, 0), (2, 0, 30014, 1, 0, 0)], 0, 0), (37, [])),
  (18, ([(1, 9, 0)], [(0, 0, 0), (0, 0, 901)], [(1, 30014, 0, 0, 900, 0), (1, 30011, 0, 1, 901, 0), (1, 0, 0, 0, 900, 0), (1, 3, 0, 901, 901, 0), (2, 0, 30014, 1, 0, 0)], 0, 0), (36, [])),
  (21, ([(1, 9, 0)], [], [(1, 30014, 0, 0, 900, 0), (1, 30011, 0, 1, 901, 0)], 0, 0), (35, [])),
  (22, ([(1, 9, 0)], [(1, 9, 0)], [(1, 30014, 0, 0, 900, 0), (1, 30011, 0, 1, 901, 0)], 0, 0), (34, []))]
def kd_X9_step_eafd3e_1 : List (Nat × sf_D × sf_M) := [(23, ([(1, 9, 0)], [(1, 9, 0), (1, 9, 0)], [(1, 30014, 0, 0, 900, 0), (1, 30011, 0, 1, 901, 0)], 0, 0), (33, [])),
  (26, ([(1, 9, 0)], [(1, 124, 0), (1, 9, 0)], [(1, 30014, 0, 0, 900, 0), (1, 30011, 0, 1, 901, 0)], 0, 0), (32, [])),
  (27, ([(1, 9, 0)], [(1, 9, 0), (1, 124, 0), (1, 9, 0)], [(1, 30014, 0, 0, 900, 0), (1, 30011, 0, 1, 901, 0)], 0, 0), (31, [])),
  (30, ([(1, 9, 0)], [(0, 0, 901), (1, 124, 0), (1, 9, 0)], [(1, 30014, 0, 0, 900, 0), (1, 30011, 0, 1, 901, 0), (1, 6, 0, 0, 900, 0), (2, 6, 30014, 1, 0, 0)], 0, 0), (30, [])),
  (31, ([(1, 9, 0)], [(0, 0, 0), (1, 9, 0)], [(1, 30014, 0, 0, 900, 0), (1, 30011, 0, 1, 901, 0), (1, 3, 0, -2147483648, 2147483647, 0)], 0, 0), (29, [])),
  (34, ([(1, 9, 0)], [], [(1, 30014, 0, 0, 900, 0), (1, 30011, 0, 1, 901, 0), (1, 30017, 0, -2147483648, 2147483647, 0)], 0, 0), (28, [])),
  (35, ([(1, 9, 0)], [(1, 9, 0)], [(1, 30014, 0, 0, 900, 0), (1, 30011, 0, 1, 901, 0), (1, 30017, 0, -2147483648, 2147483647, 0)], 0, 0), (27, [])),
  (36, ([(1, 9, 0)], [(1, 9, 0), (1, 9, 0)], [(1, 30014, 0, 0, 900, 0), (1, 30011, 0, 1, 901, 0), (1, 30017, 0, -2147483648, 2147483647, 0)], 0, 0), (26, [])),
  (39, ([(1, 9, 0)], [(1, 125, 0), (1, 9, 0)], [(1, 30014, 0, 0, 900, 0), (1, 30011, 0, 1, 901, 0), (1, 30017, 0, -2147483648, 2147483647, 0)], 0, 0), (25, [])),
  (40, ([(1, 9, 0)], [(1, 9, 0), (1, 125, 0), (1, 9, 0)], [(1, 30014, 0, 0, 900, 0), (1, 30011, 0, 1, 901, 0), (1, 30017, 0, -2147483648, 2147483647, 0)], 0, 0), (24, []))]
def kd_X9_step_eafd3e_2 : List (Nat × sf_D × sf_M) := [(43, ([(1, 9, 0)], [(0, 0, 901), (1, 125, 0), (1, 9, 0)], [(1, 30014, 0, 0, 900, 0), (1, 30011, 0, 1, 901, 0), (1, 30017, 0, -2147483648, 2147483647, 0), (1, 6, 0, 0, 900, 0), (2, 6, 30014, 1, 0, 0)], 0, 0), (23, [])),
  (44, ([(1, 9, 0)], [(0, 0, 0), (1, 9, 0)], [(1, 30014, 0, 0, 900, 0), (1, 30011, 0, 1, 901, 0), (1, 30017, 0, -2147483648, 2147483647, 0), (1, 3, 0, -2147483648, 2147483647, 0)], 0, 0), (22, [])),
  (47, ([(1, 9, 0)], [], [(1, 30014, 0, 0, 900, 0), (1, 30011, 0, 1, 901, 0), (1, 30017, 0, -2147483648, 2147483647, 0), (1, 30020, 0, -2147483648, 2147483647, 0)], 0, 0), (21, [])),
  (48, ([(1, 9, 0)], [(1, 9, 0)], [(1, 30014, 0, 0, 900, 0), (1, 30011, 0, 1, 901, 0), (1, 30017, 0, -2147483648, 2147483647, 0), (1, 30020, 0, -2147483648, 2147483647, 0)], 0, 0), (20, [])),
  (49, ([(1, 9, 0)], [(1, 9, 0), (1, 9, 0)], [(1, 30014, 0, 0, 900, 0), (1, 30011, 0, 1, 901, 0), (1, 30017, 0, -2147483648, 2147483647, 0), (1, 30020, 0, -2147483648, 2147483647, 0)], 0, 0), (19, [])),
  (52, ([(1, 9, 0)], [(1, 126, 0), (1, 9, 0)], [(1, 30014, 0, 0, 900, 0), (1, 30011, 0, 1, 901, 0), (1, 30017, 0, -2147483648, 2147483647, 0), (1, 30020, 0, -2147483648, 2147483647, 0)], 0, 0), (18, [])),
  (53, ([(1, 9, 0)], [(1, 9, 0), (1, 126, 0), (1, 9, 0)], [(1, 30014, 0, 0, 900, 0), (1, 30011, 0, 1, 901, 0), (1, 30017, 0, -2147483648, 2147483647, 0), (1, 30020, 0, -2147483648, 2147483647, 0)], 0, 0), (17, []))]
def kd_X9_step_eafd3e_3 : List (Nat × sf_D × sf_M) := [(56, ([(1, 9, 0)], [(0, 0, 901), (1, 126, 0), (1, 9, 0)], [(1, 30014, 0, 0, 900, 0), (1, 30011, 0, 1, 901, 0), (1, 30017, 0, -2147483648, 2147483647, 0), (1, 30020, 0, -2147483648, 2147483647, 0), (1, 6, 0, 0, 900, 0), (2, 6, 30014, 1, 0, 0)], 0, 0), (16, [])),
  (57, ([(1, 9, 0)], [(2, 0, 0), (1, 9, 0)], [(1, 30014, 0, 0, 900, 0), (1, 30011, 0, 1, 901, 0), (1, 30017, 0, -2147483648, 2147483647, 0), (1, 30020, 0, -2147483648, 2147483647, 0)], 0, 0), (15, [])),
  (60, ([(1, 9, 0)], [], [(1, 30014, 0, 0, 900, 0), (1, 30011, 0, 1, 901, 0), (1, 30017, 0, -2147483648, 2147483647, 0), (1, 30020, 0, -2147483648, 2147483647, 0)], 0, 0), (14, [])),
  (61, ([(1, 9, 0)], [(1, 9, 0)], [(1, 30014, 0, 0, 900, 0), (1, 30011, 0, 1, 901, 0), (1, 30017, 0, -2147483648, 2147483647, 0), (1, 30020, 0, -2147483648, 2147483647, 0)], 0, 0), (13, [])),
  (62, ([(1, 9, 0)], [(1, 9, 0), (1, 9, 0)], [(1, 30014, 0, 0, 900, 0), (1, 30011, 0, 1, 901, 0), (1, 30017, 0, -2147483648, 2147483647, 0), (1, 30020, 0, -2147483648, 2147483647, 0)], 0, 0), (12, [])),
  (65, ([(1, 9, 0)], [(1, 126, 0), (1, 9, 0)], [(1, 30014, 0, 0, 900, 0), (1, 30011, 0, 1, 901, 0), (1, 30017, 0, -2147483648, 2147483647, 0), (1, 30020, 0, -2147483648, 2147483647, 0)], 0, 0), (11, [])),
  (66, ([(1, 9, 0)], [(1, 9, 0), (1, 126, 0), (1, 9, 0)], [(1, 30014, 0, 0, 900, 0), (1, 30011, 0, 1, 901, 0), (1, 30017, 0, -2147483648, 2147483647, 0), (1, 30020, 0, -2147483648, 2147483647, 0)], 0, 0), (10, []))]
def kd_X9_step_eafd3e_4 : List (Nat × sf_D × sf_M) := [(69, ([(1, 9, 0)], [(0, 0, 901), (1, 126, 0), (1, 9, 0)], [(1, 30014, 0, 0, 900, 0), (1, 30011, 0, 1, 901, 0), (1, 30017, 0, -2147483648, 2147483647, 0), (1, 30020, 0, -2147483648, 2147483647, 0), (1, 6, 0, 0, 900, 0), (2, 6, 30014, 1, 0, 0)], 0, 0), (9, [])),
  (70, ([(1, 9, 0)], [(2, 0, 0), (1, 9, 0)], [(1, 30014, 0, 0, 900, 0), (1, 30011, 0, 1, 901, 0), (1, 30017, 0, -2147483648, 2147483647, 0), (1, 30020, 0, -2147483648, 2147483647, 0)], 0, 0), (8, [])),
  (71, ([(1, 9, 0)], [(0, 0, 0), (1, 9, 0)], [(1, 30014, 0, 0, 900, 0), (1, 30011, 0, 1, 901, 0), (1, 30017, 0, -2147483648, 2147483647, 0), (1, 30020, 0, -2147483648, 2147483647, 0), (1, 3, 0, -2147483648, 2147483647, 0)], 0, 0), (7, [])),
  (74, ([(1, 9, 0)], [], [(1, 30014, 0, 0, 900, 0), (1, 30011, 0, 1, 901, 0), (1, 30017, 0, -2147483648, 2147483647, 0), (1, 30020, 0, -2147483648, 2147483647, 0), (1, 30023, 0, -2147483648, 2147483647, 0)], 0, 0), (6, [])),
  (75, ([(1, 9, 0)], [(1, 9, 0)], [(1, 30014, 0, 0, 900, 0), (1, 30011, 0, 1, 901, 0), (1, 30017, 0, -2147483648, 2147483647, 0), (1, 30020, 0, -2147483648, 2147483647, 0), (1, 30023, 0, -2147483648, 2147483647, 0)], 0, 0), (5, [])),
  (76, ([(1, 9, 0)], [(1, 9, 0), (1, 9, 0)], [(1, 30014, 0, 0, 900, 0), (1, 30011, 0, 1, 901, 0), (1, 30017, 0, -2147483648, 2147483647, 0), (1, 30020, 0, -2147483648, 2147483647, 0), (1, 30023, 0, -2147483648, 2147483647, 0)], 0, 0), (4, []))]
def kd_X9_step_eafd3e_5 : List (Nat × sf_D × sf_M) := [(79, ([(1, 9, 0)], [(0, 0, 901), (1, 9, 0)], [(1, 30014, 0, 0, 900, 0), (1, 30011, 0, 1, 901, 0), (1, 30017, 0, -2147483648, 2147483647, 0), (1, 30020, 0, -2147483648, 2147483647, 0), (1, 30023, 0, -2147483648, 2147483647, 0), (1, 3, 0, 0, 900, 0), (2, 3, 30014, 1, 0, 0)], 0, 0), (3, [])),
  (80, ([(1, 9, 0)], [(0, 0, 0), (0, 0, 901), (1, 9, 0)], [(1, 30014, 0, 0, 900, 0), (1, 30011, 0, 1, 901, 0), (1, 30017, 0, -2147483648, 2147483647, 0), (1, 30020, 0, -2147483648, 2147483647, 0), (1, 30023, 0, -2147483648, 2147483647, 0), (1, 3, 0, 0, 900, 0), (1, 6, 0, 1, 1, 0), (2, 3, 30014, 1, 0, 0)], 0, 0), (2, [])),
  (81, ([(1, 9, 0)], [(0, 0, 0), (1, 9, 0)], [(1, 30014, 0, 0, 900, 0), (1, 30011, 0, 1, 901, 0), (1, 30017, 0, -2147483648, 2147483647, 0), (1, 30020, 0, -2147483648, 2147483647, 0), (1, 30023, 0, -2147483648, 2147483647, 0), (1, 3, 0, 1, 901, 0), (2, 3, 30014, 1, 1, 0)], 0, 0), (1, [])),
  (84, ([(1, 9, 0)], [], [(1, 30014, 0, 0, 901, 0), (1, 30011, 0, 0, 901, 0)], 0, 0), (0, []))]
def kd_X9_step_eafd3e : List (Nat × sf_D × sf_M) := kd_X9_step_eafd3e_0 ++ (kd_X9_step_eafd3e_1 ++ (kd_X9_step_eafd3e_2 ++ (kd_X9_step_eafd3e_3 ++ (kd_X9_step_eafd3e_4 ++ (kd_X9_step_eafd3e_5)))))
set_option maxRecDepth 100000 in
theorem kt_X9_step_eafd3e : sf_chk [] kq_X9_step_eafd3e 1 kc_X9_step_eafd3e kd_X9_step_eafd3e = true := by decide +kernel
set_option maxRecDepth 100000 in
theorem kl_X9_step_eafd3e : (kc_X9_step_eafd3e).map (fun c => (c.1, sf_den ([] : List sf_X) c.2)) = L_X9_step := rfl
theorem ct_X9_step_eafd3e : sf_ct kq_X9_step_eafd3e Z_X9_step := by
  have h := sf_meth (K := []) (E := []) (k := kq_X9_step_eafd3e) (nL := 1) (C := kc_X9_step_eafd3e) (D := kd_X9_step_eafd3e) (fun m k hk => match m, hk with
    | _ + 0, hk => (by cases hk)) kt_X9_step_eafd3e
  rw [kl_X9_step_eafd3e] at h
  exact h
def kq_X9_fail_c3f7a2 : sf_Q := ([(1, 9, 0), (0, 0, 0)], [(1, 3, 0, 1, 1, 0)], some (0, 0, 0), [(1, 30029, 0, 1, 1, 0), (1, 0, 0, 0, 0, 0)], [(9, 9, 9)])
def kc_X9_fail_c3f7a2 : List (Nat × sf_I) := [(0, 4, [1, 0]),
  (1, 2, [2, 1]),
  (2, 24, [5, 9, 9, 0]),
  (5, 0, [6, 0]),
  (6, 36, [0, 0])]
def kd_X9_fail_c3f7a2 : List (Nat × sf_D × sf_M) := [(0, ([(1, 9, 0), (0, 0, 0)], [], [(1, 4, 0, 1, 1, 0)], 0, 0), (4, [])),
  (1, ([(1, 9, 0), (0, 0, 0)], [(1, 9, 0)], [(1, 4, 0, 1, 1, 0)], 0, 0), (3, [])),
  (2, ([(1, 9, 0), (0, 0, 0)], [(0, 0, 0), (1, 9, 0)], [(1, 4, 0, 1, 1, 0), (1, 3, 0, 1, 1, 0), (2, 3, 4, 1, 0, 0)], 0, 0), (2, [])),
  (5, ([(1, 9, 0), (0, 0, 0)], [], [(1, 4, 0, 1, 1, 0), (1, 30029, 0, 1, 1, 0), (2, 30029, 4, 1, 0, 0)], 0, 0), (1, [])),
  (6, ([(1, 9, 0), (0, 0, 0)], [(0, 0, 0)], [(1, 4, 0, 1, 1, 0), (1, 30029, 0, 1, 1, 0), (1, 0, 0, 0, 0, 0), (2, 30029, 4, 1, 0, 0)], 0, 0), (0, []))]
set_option maxRecDepth 100000 in
theorem kt_X9_fail_c3f7a2 : sf_chk [] kq_X9_fail_c3f7a2 2 kc_X9_fail_c3f7a2 kd_X9_fail_c3f7a2 = true := by decide +kernel
set_option maxRecDepth 100000 in
theorem kl_X9_fail_c3f7a2 : (kc_X9_fail_c3f7a2).map (fun c => (c.1, sf_den ([] : List sf_X) c.2)) = L_X9_fail := rfl
theorem ct_X9_fail_c3f7a2 : sf_ct kq_X9_fail_c3f7a2 Z_X9_fail := by
  have h := sf_meth (K := []) (E := []) (k := kq_X9_fail_c3f7a2) (nL := 2) (C := kc_X9_fail_c3f7a2) (D := kd_X9_fail_c3f7a2) (fun m k hk => match m, hk with
    | _ + 0, hk => (by cases hk)) kt_X9_fail_c3f7a2
  rw [kl_X9_fail_c3f7a2] at h
  exact h
def kq_X9_takeName_eafd3e : sf_Q := ([(1, 9, 0)], [], some (0, 0, 0), [(1, 0, 0, 0, 1, 0), (3, 0, 30029, 1, 1, 1), (3, 0, 30017, 2, 2, 0)], [(9, 4, 9)])
def kc_X9_takeName_eafd3e : List (Nat × sf_I) := [(0, 4, [1, 0]),
  (1, 32, [4, 0, 1, 9, 0, 0, 0, 0]),
  (4, 4, [5, 0]),
  (5, 23, [8, 9, 5]),
  (8, 0, [9, 2]),
  (9, 21, [12, 20, 0]),
  (12, 4, [13, 0]),
  (13, 0, [14, 1]),
  (14, 32, [17, 1, 2, 9, 0, 0, 0, 0]),
  (17, 20, [20, 24, 0]),
  (20, 0, [21, 1]),
  (21, 22, [25]),
  (24, 0, [25, 0]),
  (25, 36, [0, 0])]
def kd_X9_takeName_eafd3e : List (Nat × sf_D × sf_M) := [(0, ([(1, 9, 0)], [], [], 0, 0), (11, [])),
  (1, ([(1, 9, 0)], [(1, 9, 0)], [], 0, 0), (10, [])),
  (4, ([(1, 9, 0)], [], [], 0, 0), (9, [])),
  (5, ([(1, 9, 0)], [(1, 9, 0)], [], 0, 0), (8, [])),
  (8, ([(1, 9, 0)], [(0, 0, 2147483647)], [(1, 0, 0, -2147483648, 2147483647, 0), (1, 30017, 0, -2147483648, 2147483647, 0), (2, 0, 30017, 1, 0, 0)], 0, 0), (7, [])),
  (9, ([(1, 9, 0)], [(0, 0, 0), (0, 0, 2147483647)], [(1, 0, 0, -2147483648, 2147483647, 0), (1, 30017, 0, -2147483648, 2147483647, 0), (1, 3, 0, 2, 2, 0), (2, 0, 30017, 1, 0, 0)], 0, 0), (6, [])),
  (12, ([(1, 9, 0)], [], [(1, 30017, 0, -2147483648, 2147483647, 0)], 0, 0), (5, [])),
  (13, ([(1, 9, 0)], [(1, 9, 0)], [(1, 30017, 0, -2147483648, 2147483647, 0)], 0, 0), (4, [])),
  (14, ([(1, 9, 0)], [(0, 0, 0), (1, 9, 0)], [(1, 30017, 0, -2147483648, 2147483647, 0), (1, 3, 0, 1, 1, 0)], 0, 0), (3, [])),
  (17, ([(1, 9, 0)], [(0, 0, 0)], [(1, 30017, 0, -2147483648, 2147483647, 0), (1, 30029, 0, 1, 1, 0), (1, 0, 0, 0, 0, 0)], 0, 0), (2, [])),
  (20, ([(1, 9, 0)], [], [(1, 30017, 0, 2, 2, 0)], 0, 0), (2, [])),
  (21, ([(1, 9, 0)], [(0, 0, 0)], [(1, 30017, 0, 2, 2, 0), (1, 0, 0, 1, 1, 0)], 0, 0), (1, [])),
  (24, ([(1, 9, 0)], [], [(1, 30017, 0, -2147483648, 2147483647, 0), (1, 30029, 0, 1, 1, 0)], 0, 0), (1, [])),
  (25, ([(1, 9, 0)], [(0, 0, 0)], [(1, 30017, 0, -2147483648, 2147483647, 0), (1, 0, 0, 0, 1, 0), (3, 0, 30029, 1, 1, 1), (3, 0, 30017, 2, 2, 0)], 0, 0), (0, []))]
set_option maxRecDepth 100000 in
theorem kt_X9_takeName_eafd3e : sf_chk [kq_X9_step_eafd3e, kq_X9_fail_c3f7a2] kq_X9_takeName_eafd3e 1 kc_X9_takeName_eafd3e kd_X9_takeName_eafd3e = true := by decide +kernel
set_option maxRecDepth 100000 in
theorem kl_X9_takeName_eafd3e : (kc_X9_takeName_eafd3e).map (fun c => (c.1, sf_den ([Z_X9_step, Z_X9_fail] : List sf_X) c.2)) = L_X9_takeName Z_X9_step Z_X9_fail := rfl
theorem ct_X9_takeName_eafd3e : sf_ct kq_X9_takeName_eafd3e Z_X9_takeName := by
  have h := sf_meth (K := [kq_X9_step_eafd3e, kq_X9_fail_c3f7a2]) (E := [Z_X9_step, Z_X9_fail]) (k := kq_X9_takeName_eafd3e) (nL := 1) (C := kc_X9_takeName_eafd3e) (D := kd_X9_takeName_eafd3e) (fun m k hk => match m, hk with
    | 0, hk => (Option.some.inj hk) ▸ ct_X9_step_eafd3e
    | 1, hk => (Option.some.inj hk) ▸ ct_X9_fail_c3f7a2
    | _ + 2, hk => (by cases hk)) kt_X9_takeName_eafd3e
  rw [kl_X9_takeName_eafd3e] at h
  exact h
def kq_X7_goodNamed_7c1a1b : sf_Q := ([(1, 7, 0), (2, 0, 0)], [], some (0, 0, 0), [(1, 0, 0, -1, 5, 0)], [])
def kc_X7_goodNamed_7c1a1b : List (Nat × sf_I) := [(0, 0, [1, 0]),
  (1, 5, [2, 3]),
  (2, 2, [3, 3]),
  (3, 4, [4, 0]),
  (4, 23, [7, 7, 8]),
  (7, 21, [10, 29, 5]),
  (10, 4, [11, 0]),
  (11, 23, [14, 7, 0]),
  (14, 2, [15, 3]),
  (15, 26, [16]),
  (16, 3, [17, 1]),
  (17, 14, [18]),
  (18, 20, [21, 23, 1]),
  (21, 2, [22, 3]),
  (22, 35, [0, 0]),
  (23, 8, [26, 3, 1]),
  (26, 22, [2]),
  (29, 0, [30, -1]),
  (30, 35, [0, 0])]
def kd_X7_goodNamed_7c1a1b_0 : List (Nat × sf_D × sf_M) := [(0, ([(1, 7, 0), (2, 0, 0), (8, 0, 0), (8, 0, 0)], [], [], 0, 0), (104, [])),
  (1, ([(1, 7, 0), (2, 0, 0), (8, 0, 0), (8, 0, 0)], [(0, 0, 0)], [(1, 0, 0, 0, 0, 0)], 0, 0), (103, [])),
  (2, ([(1, 7, 0), (2, 0, 0), (8, 0, 0), (0, 0, 0)], [], [(1, 10, 0, 0, 6, 0)], 0, 0), (12, [(15, 10, 6, 0)])),
  (3, ([(1, 7, 0), (2, 0, 0), (8, 0, 0), (0, 0, 0)], [(0, 0, 0)], [(1, 10, 0, 0, 6, 0), (1, 0, 0, 0, 6, 0), (2, 0, 10, 1, 0, 0)], 0, 0), (11, [(15, 10, 6, 0)])),
  (4, ([(1, 7, 0), (2, 0, 0), (8, 0, 0), (0, 0, 0)], [(1, 7, 0), (0, 0, 0)], [(1, 10, 0, 0, 6, 0), (1, 0, 0, 0, 6, 0), (2, 0, 10, 1, 0, 0)], 0, 0), (10, [(15, 10, 6, 0)])),
  (7, ([(1, 7, 0), (2, 0, 0), (8, 0, 0), (0, 0, 0)], [(0, 0, 6), (0, 0, 0)], [(1, 10, 0, 0, 6, 0), (1, 0, 0, 0, 6, 0), (1, 3, 0, 0, 6, 0), (2, 0, 10, 1, 0, 0)], 0, 0), (9, [(15, 10, 6, 0)])),
  (10, ([(1, 7, 0), (2, 0, 0), (8, 0, 0), (0, 0, 0)], [], [(1, 10, 0, 0, 5, 0)], 0, 0), (8, [(15, 10, 6, 0)])),
  (11, ([(1, 7, 0), (2, 0, 0), (8, 0, 0), (0, 0, 0)], [(1, 7, 0)], [(1, 10, 0, 0, 5, 0)], 0, 0), (7, [(15, 10, 6, 0)])),
  (14, ([(1, 7, 0), (2, 0, 0), (8, 0, 0), (0, 0, 0)], [(1, 116, 0)], [(1, 10, 0, 0, 5, 0)], 0, 0), (6, [(15, 10, 6, 0)])),
  (15, ([(1, 7, 0), (2, 0, 0), (8, 0, 0), (0, 0, 0)], [(0, 0, 0), (1, 116, 0)], [(1, 10, 0, 0, 5, 0), (1, 3, 0, 0, 5, 0), (2, 3, 10, 1, 0, 0)], 0, 0), (5, [(15, 10, 6, 0)]))]
def kd_X7_goodNamed_7c1a1b_1 : List (Nat × sf_D × sf_M) := [(16, ([(1, 7, 0), (2, 0, 0), (8, 0, 0), (0, 0, 0)], [(2, 0, 0)], [(1, 10, 0, 0, 5, 0)], 0, 0), (4, [(15, 10, 6, 0)])),
  (17, ([(1, 7, 0), (2, 0, 0), (8, 0, 0), (0, 0, 0)], [(2, 0, 0), (2, 0, 0)], [(1, 10, 0, 0, 5, 0)], 0, 0), (3, [(15, 10, 6, 0)])),
  (18, ([(1, 7, 0), (2, 0, 0), (8, 0, 0), (0, 0, 0)], [(0, 0, 0)], [(1, 10, 0, 0, 5, 0), (1, 0, 0, -2147483648, 2147483647, 0)], 0, 0), (2, [(15, 10, 6, 0)])),
  (21, ([(1, 7, 0), (2, 0, 0), (8, 0, 0), (0, 0, 0)], [], [(1, 10, 0, 0, 5, 0)], 0, 0), (1, [])),
  (22, ([(1, 7, 0), (2, 0, 0), (8, 0, 0), (0, 0, 0)], [(0, 0, 0)], [(1, 10, 0, 0, 5, 0), (1, 0, 0, 0, 5, 0), (2, 0, 10, 1, 0, 0)], 0, 0), (0, [])),
  (23, ([(1, 7, 0), (2, 0, 0), (8, 0, 0), (0, 0, 0)], [], [(1, 10, 0, 0, 5, 0)], 0, 0), (0, [(15, 10, 6, 0)])),
  (26, ([(1, 7, 0), (2, 0, 0), (8, 0, 0), (0, 0, 0)], [], [(1, 10, 0, 1, 6, 0)], 0, 0), (13, [(15, 10, 6, 0)])),
  (29, ([(1, 7, 0), (2, 0, 0), (8, 0, 0), (0, 0, 0)], [], [(1, 10, 0, 0, 6, 0)], 0, 0), (1, [])),
  (30, ([(1, 7, 0), (2, 0, 0), (8, 0, 0), (0, 0, 0)], [(0, 0, 0)], [(1, 10, 0, 0, 6, 0), (1, 0, 0, -1, -1, 0)], 0, 0), (0, []))]
def kd_X7_goodNamed_7c1a1b : List (Nat × sf_D × sf_M) := kd_X7_goodNamed_7c1a1b_0 ++ (kd_X7_goodNamed_7c1a1b_1)
set_option maxRecDepth 100000 in
theorem kt_X7_goodNamed_7c1a1b : sf_chk [] kq_X7_goodNamed_7c1a1b 4 kc_X7_goodNamed_7c1a1b kd_X7_goodNamed_7c1a1b = true := by decide +kernel
set_option maxRecDepth 100000 in
theorem kl_X7_goodNamed_7c1a1b : (kc_X7_goodNamed_7c1a1b).map (fun c => (c.1, sf_den ([] : List sf_X) c.2)) = L_X7_goodNamed := rfl
theorem ct_X7_goodNamed_7c1a1b : sf_ct kq_X7_goodNamed_7c1a1b Z_X7_goodNamed := by
  have h := sf_meth (K := []) (E := []) (k := kq_X7_goodNamed_7c1a1b) (nL := 4) (C := kc_X7_goodNamed_7c1a1b) (D := kd_X7_goodNamed_7c1a1b) (fun m k hk => match m, hk with
    | _ + 0, hk => (by cases hk)) kt_X7_goodNamed_7c1a1b
  rw [kl_X7_goodNamed_7c1a1b] at h
  exact h
def kq_X7_manNamed_7c1a1b : sf_Q := ([(1, 7, 0), (2, 0, 0)], [], some (0, 0, 0), [(1, 0, 0, -1, 7, 0)], [])
def kc_X7_manNamed_7c1a1b : List (Nat × sf_I) := [(0, 0, [1, 0]),
  (1, 5, [2, 3]),
  (2, 2, [3, 3]),
  (3, 4, [4, 0]),
  (4, 23, [7, 7, 9]),
  (7, 21, [10, 29, 5]),
  (10, 4, [11, 0]),
  (11, 23, [14, 7, 1]),
  (14, 2, [15, 3]),
  (15, 26, [16]),
  (16, 3, [17, 1]),
  (17, 14, [18]),
  (18, 20, [21, 23, 1]),
  (21, 2, [22, 3]),
  (22, 35, [0, 0]),
  (23, 8, [26, 3, 1]),
  (26, 22, [2]),
  (29, 0, [30, -1]),
  (30, 35, [0, 0])]
def kd_X7_manNamed_7c1a1b_0 : List (Nat × sf_D × sf_M) := [(0, ([(1, 7, 0), (2, 0, 0), (8, 0, 0), (8, 0, 0)], [], [], 0, 0), (134, [])),
  (1, ([(1, 7, 0), (2, 0, 0), (8, 0, 0), (8, 0, 0)], [(0, 0, 0)], [(1, 0, 0, 0, 0, 0)], 0, 0), (133, [])),
  (2, ([(1, 7, 0), (2, 0, 0), (8, 0, 0), (0, 0, 0)], [], [(1, 10, 0, 0, 8, 0)], 0, 0), (12, [(15, 10, 8, 0)])),
  (3, ([(1, 7, 0), (2, 0, 0), (8, 0, 0), (0, 0, 0)], [(0, 0, 0)], [(1, 10, 0, 0, 8, 0), (1, 0, 0, 0, 8, 0), (2, 0, 10, 1, 0, 0)], 0, 0), (11, [(15, 10, 8, 0)])),
  (4, ([(1, 7, 0), (2, 0, 0), (8, 0, 0), (0, 0, 0)], [(1, 7, 0), (0, 0, 0)], [(1, 10, 0, 0, 8, 0), (1, 0, 0, 0, 8, 0), (2, 0, 10, 1, 0, 0)], 0, 0), (10, [(15, 10, 8, 0)])),
  (7, ([(1, 7, 0), (2, 0, 0), (8, 0, 0), (0, 0, 0)], [(0, 0, 8), (0, 0, 0)], [(1, 10, 0, 0, 8, 0), (1, 0, 0, 0, 8, 0), (1, 3, 0, 0, 8, 0), (2, 0, 10, 1, 0, 0)], 0, 0), (9, [(15, 10, 8, 0)])),
  (10, ([(1, 7, 0), (2, 0, 0), (8, 0, 0), (0, 0, 0)], [], [(1, 10, 0, 0, 7, 0)], 0, 0), (8, [(15, 10, 8, 0)])),
  (11, ([(1, 7, 0), (2, 0, 0), (8, 0, 0), (0, 0, 0)], [(1, 7, 0)], [(1, 10, 0, 0, 7, 0)], 0, 0), (7, [(15, 10, 8, 0)])),
  (14, ([(1, 7, 0), (2, 0, 0), (8, 0, 0), (0, 0, 0)], [(1, 117, 0)], [(1, 10, 0, 0, 7, 0)], 0, 0), (6, [(15, 10, 8, 0)])),
  (15, ([(1, 7, 0), (2, 0, 0), (8, 0, 0), (0, 0, 0)], [(0, 0, 0), (1, 117, 0)], [(1, 10, 0, 0, 7, 0), (1, 3, 0, 0, 7, 0), (2, 3, 10, 1, 0, 0)], 0, 0), (5, [(15, 10, 8, 0)]))]
def kd_X7_manNamed_7c1a1b_1 : List (Nat × sf_D × sf_M) := [(16, ([(1, 7, 0), (2, 0, 0), (8, 0, 0), (0, 0, 0)], [(2, 0, 0)], [(1, 10, 0, 0, 7, 0)], 0, 0), (4, [(15, 10, 8, 0)])),
  (17, ([(1, 7, 0), (2, 0, 0), (8, 0, 0), (0, 0, 0)], [(2, 0, 0), (2, 0, 0)], [(1, 10, 0, 0, 7, 0)], 0, 0), (3, [(15, 10, 8, 0)])),
  (18, ([(1, 7, 0), (2, 0, 0), (8, 0, 0), (0, 0, 0)], [(0, 0, 0)], [(1, 10, 0, 0, 7, 0), (1, 0, 0, -2147483648, 2147483647, 0)], 0, 0), (2, [(15, 10, 8, 0)])),
  (21, ([(1, 7, 0), (2, 0, 0), (8, 0, 0), (0, 0, 0)], [], [(1, 10, 0, 0, 7, 0)], 0, 0), (1, [])),
  (22, ([(1, 7, 0), (2, 0, 0), (8, 0, 0), (0, 0, 0)], [(0, 0, 0)], [(1, 10, 0, 0, 7, 0), (1, 0, 0, 0, 7, 0), (2, 0, 10, 1, 0, 0)], 0, 0), (0, [])),
  (23, ([(1, 7, 0), (2, 0, 0), (8, 0, 0), (0, 0, 0)], [], [(1, 10, 0, 0, 7, 0)], 0, 0), (0, [(15, 10, 8, 0)])),
  (26, ([(1, 7, 0), (2, 0, 0), (8, 0, 0), (0, 0, 0)], [], [(1, 10, 0, 1, 8, 0)], 0, 0), (13, [(15, 10, 8, 0)])),
  (29, ([(1, 7, 0), (2, 0, 0), (8, 0, 0), (0, 0, 0)], [], [(1, 10, 0, 0, 8, 0)], 0, 0), (1, [])),
  (30, ([(1, 7, 0), (2, 0, 0), (8, 0, 0), (0, 0, 0)], [(0, 0, 0)], [(1, 10, 0, 0, 8, 0), (1, 0, 0, -1, -1, 0)], 0, 0), (0, []))]
def kd_X7_manNamed_7c1a1b : List (Nat × sf_D × sf_M) := kd_X7_manNamed_7c1a1b_0 ++ (kd_X7_manNamed_7c1a1b_1)
set_option maxRecDepth 100000 in
theorem kt_X7_manNamed_7c1a1b : sf_chk [] kq_X7_manNamed_7c1a1b 4 kc_X7_manNamed_7c1a1b kd_X7_manNamed_7c1a1b = true := by decide +kernel
set_option maxRecDepth 100000 in
theorem kl_X7_manNamed_7c1a1b : (kc_X7_manNamed_7c1a1b).map (fun c => (c.1, sf_den ([] : List sf_X) c.2)) = L_X7_manNamed := rfl
theorem ct_X7_manNamed_7c1a1b : sf_ct kq_X7_manNamed_7c1a1b Z_X7_manNamed := by
  have h := sf_meth (K := []) (E := []) (k := kq_X7_manNamed_7c1a1b) (nL := 4) (C := kc_X7_manNamed_7c1a1b) (D := kd_X7_manNamed_7c1a1b) (fun m k hk => match m, hk with
    | _ + 0, hk => (by cases hk)) kt_X7_manNamed_7c1a1b
  rw [kl_X7_manNamed_7c1a1b] at h
  exact h
def kq_X9_fail_d6f260 : sf_Q := ([(1, 9, 0), (0, 0, 0)], [(1, 3, 0, 3, 3, 0)], some (0, 0, 0), [(1, 30029, 0, 3, 3, 0), (1, 0, 0, 0, 0, 0)], [(9, 9, 9)])
def kc_X9_fail_d6f260 : List (Nat × sf_I) := [(0, 4, [1, 0]),
  (1, 2, [2, 1]),
  (2, 24, [5, 9, 9, 0]),
  (5, 0, [6, 0]),
  (6, 36, [0, 0])]
def kd_X9_fail_d6f260 : List (Nat × sf_D × sf_M) := [(0, ([(1, 9, 0), (0, 0, 0)], [], [(1, 4, 0, 3, 3, 0)], 0, 0), (4, [])),
  (1, ([(1, 9, 0), (0, 0, 0)], [(1, 9, 0)], [(1, 4, 0, 3, 3, 0)], 0, 0), (3, [])),
  (2, ([(1, 9, 0), (0, 0, 0)], [(0, 0, 0), (1, 9, 0)], [(1, 4, 0, 3, 3, 0), (1, 3, 0, 3, 3, 0), (2, 3, 4, 1, 0, 0)], 0, 0), (2, [])),
  (5, ([(1, 9, 0), (0, 0, 0)], [], [(1, 4, 0, 3, 3, 0), (1, 30029, 0, 3, 3, 0), (2, 30029, 4, 1, 0, 0)], 0, 0), (1, [])),
  (6, ([(1, 9, 0), (0, 0, 0)], [(0, 0, 0)], [(1, 4, 0, 3, 3, 0), (1, 30029, 0, 3, 3, 0), (1, 0, 0, 0, 0, 0), (2, 30029, 4, 1, 0, 0)], 0, 0), (0, []))]
set_option maxRecDepth 100000 in
theorem kt_X9_fail_d6f260 : sf_chk [] kq_X9_fail_d6f260 2 kc_X9_fail_d6f260 kd_X9_fail_d6f260 = true := by decide +kernel
set_option maxRecDepth 100000 in
theorem kl_X9_fail_d6f260 : (kc_X9_fail_d6f260).map (fun c => (c.1, sf_den ([] : List sf_X) c.2)) = L_X9_fail := rfl
theorem ct_X9_fail_d6f260 : sf_ct kq_X9_fail_d6f260 Z_X9_fail := by
  have h := sf_meth (K := []) (E := []) (k := kq_X9_fail_d6f260) (nL := 2) (C := kc_X9_fail_d6f260) (D := kd_X9_fail_d6f260) (fun m k hk => match m, hk with
    | _ + 0, hk => (by cases hk)) kt_X9_fail_d6f260
  rw [kl_X9_fail_d6f260] at h
  exact h
def kq_X9_fail_856848 : sf_Q := ([(1, 9, 0), (0, 0, 0)], [], some (0, 0, 0), [(1, 0, 0, 0, 0, 0)], [(9, 9, 9)])
def kc_X9_fail_856848 : List (Nat × sf_I) := [(0, 4, [1, 0]),
  (1, 2, [2, 1]),
  (2, 24, [5, 9, 9, 0]),
  (5, 0, [6, 0]),
  (6, 36, [0, 0])]
def kd_X9_fail_856848 : List (Nat × sf_D × sf_M) := [(0, ([(1, 9, 0), (0, 0, 0)], [], [], 0, 0), (4, [])),
  (1, ([(1, 9, 0), (0, 0, 0)], [(1, 9, 0)], [], 0, 0), (3, [])),
  (2, ([(1, 9, 0), (0, 0, 0)], [(0, 0, 0), (1, 9, 0)], [(1, 3, 0, -2147483648, 2147483647, 0), (1, 4, 0, -2147483648, 2147483647, 0), (2, 3, 4, 1, 0, 0)], 0, 0), (2, [])),
  (5, ([(1, 9, 0), (0, 0, 0)], [], [(1, 30029, 0, -2147483648, 2147483647, 0), (1, 4, 0, -2147483648, 2147483647, 0), (2, 30029, 4, 1, 0, 0)], 0, 0), (1, [])),
  (6, ([(1, 9, 0), (0, 0, 0)], [(0, 0, 0)], [(1, 30029, 0, -2147483648, 2147483647, 0), (1, 4, 0, -2147483648, 2147483647, 0), (1, 0, 0, 0, 0, 0), (2, 30029, 4, 1, 0, 0)], 0, 0), (0, []))]
set_option maxRecDepth 100000 in
theorem kt_X9_fail_856848 : sf_chk [] kq_X9_fail_856848 2 kc_X9_fail_856848 kd_X9_fail_856848 = true := by decide +kernel
set_option maxRecDepth 100000 in
theorem kl_X9_fail_856848 : (kc_X9_fail_856848).map (fun c => (c.1, sf_den ([] : List sf_X) c.2)) = L_X9_fail := rfl
theorem ct_X9_fail_856848 : sf_ct kq_X9_fail_856848 Z_X9_fail := by
  have h := sf_meth (K := []) (E := []) (k := kq_X9_fail_856848) (nL := 2) (C := kc_X9_fail_856848) (D := kd_X9_fail_856848) (fun m k hk => match m, hk with
    | _ + 0, hk => (by cases hk)) kt_X9_fail_856848
  rw [kl_X9_fail_856848] at h
  exact h
def kq_X9_fail_9f7057 : sf_Q := ([(1, 9, 0), (0, 0, 0)], [(1, 3, 0, 2, 2, 0)], some (0, 0, 0), [(1, 30029, 0, 2, 2, 0), (1, 0, 0, 0, 0, 0)], [(9, 9, 9)])
def kc_X9_fail_9f7057 : List (Nat × sf_I) := [(0, 4, [1, 0]),
  (1, 2, [2, 1]),
  (2, 24, [5, 9, 9, 0]),
  (5, 0, [6, 0]),
  (6, 36, [0, 0])]
def kd_X9_fail_9f7057 : List (Nat × sf_D × sf_M) := [(0, ([(1, 9, 0), (0, 0, 0)], [], [(1, 4, 0, 2, 2, 0)], 0, 0), (4, [])),
  (1, ([(1, 9, 0), (0, 0, 0)], [(1, 9, 0)], [(1, 4, 0, 2, 2, 0)], 0, 0), (3, [])),
  (2, ([(1, 9, 0), (0, 0, 0)], [(0, 0, 0), (1, 9, 0)], [(1, 4, 0, 2, 2, 0), (1, 3, 0, 2, 2, 0), (2, 3, 4, 1, 0, 0)], 0, 0), (2, [])),
  (5, ([(1, 9, 0), (0, 0, 0)], [], [(1, 4, 0, 2, 2, 0), (1, 30029, 0, 2, 2, 0), (2, 30029, 4, 1, 0, 0)], 0, 0), (1, [])),
  (6, ([(1, 9, 0), (0, 0, 0)], [(0, 0, 0)], [(1, 4, 0, 2, 2, 0), (1, 30029, 0, 2, 2, 0), (1, 0, 0, 0, 0, 0), (2, 30029, 4, 1, 0, 0)], 0, 0), (0, []))]
set_option maxRecDepth 100000 in
theorem kt_X9_fail_9f7057 : sf_chk [] kq_X9_fail_9f7057 2 kc_X9_fail_9f7057 kd_X9_fail_9f7057 = true := by decide +kernel
set_option maxRecDepth 100000 in
theorem kl_X9_fail_9f7057 : (kc_X9_fail_9f7057).map (fun c => (c.1, sf_den ([] : List sf_X) c.2)) = L_X9_fail := rfl
theorem ct_X9_fail_9f7057 : sf_ct kq_X9_fail_9f7057 Z_X9_fail := by
  have h := sf_meth (K := []) (E := []) (k := kq_X9_fail_9f7057) (nL := 2) (C := kc_X9_fail_9f7057) (D := kd_X9_fail_9f7057) (fun m k hk => match m, hk with
    | _ + 0, hk => (by cases hk)) kt_X9_fail_9f7057
  rw [kl_X9_fail_9f7057] at h
  exact h
def kq_X9_takeNumber_069512 : sf_Q := ([(1, 9, 0), (0, 0, 0), (0, 0, 0)], [(1, 3, 0, 0, 0, 0), (1, 6, 0, 1, 1, 0)], some (0, 0, 0), [(1, 0, 0, 0, 1, 0), (3, 0, 30023, 0, 1, 0)], [(9, 4, 9)])
def kc_X9_takeNumber_069512 : List (Nat × sf_I) := [(0, 4, [1, 0]),
  (1, 32, [4, 0, 1, 9, 0, 0, 0, 0]),
  (4, 4, [5, 0]),
  (5, 23, [8, 9, 5]),
  (8, 0, [9, 3]),
  (9, 21, [12, 18, 0]),
  (12, 4, [13, 0]),
  (13, 0, [14, 1]),
  (14, 32, [17, 1, 2, 9, 0, 0, 0, 0]),
  (17, 36, [0, 0]),
  (18, 4, [19, 0]),
  (19, 23, [22, 9, 7]),
  (22, 2, [23, 1]),
  (23, 21, [26, 34, 2]),
  (26, 4, [27, 0]),
  (27, 23, [30, 9, 7]),
  (30, 2, [31, 2]),
  (31, 21, [34, 42, 3]),
  (34, 4, [35, 0]),
  (35, 0, [36, 2]),
  (36, 32, [39, 2, 2, 9, 0, 0, 0, 0]),
  (39, 20, [42, 46, 0]),
  (42, 0, [43, 1]),
  (43, 22, [47]),
  (46, 0, [47, 0]),
  (47, 36, [0, 0])]
def kd_X9_takeNumber_069512_0 : List (Nat × sf_D × sf_M) := [(0, ([(1, 9, 0), (0, 0, 0), (0, 0, 0)], [], [(1, 4, 0, 0, 0, 0), (1, 7, 0, 1, 1, 0)], 0, 0), (19, [])),
  (1, ([(1, 9, 0), (0, 0, 0), (0, 0, 0)], [(1, 9, 0)], [(1, 4, 0, 0, 0, 0), (1, 7, 0, 1, 1, 0)], 0, 0), (18, [])),
  (4, ([(1, 9, 0), (0, 0, 0), (0, 0, 0)], [], [(1, 4, 0, 0, 0, 0), (1, 7, 0, 1, 1, 0)], 0, 0), (17, [])),
  (5, ([(1, 9, 0), (0, 0, 0), (0, 0, 0)], [(1, 9, 0)], [(1, 4, 0, 0, 0, 0), (1, 7, 0, 1, 1, 0)], 0, 0), (16, [])),
  (8, ([(1, 9, 0), (0, 0, 0), (0, 0, 0)], [(0, 0, 2147483647)], [(1, 4, 0, 0, 0, 0), (1, 7, 0, 1, 1, 0), (1, 0, 0, -2147483648, 2147483647, 0), (1, 30017, 0, -2147483648, 2147483647, 0), (2, 0, 30017, 1, 0, 0)], 0, 0), (15, [])),
  (9, ([(1, 9, 0), (0, 0, 0), (0, 0, 0)], [(0, 0, 0), (0, 0, 2147483647)], [(1, 4, 0, 0, 0, 0), (1, 7, 0, 1, 1, 0), (1, 0, 0, -2147483648, 2147483647, 0), (1, 30017, 0, -2147483648, 2147483647, 0), (1, 3, 0, 3, 3, 0), (2, 0, 30017, 1, 0, 0)], 0, 0), (14, [])),
  (12, ([(1, 9, 0), (0, 0, 0), (0, 0, 0)], [], [(1, 4, 0, 0, 0, 0), (1, 7, 0, 1, 1, 0), (1, 30017, 0, -2147483648, 2147483647, 0)], 0, 0), (3, [])),
  (13, ([(1, 9, 0), (0, 0, 0), (0, 0, 0)], [(1, 9, 0)], [(1, 4, 0, 0, 0, 0), (1, 7, 0, 1, 1, 0), (1, 30017, 0, -2147483648, 2147483647, 0)], 0, 0), (2, [])),
  (14, ([(1, 9, 0), (0, 0, 0), (0, 0, 0)], [(0, 0, 0), (1, 9, 0)], [(1, 4, 0, 0, 0, 0), (1, 7, 0, 1, 1, 0), (1, 30017, 0, -2147483648, 2147483647, 0), (1, 3, 0, 1, 1, 0)], 0, 0), (1, []))]
def kd_X9_takeNumber_069512_1 : List (Nat × sf_D × sf_M) := [(17, ([(1, 9, 0), (0, 0, 0), (0, 0, 0)], [(0, 0, 0)], [(1, 4, 0, 0, 0, 0), (1, 7, 0, 1, 1, 0), (1, 30017, 0, -2147483648, 2147483647, 0), (1, 30029, 0, 1, 1, 0), (1, 0, 0, 0, 0, 0)], 0, 0), (0, [])),
  (18, ([(1, 9, 0), (0, 0, 0), (0, 0, 0)], [], [(1, 4, 0, 0, 0, 0), (1, 7, 0, 1, 1, 0), (1, 30017, 0, 3, 3, 0)], 0, 0), (13, [])),
  (19, ([(1, 9, 0), (0, 0, 0), (0, 0, 0)], [(1, 9, 0)], [(1, 4, 0, 0, 0, 0), (1, 7, 0, 1, 1, 0), (1, 30017, 0, 3, 3, 0)], 0, 0), (12, [])),
  (22, ([(1, 9, 0), (0, 0, 0), (0, 0, 0)], [(0, 0, 2147483647)], [(1, 4, 0, 0, 0, 0), (1, 7, 0, 1, 1, 0), (1, 30017, 0, 3, 3, 0), (1, 0, 0, -2147483648, 2147483647, 0), (1, 30023, 0, -2147483648, 2147483647, 0), (2, 0, 30023, 1, 0, 0)], 0, 0), (11, [])),
  (23, ([(1, 9, 0), (0, 0, 0), (0, 0, 0)], [(0, 0, 0), (0, 0, 2147483647)], [(1, 4, 0, 0, 0, 0), (1, 7, 0, 1, 1, 0), (1, 30017, 0, 3, 3, 0), (1, 0, 0, -2147483648, 2147483647, 0), (1, 30023, 0, -2147483648, 2147483647, 0), (1, 3, 0, 0, 0, 0), (2, 0, 30023, 1, 0, 0), (2, 3, 4, 1, 0, 0)], 0, 0), (10, [])),
  (26, ([(1, 9, 0), (0, 0, 0), (0, 0, 0)], [], [(1, 4, 0, 0, 0, 0), (1, 7, 0, 1, 1, 0), (1, 30017, 0, 3, 3, 0), (1, 30023, 0, 0, 2147483647, 0)], 0, 0), (9, [])),
  (27, ([(1, 9, 0), (0, 0, 0), (0, 0, 0)], [(1, 9, 0)], [(1, 4, 0, 0, 0, 0), (1, 7, 0, 1, 1, 0), (1, 30017, 0, 3, 3, 0), (1, 30023, 0, 0, 2147483647, 0)], 0, 0), (8, []))]
def kd_X9_takeNumber_069512_2 : List (Nat × sf_D × sf_M) := [(30, ([(1, 9, 0), (0, 0, 0), (0, 0, 0)], [(0, 0, 2147483647)], [(1, 4, 0, 0, 0, 0), (1, 7, 0, 1, 1, 0), (1, 30017, 0, 3, 3, 0), (1, 30023, 0, 0, 2147483647, 0), (1, 0, 0, 0, 2147483647, 0), (2, 0, 30023, 1, 0, 0)], 0, 0), (7, [])),
  (31, ([(1, 9, 0), (0, 0, 0), (0, 0, 0)], [(0, 0, 0), (0, 0, 2147483647)], [(1, 4, 0, 0, 0, 0), (1, 7, 0, 1, 1, 0), (1, 30017, 0, 3, 3, 0), (1, 30023, 0, 0, 2147483647, 0), (1, 0, 0, 0, 2147483647, 0), (1, 3, 0, 1, 1, 0), (2, 0, 30023, 1, 0, 0), (2, 3, 7, 1, 0, 0)], 0, 0), (6, [])),
  (34, ([(1, 9, 0), (0, 0, 0), (0, 0, 0)], [], [(1, 4, 0, 0, 0, 0), (1, 7, 0, 1, 1, 0), (1, 30017, 0, 3, 3, 0), (1, 30023, 0, -2147483648, 2147483647, 0)], 0, 0), (5, [])),
  (35, ([(1, 9, 0), (0, 0, 0), (0, 0, 0)], [(1, 9, 0)], [(1, 4, 0, 0, 0, 0), (1, 7, 0, 1, 1, 0), (1, 30017, 0, 3, 3, 0), (1, 30023, 0, -2147483648, 2147483647, 0)], 0, 0), (4, [])),
  (36, ([(1, 9, 0), (0, 0, 0), (0, 0, 0)], [(0, 0, 0), (1, 9, 0)], [(1, 4, 0, 0, 0, 0), (1, 7, 0, 1, 1, 0), (1, 30017, 0, 3, 3, 0), (1, 30023, 0, -2147483648, 2147483647, 0), (1, 3, 0, 2, 2, 0)], 0, 0), (3, [])),
  (39, ([(1, 9, 0), (0, 0, 0), (0, 0, 0)], [(0, 0, 0)], [(1, 4, 0, 0, 0, 0), (1, 7, 0, 1, 1, 0), (1, 30017, 0, 3, 3, 0), (1, 30023, 0, -2147483648, 2147483647, 0), (1, 30029, 0, 2, 2, 0), (1, 0, 0, 0, 0, 0)], 0, 0), (2, []))]
def kd_X9_takeNumber_069512_3 : List (Nat × sf_D × sf_M) := [(42, ([(1, 9, 0), (0, 0, 0), (0, 0, 0)], [], [(1, 4, 0, 0, 0, 0), (1, 7, 0, 1, 1, 0), (1, 30017, 0, 3, 3, 0), (1, 30023, 0, 0, 1, 0)], 0, 0), (2, [])),
  (43, ([(1, 9, 0), (0, 0, 0), (0, 0, 0)], [(0, 0, 0)], [(1, 4, 0, 0, 0, 0), (1, 7, 0, 1, 1, 0), (1, 30017, 0, 3, 3, 0), (1, 30023, 0, 0, 1, 0), (1, 0, 0, 1, 1, 0)], 0, 0), (1, [])),
  (46, ([(1, 9, 0), (0, 0, 0), (0, 0, 0)], [], [(1, 4, 0, 0, 0, 0), (1, 7, 0, 1, 1, 0), (1, 30017, 0, 3, 3, 0), (1, 30023, 0, -2147483648, 2147483647, 0), (1, 30029, 0, 2, 2, 0)], 0, 0), (1, [])),
  (47, ([(1, 9, 0), (0, 0, 0), (0, 0, 0)], [(0, 0, 0)], [(1, 4, 0, 0, 0, 0), (1, 7, 0, 1, 1, 0), (1, 30017, 0, 3, 3, 0), (1, 30023, 0, -2147483648, 2147483647, 0), (1, 0, 0, 0, 1, 0), (3, 0, 30029, 2, 2, 1), (3, 0, 30023, 0, 1, 0)], 0, 0), (0, []))]
def kd_X9_takeNumber_069512 : List (Nat × sf_D × sf_M) := kd_X9_takeNumber_069512_0 ++ (kd_X9_takeNumber_069512_1 ++ (kd_X9_takeNumber_069512_2 ++ (kd_X9_takeNumber_069512_3)))
set_option maxRecDepth 100000 in
theorem kt_X9_takeNumber_069512 : sf_chk [kq_X9_step_eafd3e, kq_X9_fail_c3f7a2, kq_X9_fail_9f7057] kq_X9_takeNumber_069512 3 kc_X9_takeNumber_069512 kd_X9_takeNumber_069512 = true := by decide +kernel
set_option maxRecDepth 100000 in
theorem kl_X9_takeNumber_069512 : (kc_X9_takeNumber_069512).map (fun c => (c.1, sf_den ([Z_X9_step, Z_X9_fail, Z_X9_fail] : List sf_X) c.2)) = L_X9_takeNumber Z_X9_step Z_X9_fail := rfl
theorem ct_X9_takeNumber_069512 : sf_ct kq_X9_takeNumber_069512 Z_X9_takeNumber := by
  have h := sf_meth (K := [kq_X9_step_eafd3e, kq_X9_fail_c3f7a2, kq_X9_fail_9f7057]) (E := [Z_X9_step, Z_X9_fail, Z_X9_fail]) (k := kq_X9_takeNumber_069512) (nL := 3) (C := kc_X9_takeNumber_069512) (D := kd_X9_takeNumber_069512) (fun m k hk => match m, hk with
    | 0, hk => (Option.some.inj hk) ▸ ct_X9_step_eafd3e
    | 1, hk => (Option.some.inj hk) ▸ ct_X9_fail_c3f7a2
    | 2, hk => (Option.some.inj hk) ▸ ct_X9_fail_9f7057
    | _ + 3, hk => (by cases hk)) kt_X9_takeNumber_069512
  rw [kl_X9_takeNumber_069512] at h
  exact h
def kq_X8_valueAt_515960 : sf_Q := ([(1, 8, 0), (0, 0, 0)], [(1, 3, 0, 1, 29, 0)], some (0, 0, 0), [(1, 0, 0, 0, 255, 0)], [])
def kc_X8_valueAt_515960 : List (Nat × sf_I) := [(0, 2, [1, 1]),
  (1, 20, [4, 24, 2]),
  (4, 2, [5, 1]),
  (5, 0, [8, 940]),
  (8, 21, [11, 24, 5]),
  (11, 4, [12, 0]),
  (12, 23, [15, 8, 0]),
  (15, 2, [16, 1]),
  (16, 25, [17, 0]),
  (17, 0, [20, 255]),
  (20, 9, [21, 3]),
  (21, 22, [25]),
  (24, 0, [25, 0]),
  (25, 35, [0, 0])]
def kd_X8_valueAt_515960 : List (Nat × sf_D × sf_M) := [(0, ([(1, 8, 0), (0, 0, 0)], [], [(1, 4, 0, 1, 29, 0)], 0, 0), (12, [])),
  (1, ([(1, 8, 0), (0, 0, 0)], [(0, 0, 0)], [(1, 4, 0, 1, 29, 0), (1, 0, 0, 1, 29, 0), (2, 0, 4, 1, 0, 0)], 0, 0), (11, [])),
  (4, ([(1, 8, 0), (0, 0, 0)], [], [(1, 4, 0, 1, 29, 0)], 0, 0), (10, [])),
  (5, ([(1, 8, 0), (0, 0, 0)], [(0, 0, 0)], [(1, 4, 0, 1, 29, 0), (1, 0, 0, 1, 29, 0), (2, 0, 4, 1, 0, 0)], 0, 0), (9, [])),
  (8, ([(1, 8, 0), (0, 0, 0)], [(0, 0, 0), (0, 0, 0)], [(1, 4, 0, 1, 29, 0), (1, 0, 0, 1, 29, 0), (1, 3, 0, 940, 940, 0), (2, 0, 4, 1, 0, 0)], 0, 0), (8, [])),
  (11, ([(1, 8, 0), (0, 0, 0)], [], [(1, 4, 0, 1, 29, 0)], 0, 0), (7, [])),
  (12, ([(1, 8, 0), (0, 0, 0)], [(1, 8, 0)], [(1, 4, 0, 1, 29, 0)], 0, 0), (6, [])),
  (15, ([(1, 8, 0), (0, 0, 0)], [(1, 123, 0)], [(1, 4, 0, 1, 29, 0)], 0, 0), (5, [])),
  (16, ([(1, 8, 0), (0, 0, 0)], [(0, 0, 0), (1, 123, 0)], [(1, 4, 0, 1, 29, 0), (1, 3, 0, 1, 29, 0), (2, 3, 4, 1, 0, 0)], 0, 0), (4, [])),
  (17, ([(1, 8, 0), (0, 0, 0)], [(0, 0, 0)], [(1, 4, 0, 1, 29, 0), (1, 0, 0, -2147483648, 2147483647, 0)], 0, 0), (3, [])),
  (20, ([(1, 8, 0), (0, 0, 0)], [(0, 0, 0), (0, 0, 0)], [(1, 4, 0, 1, 29, 0), (1, 0, 0, -2147483648, 2147483647, 0), (1, 3, 0, 255, 255, 0)], 0, 0), (2, [])),
  (21, ([(1, 8, 0), (0, 0, 0)], [(0, 0, 0)], [(1, 4, 0, 1, 29, 0), (1, 0, 0, 0, 255, 0)], 0, 0), (1, [])),
  (25, ([(1, 8, 0), (0, 0, 0)], [(0, 0, 0)], [(1, 4, 0, 1, 29, 0), (1, 0, 0, 0, 255, 0)], 0, 0), (0, []))]
set_option maxRecDepth 100000 in
theorem kt_X8_valueAt_515960 : sf_chk [] kq_X8_valueAt_515960 2 kc_X8_valueAt_515960 kd_X8_valueAt_515960 = true := by decide +kernel
set_option maxRecDepth 100000 in
theorem kl_X8_valueAt_515960 : (kc_X8_valueAt_515960).map (fun c => (c.1, sf_den ([] : List sf_X) c.2)) = L_X8_valueAt := rfl
theorem ct_X8_valueAt_515960 : sf_ct kq_X8_valueAt_515960 Z_X8_valueAt := by
  have h := sf_meth (K := []) (E := []) (k := kq_X8_valueAt_515960) (nL := 2) (C := kc_X8_valueAt_515960) (D := kd_X8_valueAt_515960) (fun m k hk => match m, hk with
    | _ + 0, hk => (by cases hk)) kt_X8_valueAt_515960
  rw [kl_X8_valueAt_515960] at h
  exact h
def kq_X7_leftAfter_b883ae : sf_Q := ([(1, 7, 0), (0, 0, 0), (0, 0, 0)], [(1, 3, 0, 0, 11, 0), (1, 6, 0, 0, 255, 0)], some (0, 0, 0), [(1, 0, 0, -250, 505, 0)], [])
def kc_X7_leftAfter_b883ae : List (Nat × sf_I) := [(0, 0, [3, 999]),
  (3, 2, [4, 2]),
  (4, 4, [5, 0]),
  (5, 23, [8, 7, 3]),
  (8, 0, [10, 36]),
  (10, 2, [11, 1]),
  (11, 9, [12, 0]),
  (12, 25, [13, 1]),
  (13, 9, [14, 0]),
  (14, 33, [17, 1, 0, 0]),
  (17, 5, [18, 3]),
  (18, 2, [19, 3]),
  (19, 4, [20, 0]),
  (20, 23, [23, 7, 3]),
  (23, 0, [25, 24]),
  (25, 2, [26, 1]),
  (26, 9, [27, 0]),
  (27, 25, [28, 1]),
  (28, 9, [29, 1]),
  (29, 35, [0, 0])]
def kd_X7_leftAfter_b883ae_0 : List (Nat × sf_D × sf_M) := [(0, ([(1, 7, 0), (0, 0, 0), (0, 0, 0), (8, 0, 0)], [], [(1, 4, 0, 0, 11, 0), (1, 7, 0, 0, 255, 0)], 0, 0), (19, [])),
  (3, ([(1, 7, 0), (0, 0, 0), (0, 0, 0), (8, 0, 0)], [(0, 0, 0)], [(1, 4, 0, 0, 11, 0), (1, 7, 0, 0, 255, 0), (1, 0, 0, 999, 999, 0)], 0, 0), (18, [])),
  (4, ([(1, 7, 0), (0, 0, 0), (0, 0, 0), (8, 0, 0)], [(0, 0, 0), (0, 0, 0)], [(1, 4, 0, 0, 11, 0), (1, 7, 0, 0, 255, 0), (1, 0, 0, 999, 999, 0), (1, 3, 0, 0, 255, 0), (2, 3, 7, 1, 0, 0)], 0, 0), (17, [])),
  (5, ([(1, 7, 0), (0, 0, 0), (0, 0, 0), (8, 0, 0)], [(1, 7, 0), (0, 0, 0), (0, 0, 0)], [(1, 4, 0, 0, 11, 0), (1, 7, 0, 0, 255, 0), (1, 0, 0, 999, 999, 0), (1, 3, 0, 0, 255, 0), (2, 3, 7, 1, 0, 0)], 0, 0), (16, [])),
  (8, ([(1, 7, 0), (0, 0, 0), (0, 0, 0), (8, 0, 0)], [(1, 119, 0), (0, 0, 0), (0, 0, 0)], [(1, 4, 0, 0, 11, 0), (1, 7, 0, 0, 255, 0), (1, 0, 0, 999, 999, 0), (1, 3, 0, 0, 255, 0), (2, 3, 7, 1, 0, 0)], 0, 0), (15, [])),
  (10, ([(1, 7, 0), (0, 0, 0), (0, 0, 0), (8, 0, 0)], [(0, 0, 0), (1, 119, 0), (0, 0, 0), (0, 0, 0)], [(1, 4, 0, 0, 11, 0), (1, 7, 0, 0, 255, 0), (1, 0, 0, 999, 999, 0), (1, 3, 0, 0, 255, 0), (1, 9, 0, 36, 36, 0), (2, 3, 7, 1, 0, 0)], 0, 0), (14, []))]
def kd_X7_leftAfter_b883ae_1 : List (Nat × sf_D × sf_M) := [(11, ([(1, 7, 0), (0, 0, 0), (0, 0, 0), (8, 0, 0)], [(0, 0, 0), (0, 0, 0), (1, 119, 0), (0, 0, 0), (0, 0, 0)], [(1, 4, 0, 0, 11, 0), (1, 7, 0, 0, 255, 0), (1, 0, 0, 999, 999, 0), (1, 3, 0, 0, 255, 0), (1, 9, 0, 36, 36, 0), (1, 12, 0, 0, 11, 0), (2, 3, 7, 1, 0, 0), (2, 12, 4, 1, 0, 0)], 0, 0), (13, [])),
  (12, ([(1, 7, 0), (0, 0, 0), (0, 0, 0), (8, 0, 0)], [(0, 0, 0), (1, 119, 0), (0, 0, 0), (0, 0, 0)], [(1, 4, 0, 0, 11, 0), (1, 7, 0, 0, 255, 0), (1, 0, 0, 999, 999, 0), (1, 3, 0, 0, 255, 0), (1, 9, 0, 36, 47, 0), (2, 3, 7, 1, 0, 0), (2, 9, 4, 1, 36, 0)], 0, 0), (12, [])),
  (13, ([(1, 7, 0), (0, 0, 0), (0, 0, 0), (8, 0, 0)], [(0, 0, 0), (0, 0, 0), (0, 0, 0)], [(1, 4, 0, 0, 11, 0), (1, 7, 0, 0, 255, 0), (1, 0, 0, 999, 999, 0), (1, 3, 0, 0, 255, 0), (1, 6, 0, 0, 250, 0), (2, 3, 7, 1, 0, 0)], 0, 0), (11, [])),
  (14, ([(1, 7, 0), (0, 0, 0), (0, 0, 0), (8, 0, 0)], [(0, 0, 0), (0, 0, 0)], [(1, 4, 0, 0, 11, 0), (1, 7, 0, 0, 255, 0), (1, 0, 0, 999, 999, 0), (1, 3, 0, 0, 505, 0)], 0, 0), (10, [])),
  (17, ([(1, 7, 0), (0, 0, 0), (0, 0, 0), (8, 0, 0)], [(0, 0, 0)], [(1, 4, 0, 0, 11, 0), (1, 7, 0, 0, 255, 0), (1, 0, 0, 0, 505, 0)], 0, 0), (9, []))]
def kd_X7_leftAfter_b883ae_2 : List (Nat × sf_D × sf_M) := [(18, ([(1, 7, 0), (0, 0, 0), (0, 0, 0), (0, 0, 0)], [], [(1, 4, 0, 0, 11, 0), (1, 7, 0, 0, 255, 0), (1, 10, 0, 0, 505, 0)], 0, 0), (8, [])),
  (19, ([(1, 7, 0), (0, 0, 0), (0, 0, 0), (0, 0, 0)], [(0, 0, 0)], [(1, 4, 0, 0, 11, 0), (1, 7, 0, 0, 255, 0), (1, 10, 0, 0, 505, 0), (1, 0, 0, 0, 505, 0), (2, 0, 10, 1, 0, 0)], 0, 0), (7, [])),
  (20, ([(1, 7, 0), (0, 0, 0), (0, 0, 0), (0, 0, 0)], [(1, 7, 0), (0, 0, 0)], [(1, 4, 0, 0, 11, 0), (1, 7, 0, 0, 255, 0), (1, 10, 0, 0, 505, 0), (1, 0, 0, 0, 505, 0), (2, 0, 10, 1, 0, 0)], 0, 0), (6, [])),
  (23, ([(1, 7, 0), (0, 0, 0), (0, 0, 0), (0, 0, 0)], [(1, 119, 0), (0, 0, 0)], [(1, 4, 0, 0, 11, 0), (1, 7, 0, 0, 255, 0), (1, 10, 0, 0, 505, 0), (1, 0, 0, 0, 505, 0), (2, 0, 10, 1, 0, 0)], 0, 0), (5, [])),
  (25, ([(1, 7, 0), (0, 0, 0), (0, 0, 0), (0, 0, 0)], [(0, 0, 0), (1, 119, 0), (0, 0, 0)], [(1, 4, 0, 0, 11, 0), (1, 7, 0, 0, 255, 0), (1, 10, 0, 0, 505, 0), (1, 0, 0, 0, 505, 0), (1, 6, 0, 24, 24, 0), (2, 0, 10, 1, 0, 0)], 0, 0), (4, []))]
def kd_X7_leftAfter_b883ae_3 : List (Nat × sf_D × sf_M) := [(26, ([(1, 7, 0), (0, 0, 0), (0, 0, 0), (0, 0, 0)], [(0, 0, 0), (0, 0, 0), (1, 119, 0), (0, 0, 0)], [(1, 4, 0, 0, 11, 0), (1, 7, 0, 0, 255, 0), (1, 10, 0, 0, 505, 0), (1, 0, 0, 0, 505, 0), (1, 6, 0, 24, 24, 0), (1, 9, 0, 0, 11, 0), (2, 0, 10, 1, 0, 0), (2, 9, 4, 1, 0, 0)], 0, 0), (3, [])),
  (27, ([(1, 7, 0), (0, 0, 0), (0, 0, 0), (0, 0, 0)], [(0, 0, 0), (1, 119, 0), (0, 0, 0)], [(1, 4, 0, 0, 11, 0), (1, 7, 0, 0, 255, 0), (1, 10, 0, 0, 505, 0), (1, 0, 0, 0, 505, 0), (1, 6, 0, 24, 35, 0), (2, 0, 10, 1, 0, 0), (2, 6, 4, 1, 24, 0)], 0, 0), (2, [])),
  (28, ([(1, 7, 0), (0, 0, 0), (0, 0, 0), (0, 0, 0)], [(0, 0, 0), (0, 0, 0)], [(1, 4, 0, 0, 11, 0), (1, 7, 0, 0, 255, 0), (1, 10, 0, 0, 505, 0), (1, 0, 0, 0, 505, 0), (1, 3, 0, 0, 250, 0), (2, 0, 10, 1, 0, 0)], 0, 0), (1, [])),
  (29, ([(1, 7, 0), (0, 0, 0), (0, 0, 0), (0, 0, 0)], [(0, 0, 0)], [(1, 4, 0, 0, 11, 0), (1, 7, 0, 0, 255, 0), (1, 10, 0, 0, 505, 0), (1, 0, 0, -250, 505, 0)], 0, 0), (0, []))]
def kd_X7_leftAfter_b883ae : List (Nat × sf_D × sf_M) := kd_X7_leftAfter_b883ae_0 ++ (kd_X7_leftAfter_b883ae_1 ++ (kd_X7_leftAfter_b883ae_2 ++ (kd_X7_leftAfter_b883ae_3)))
set_option maxRecDepth 100000 in
theorem kt_X7_leftAfter_b883ae : sf_chk [] kq_X7_leftAfter_b883ae 4 kc_X7_leftAfter_b883ae kd_X7_leftAfter_b883ae = true := by decide +kernel
set_option maxRecDepth 100000 in
theorem kl_X7_leftAfter_b883ae : (kc_X7_leftAfter_b883ae).map (fun c => (c.1, sf_den ([] : List sf_X) c.2)) = L_X7_leftAfter := rfl
theorem ct_X7_leftAfter_b883ae : sf_ct kq_X7_leftAfter_b883ae Z_X7_leftAfter := by
  have h := sf_meth (K := []) (E := []) (k := kq_X7_leftAfter_b883ae) (nL := 4) (C := kc_X7_leftAfter_b883ae) (D := kd_X7_leftAfter_b883ae) (fun m k hk => match m, hk with
    | _ + 0, hk => (by cases hk)) kt_X7_leftAfter_b883ae
  rw [kl_X7_leftAfter_b883ae] at h
  exact h
def kq_X7_stockAfter_b883ae : sf_Q := ([(1, 7, 0), (0, 0, 0), (0, 0, 0)], [(1, 3, 0, 0, 11, 0), (1, 6, 0, 0, 255, 0)], some (0, 0, 0), [(1, 0, 0, 0, 505, 0)], [])
def kc_X7_stockAfter_b883ae : List (Nat × sf_I) := [(0, 0, [1, 0]),
  (1, 4, [2, 0]),
  (2, 2, [3, 1]),
  (3, 2, [4, 2]),
  (4, 32, [7, 0, 3, 7, 0, 0, 0, 0]),
  (7, 33, [10, 0, 0, 0]),
  (10, 35, [0, 0])]
def kd_X7_stockAfter_b883ae : List (Nat × sf_D × sf_M) := [(0, ([(1, 7, 0), (0, 0, 0), (0, 0, 0)], [], [(1, 4, 0, 0, 11, 0), (1, 7, 0, 0, 255, 0)], 0, 0), (6, [])),
  (1, ([(1, 7, 0), (0, 0, 0), (0, 0, 0)], [(0, 0, 0)], [(1, 4, 0, 0, 11, 0), (1, 7, 0, 0, 255, 0), (1, 0, 0, 0, 0, 0)], 0, 0), (5, [])),
  (2, ([(1, 7, 0), (0, 0, 0), (0, 0, 0)], [(1, 7, 0), (0, 0, 0)], [(1, 4, 0, 0, 11, 0), (1, 7, 0, 0, 255, 0), (1, 0, 0, 0, 0, 0)], 0, 0), (4, [])),
  (3, ([(1, 7, 0), (0, 0, 0), (0, 0, 0)], [(0, 0, 0), (1, 7, 0), (0, 0, 0)], [(1, 4, 0, 0, 11, 0), (1, 7, 0, 0, 255, 0), (1, 0, 0, 0, 0, 0), (1, 6, 0, 0, 11, 0), (2, 6, 4, 1, 0, 0)], 0, 0), (3, [])),
  (4, ([(1, 7, 0), (0, 0, 0), (0, 0, 0)], [(0, 0, 0), (0, 0, 0), (1, 7, 0), (0, 0, 0)], [(1, 4, 0, 0, 11, 0), (1, 7, 0, 0, 255, 0), (1, 0, 0, 0, 0, 0), (1, 6, 0, 0, 11, 0), (1, 9, 0, 0, 255, 0), (2, 6, 4, 1, 0, 0), (2, 9, 7, 1, 0, 0)], 0, 0), (2, [])),
  (7, ([(1, 7, 0), (0, 0, 0), (0, 0, 0)], [(0, 0, 0), (0, 0, 0)], [(1, 4, 0, 0, 11, 0), (1, 7, 0, 0, 255, 0), (1, 0, 0, 0, 0, 0), (1, 3, 0, -250, 505, 0)], 0, 0), (1, [])),
  (10, ([(1, 7, 0), (0, 0, 0), (0, 0, 0)], [(0, 0, 0)], [(1, 4, 0, 0, 11, 0), (1, 7, 0, 0, 255, 0), (1, 0, 0, 0, 505, 0)], 0, 0), (0, []))]
set_option maxRecDepth 100000 in
theorem kt_X7_stockAfter_b883ae : sf_chk [kq_X7_leftAfter_b883ae] kq_X7_stockAfter_b883ae 3 kc_X7_stockAfter_b883ae kd_X7_stockAfter_b883ae = true := by decide +kernel
set_option maxRecDepth 100000 in
theorem kl_X7_stockAfter_b883ae : (kc_X7_stockAfter_b883ae).map (fun c => (c.1, sf_den ([Z_X7_leftAfter] : List sf_X) c.2)) = L_X7_stockAfter Z_X7_leftAfter := rfl
theorem ct_X7_stockAfter_b883ae : sf_ct kq_X7_stockAfter_b883ae Z_X7_stockAfter := by
  have h := sf_meth (K := [kq_X7_leftAfter_b883ae]) (E := [Z_X7_leftAfter]) (k := kq_X7_stockAfter_b883ae) (nL := 3) (C := kc_X7_stockAfter_b883ae) (D := kd_X7_stockAfter_b883ae) (fun m k hk => match m, hk with
    | 0, hk => (Option.some.inj hk) ▸ ct_X7_leftAfter_b883ae
    | _ + 1, hk => (by cases hk)) kt_X7_stockAfter_b883ae
  rw [kl_X7_stockAfter_b883ae] at h
  exact h
def kq_X8_valueAt_1664a2 : sf_Q := ([(1, 8, 0), (0, 0, 0)], [(1, 3, 0, 2, 30, 0)], some (0, 0, 0), [(1, 0, 0, 0, 255, 0)], [])
def kc_X8_valueAt_1664a2 : List (Nat × sf_I) := [(0, 2, [1, 1]),
  (1, 20, [4, 24, 2]),
  (4, 2, [5, 1]),
  (5, 0, [8, 940]),
  (8, 21, [11, 24, 5]),
  (11, 4, [12, 0]),
  (12, 23, [15, 8, 0]),
  (15, 2, [16, 1]),
  (16, 25, [17, 0]),
  (17, 0, [20, 255]),
  (20, 9, [21, 3]),
  (21, 22, [25]),
  (24, 0, [25, 0]),
  (25, 35, [0, 0])]
def kd_X8_valueAt_1664a2 : List (Nat × sf_D × sf_M) := [(0, ([(1, 8, 0), (0, 0, 0)], [], [(1, 4, 0, 2, 30, 0)], 0, 0), (12, [])),
  (1, ([(1, 8, 0), (0, 0, 0)], [(0, 0, 0)], [(1, 4, 0, 2, 30, 0), (1, 0, 0, 2, 30, 0), (2, 0, 4, 1, 0, 0)], 0, 0), (11, [])),
  (4, ([(1, 8, 0), (0, 0, 0)], [], [(1, 4, 0, 2, 30, 0)], 0, 0), (10, [])),
  (5, ([(1, 8, 0), (0, 0, 0)], [(0, 0, 0)], [(1, 4, 0, 2, 30, 0), (1, 0, 0, 2, 30, 0), (2, 0, 4, 1, 0, 0)], 0, 0), (9, [])),
  (8, ([(1, 8, 0), (0, 0, 0)], [(0, 0, 0), (0, 0, 0)], [(1, 4, 0, 2, 30, 0), (1, 0, 0, 2, 30, 0), (1, 3, 0, 940, 940, 0), (2, 0, 4, 1, 0, 0)], 0, 0), (8, [])),
  (11, ([(1, 8, 0), (0, 0, 0)], [], [(1, 4, 0, 2, 30, 0)], 0, 0), (7, [])),
  (12, ([(1, 8, 0), (0, 0, 0)], [(1, 8, 0)], [(1, 4, 0, 2, 30, 0)], 0, 0), (6, [])),
  (15, ([(1, 8, 0), (0, 0, 0)], [(1, 123, 0)], [(1, 4, 0, 2, 30, 0)], 0, 0), (5, [])),
  (16, ([(1, 8, 0), (0, 0, 0)], [(0, 0, 0), (1, 123, 0)], [(1, 4, 0, 2, 30, 0), (1, 3, 0, 2, 30, 0), (2, 3, 4, 1, 0, 0)], 0, 0), (4, [])),
  (17, ([(1, 8, 0), (0, 0, 0)], [(0, 0, 0)], [(1, 4, 0, 2, 30, 0), (1, 0, 0, -2147483648, 2147483647, 0)], 0, 0), (3, [])),
  (20, ([(1, 8, 0), (0, 0, 0)], [(0, 0, 0), (0, 0, 0)], [(1, 4, 0, 2, 30, 0), (1, 0, 0, -2147483648, 2147483647, 0), (1, 3, 0, 255, 255, 0)], 0, 0), (2, [])),
  (21, ([(1, 8, 0), (0, 0, 0)], [(0, 0, 0)], [(1, 4, 0, 2, 30, 0), (1, 0, 0, 0, 255, 0)], 0, 0), (1, [])),
  (25, ([(1, 8, 0), (0, 0, 0)], [(0, 0, 0)], [(1, 4, 0, 2, 30, 0), (1, 0, 0, 0, 255, 0)], 0, 0), (0, []))]
set_option maxRecDepth 100000 in
theorem kt_X8_valueAt_1664a2 : sf_chk [] kq_X8_valueAt_1664a2 2 kc_X8_valueAt_1664a2 kd_X8_valueAt_1664a2 = true := by decide +kernel
set_option maxRecDepth 100000 in
theorem kl_X8_valueAt_1664a2 : (kc_X8_valueAt_1664a2).map (fun c => (c.1, sf_den ([] : List sf_X) c.2)) = L_X8_valueAt := rfl
theorem ct_X8_valueAt_1664a2 : sf_ct kq_X8_valueAt_1664a2 Z_X8_valueAt := by
  have h := sf_meth (K := []) (E := []) (k := kq_X8_valueAt_1664a2) (nL := 2) (C := kc_X8_valueAt_1664a2) (D := kd_X8_valueAt_1664a2) (fun m k hk => match m, hk with
    | _ + 0, hk => (by cases hk)) kt_X8_valueAt_1664a2
  rw [kl_X8_valueAt_1664a2] at h
  exact h
def kq_X10_couldGoSo_925abe : sf_Q := ([(1, 10, 0), (0, 0, 0), (0, 0, 0)], [(1, 3, 0, 0, 11, 0), (1, 6, 0, 2, 30, 0)], some (0, 0, 0), [(1, 0, 0, 0, 1, 0)], [])
def kc_X10_couldGoSo_925abe : List (Nat × sf_I) := [(0, 0, [1, 1]),
  (1, 5, [2, 3]),
  (2, 2, [3, 3]),
  (3, 2, [4, 2]),
  (4, 21, [7, 44, 5]),
  (7, 4, [8, 0]),
  (8, 23, [11, 10, 13]),
  (11, 2, [12, 1]),
  (12, 4, [13, 0]),
  (13, 23, [16, 10, 0]),
  (16, 2, [17, 3]),
  (17, 32, [20, 0, 2, 8, 0, 0, 0, 0]),
  (20, 32, [23, 1, 3, 7, 0, 0, 0, 0]),
  (23, 4, [24, 0]),
  (24, 23, [27, 10, 0]),
  (27, 2, [28, 3]),
  (28, 0, [29, 1]),
  (29, 9, [30, 0]),
  (30, 32, [33, 2, 2, 8, 0, 0, 0, 0]),
  (33, 21, [36, 38, 0]),
  (36, 0, [37, 0]),
  (37, 36, [0, 0]),
  (38, 8, [41, 3, 1]),
  (41, 22, [2]),
  (44, 0, [45, 1]),
  (45, 36, [0, 0])]
def kd_X10_couldGoSo_925abe_0 : List (Nat × sf_D × sf_M) := [(0, ([(1, 10, 0), (0, 0, 0), (0, 0, 0), (8, 0, 0)], [], [(1, 4, 0, 0, 11, 0), (1, 7, 0, 2, 30, 0)], 0, 0), (659, [])),
  (1, ([(1, 10, 0), (0, 0, 0), (0, 0, 0), (8, 0, 0)], [(0, 0, 0)], [(1, 4, 0, 0, 11, 0), (1, 7, 0, 2, 30, 0), (1, 0, 0, 1, 1, 0)], 0, 0), (658, [])),
  (2, ([(1, 10, 0), (0, 0, 0), (0, 0, 0), (0, 0, 0)], [], [(1, 4, 0, 0, 11, 0), (1, 7, 0, 2, 30, 0), (1, 10, 0, 1, 30, 0)], 0, 0), (19, [(22, 10, 30, 0)])),
  (3, ([(1, 10, 0), (0, 0, 0), (0, 0, 0), (0, 0, 0)], [(0, 0, 0)], [(1, 4, 0, 0, 11, 0), (1, 7, 0, 2, 30, 0), (1, 10, 0, 1, 30, 0), (1, 0, 0, 1, 30, 0), (2, 0, 10, 1, 0, 0)], 0, 0), (18, [(22, 10, 30, 0)])),
  (4, ([(1, 10, 0), (0, 0, 0), (0, 0, 0), (0, 0, 0)], [(0, 0, 0), (0, 0, 0)], [(1, 4, 0, 0, 11, 0), (1, 7, 0, 2, 30, 0), (1, 10, 0, 1, 30, 0), (1, 0, 0, 1, 30, 0), (1, 3, 0, 2, 30, 0), (2, 0, 10, 1, 0, 0), (2, 3, 7, 1, 0, 0)], 0, 0), (17, [(22, 10, 30, 0)])),
  (7, ([(1, 10, 0), (0, 0, 0), (0, 0, 0), (0, 0, 0)], [], [(1, 4, 0, 0, 11, 0), (1, 7, 0, 2, 30, 0), (1, 10, 0, 1, 29, 0)], 0, 0), (16, [(22, 10, 30, 0)])),
  (8, ([(1, 10, 0), (0, 0, 0), (0, 0, 0), (0, 0, 0)], [(1, 10, 0)], [(1, 4, 0, 0, 11, 0), (1, 7, 0, 2, 30, 0), (1, 10, 0, 1, 29, 0)], 0, 0), (15, [(22, 10, 30, 0)]))]
def kd_X10_couldGoSo_925abe_1 : List (Nat × sf_D × sf_M) := [(11, ([(1, 10, 0), (0, 0, 0), (0, 0, 0), (0, 0, 0)], [(1, 7, 0)], [(1, 4, 0, 0, 11, 0), (1, 7, 0, 2, 30, 0), (1, 10, 0, 1, 29, 0)], 0, 0), (14, [(22, 10, 30, 0)])),
  (12, ([(1, 10, 0), (0, 0, 0), (0, 0, 0), (0, 0, 0)], [(0, 0, 0), (1, 7, 0)], [(1, 4, 0, 0, 11, 0), (1, 7, 0, 2, 30, 0), (1, 10, 0, 1, 29, 0), (1, 3, 0, 0, 11, 0), (2, 3, 4, 1, 0, 0)], 0, 0), (13, [(22, 10, 30, 0)])),
  (13, ([(1, 10, 0), (0, 0, 0), (0, 0, 0), (0, 0, 0)], [(1, 10, 0), (0, 0, 0), (1, 7, 0)], [(1, 4, 0, 0, 11, 0), (1, 7, 0, 2, 30, 0), (1, 10, 0, 1, 29, 0), (1, 3, 0, 0, 11, 0), (2, 3, 4, 1, 0, 0)], 0, 0), (12, [(22, 10, 30, 0)])),
  (16, ([(1, 10, 0), (0, 0, 0), (0, 0, 0), (0, 0, 0)], [(1, 8, 0), (0, 0, 0), (1, 7, 0)], [(1, 4, 0, 0, 11, 0), (1, 7, 0, 2, 30, 0), (1, 10, 0, 1, 29, 0), (1, 3, 0, 0, 11, 0), (2, 3, 4, 1, 0, 0)], 0, 0), (11, [(22, 10, 30, 0)])),
  (17, ([(1, 10, 0), (0, 0, 0), (0, 0, 0), (0, 0, 0)], [(0, 0, 0), (1, 8, 0), (0, 0, 0), (1, 7, 0)], [(1, 4, 0, 0, 11, 0), (1, 7, 0, 2, 30, 0), (1, 10, 0, 1, 29, 0), (1, 3, 0, 0, 11, 0), (1, 9, 0, 1, 29, 0), (2, 3, 4, 1, 0, 0), (2, 9, 10, 1, 0, 0)], 0, 0), (10, [(22, 10, 30, 0)]))]
def kd_X10_couldGoSo_925abe_2 : List (Nat × sf_D × sf_M) := [(20, ([(1, 10, 0), (0, 0, 0), (0, 0, 0), (0, 0, 0)], [(0, 0, 0), (0, 0, 0), (1, 7, 0)], [(1, 4, 0, 0, 11, 0), (1, 7, 0, 2, 30, 0), (1, 10, 0, 1, 29, 0), (1, 3, 0, 0, 11, 0), (1, 6, 0, 0, 255, 0), (2, 3, 4, 1, 0, 0)], 0, 0), (9, [(22, 10, 30, 0)])),
  (23, ([(1, 10, 0), (0, 0, 0), (0, 0, 0), (0, 0, 0)], [(0, 0, 0)], [(1, 4, 0, 0, 11, 0), (1, 7, 0, 2, 30, 0), (1, 10, 0, 1, 29, 0), (1, 0, 0, 0, 505, 0)], 0, 0), (8, [(22, 10, 30, 0)])),
  (24, ([(1, 10, 0), (0, 0, 0), (0, 0, 0), (0, 0, 0)], [(1, 10, 0), (0, 0, 0)], [(1, 4, 0, 0, 11, 0), (1, 7, 0, 2, 30, 0), (1, 10, 0, 1, 29, 0), (1, 0, 0, 0, 505, 0)], 0, 0), (7, [(22, 10, 30, 0)])),
  (27, ([(1, 10, 0), (0, 0, 0), (0, 0, 0), (0, 0, 0)], [(1, 8, 0), (0, 0, 0)], [(1, 4, 0, 0, 11, 0), (1, 7, 0, 2, 30, 0), (1, 10, 0, 1, 29, 0), (1, 0, 0, 0, 505, 0)], 0, 0), (6, [(22, 10, 30, 0)])),
  (28, ([(1, 10, 0), (0, 0, 0), (0, 0, 0), (0, 0, 0)], [(0, 0, 0), (1, 8, 0), (0, 0, 0)], [(1, 4, 0, 0, 11, 0), (1, 7, 0, 2, 30, 0), (1, 10, 0, 1, 29, 0), (1, 0, 0, 0, 505, 0), (1, 6, 0, 1, 29, 0), (2, 6, 10, 1, 0, 0)], 0, 0), (5, [(22, 10, 30, 0)]))]
def kd_X10_couldGoSo_925abe_3 : List (Nat × sf_D × sf_M) := [(29, ([(1, 10, 0), (0, 0, 0), (0, 0, 0), (0, 0, 0)], [(0, 0, 0), (0, 0, 0), (1, 8, 0), (0, 0, 0)], [(1, 4, 0, 0, 11, 0), (1, 7, 0, 2, 30, 0), (1, 10, 0, 1, 29, 0), (1, 0, 0, 0, 505, 0), (1, 6, 0, 1, 29, 0), (1, 9, 0, 1, 1, 0), (2, 6, 10, 1, 0, 0)], 0, 0), (4, [(22, 10, 30, 0)])),
  (30, ([(1, 10, 0), (0, 0, 0), (0, 0, 0), (0, 0, 0)], [(0, 0, 0), (1, 8, 0), (0, 0, 0)], [(1, 4, 0, 0, 11, 0), (1, 7, 0, 2, 30, 0), (1, 10, 0, 1, 29, 0), (1, 0, 0, 0, 505, 0), (1, 6, 0, 2, 30, 0), (2, 6, 10, 1, 1, 0)], 0, 0), (3, [(22, 10, 30, 0)])),
  (33, ([(1, 10, 0), (0, 0, 0), (0, 0, 0), (0, 0, 0)], [(0, 0, 0), (0, 0, 0)], [(1, 4, 0, 0, 11, 0), (1, 7, 0, 2, 30, 0), (1, 10, 0, 1, 29, 0), (1, 0, 0, 0, 505, 0), (1, 3, 0, 0, 255, 0)], 0, 0), (2, [(22, 10, 30, 0)])),
  (36, ([(1, 10, 0), (0, 0, 0), (0, 0, 0), (0, 0, 0)], [], [(1, 4, 0, 0, 11, 0), (1, 7, 0, 2, 30, 0), (1, 10, 0, 1, 29, 0)], 0, 0), (1, [])),
  (37, ([(1, 10, 0), (0, 0, 0), (0, 0, 0), (0, 0, 0)], [(0, 0, 0)], [(1, 4, 0, 0, 11, 0), (1, 7, 0, 2, 30, 0), (1, 10, 0, 1, 29, 0), (1, 0, 0, 0, 0, 0)], 0, 0), (0, [])),
  (38, ([(1, 10, 0), (0, 0, 0), (0, 0, 0), (0, 0, 0)], [], [(1, 4, 0, 0, 11, 0), (1, 7, 0, 2, 30, 0), (1, 10, 0, 1, 29, 0)], 0, 0), (0, [(22, 10, 30, 0)]))]
def kd_X10_couldGoSo_925abe_4 : List (Nat × sf_D × sf_M) := [(41, ([(1, 10, 0), (0, 0, 0), (0, 0, 0), (0, 0, 0)], [], [(1, 4, 0, 0, 11, 0), (1, 7, 0, 2, 30, 0), (1, 10, 0, 2, 30, 0)], 0, 0), (20, [(22, 10, 30, 0)])),
  (44, ([(1, 10, 0), (0, 0, 0), (0, 0, 0), (0, 0, 0)], [], [(1, 4, 0, 0, 11, 0), (1, 7, 0, 2, 30, 0), (1, 10, 0, 2, 400, 0)], 0, 0), (1, [])),
  (45, ([(1, 10, 0), (0, 0, 0), (0, 0, 0), (0, 0, 0)], [(0, 0, 0)], [(1, 4, 0, 0, 11, 0), (1, 7, 0, 2, 30, 0), (1, 10, 0, 2, 400, 0), (1, 0, 0, 1, 1, 0)], 0, 0), (0, []))]
def kd_X10_couldGoSo_925abe : List (Nat × sf_D × sf_M) := kd_X10_couldGoSo_925abe_0 ++ (kd_X10_couldGoSo_925abe_1 ++ (kd_X10_couldGoSo_925abe_2 ++ (kd_X10_couldGoSo_925abe_3 ++ (kd_X10_couldGoSo_925abe_4))))
set_option maxRecDepth 100000 in
theorem kt_X10_couldGoSo_925abe : sf_chk [kq_X8_valueAt_515960, kq_X7_stockAfter_b883ae, kq_X8_valueAt_1664a2] kq_X10_couldGoSo_925abe 4 kc_X10_couldGoSo_925abe kd_X10_couldGoSo_925abe = true := by decide +kernel
set_option maxRecDepth 100000 in
theorem kl_X10_couldGoSo_925abe : (kc_X10_couldGoSo_925abe).map (fun c => (c.1, sf_den ([Z_X8_valueAt, Z_X7_stockAfter, Z_X8_valueAt] : List sf_X) c.2)) = L_X10_couldGoSo Z_X8_valueAt Z_X7_stockAfter := rfl
theorem ct_X10_couldGoSo_925abe : sf_ct kq_X10_couldGoSo_925abe Z_X10_couldGoSo := by
  have h := sf_meth (K := [kq_X8_valueAt_515960, kq_X7_stockAfter_b883ae, kq_X8_valueAt_1664a2]) (E := [Z_X8_valueAt, Z_X7_stockAfter, Z_X8_valueAt]) (k := kq_X10_couldGoSo_925abe) (nL := 4) (C := kc_X10_couldGoSo_925abe) (D := kd_X10_couldGoSo_925abe) (fun m k hk => match m, hk with
    | 0, hk => (Option.some.inj hk) ▸ ct_X8_valueAt_515960
    | 1, hk => (Option.some.inj hk) ▸ ct_X7_stockAfter_b883ae
    | 2, hk => (Option.some.inj hk) ▸ ct_X8_valueAt_1664a2
    | _ + 3, hk => (by cases hk)) kt_X10_couldGoSo_925abe
  rw [kl_X10_couldGoSo_925abe] at h
  exact h
def kq_X10_slotOf_0178d4 : sf_Q := ([(0, 0, 0), (0, 0, 0)], [(1, 0, 0, 0, 5, 0), (1, 3, 0, 0, 0, 0)], some (0, 0, 0), [(1, 0, 0, 0, 10, 0)], [])
def kc_X10_slotOf_0178d4 : List (Nat × sf_I) := [(0, 0, [1, 2]),
  (1, 2, [2, 0]),
  (2, 9, [3, 2]),
  (3, 2, [4, 1]),
  (4, 9, [5, 0]),
  (5, 35, [0, 0])]
def kd_X10_slotOf_0178d4 : List (Nat × sf_D × sf_M) := [(0, ([(0, 0, 0), (0, 0, 0)], [], [(1, 1, 0, 0, 5, 0), (1, 4, 0, 0, 0, 0)], 0, 0), (5, [])),
  (1, ([(0, 0, 0), (0, 0, 0)], [(0, 0, 0)], [(1, 1, 0, 0, 5, 0), (1, 4, 0, 0, 0, 0), (1, 0, 0, 2, 2, 0)], 0, 0), (4, [])),
  (2, ([(0, 0, 0), (0, 0, 0)], [(0, 0, 0), (0, 0, 0)], [(1, 1, 0, 0, 5, 0), (1, 4, 0, 0, 0, 0), (1, 0, 0, 2, 2, 0), (1, 3, 0, 0, 5, 0), (2, 3, 1, 1, 0, 0)], 0, 0), (3, [])),
  (3, ([(0, 0, 0), (0, 0, 0)], [(0, 0, 0)], [(1, 1, 0, 0, 5, 0), (1, 4, 0, 0, 0, 0), (1, 0, 0, 0, 10, 0), (2, 0, 1, 2, 0, 0)], 0, 0), (2, [])),
  (4, ([(0, 0, 0), (0, 0, 0)], [(0, 0, 0), (0, 0, 0)], [(1, 1, 0, 0, 5, 0), (1, 4, 0, 0, 0, 0), (1, 0, 0, 0, 10, 0), (1, 3, 0, 0, 0, 0), (2, 0, 1, 2, 0, 0), (2, 3, 4, 1, 0, 0)], 0, 0), (1, [])),
  (5, ([(0, 0, 0), (0, 0, 0)], [(0, 0, 0)], [(1, 1, 0, 0, 5, 0), (1, 4, 0, 0, 0, 0), (1, 0, 0, 0, 10, 0), (2, 0, 1, 2, 0, 0)], 0, 0), (0, []))]
set_option maxRecDepth 100000 in
theorem kt_X10_slotOf_0178d4 : sf_chk [] kq_X10_slotOf_0178d4 2 kc_X10_slotOf_0178d4 kd_X10_slotOf_0178d4 = true := by decide +kernel
set_option maxRecDepth 100000 in
theorem kl_X10_slotOf_0178d4 : (kc_X10_slotOf_0178d4).map (fun c => (c.1, sf_den ([] : List sf_X) c.2)) = L_X10_slotOf := rfl
theorem ct_X10_slotOf_0178d4 : sf_ct kq_X10_slotOf_0178d4 Z_X10_slotOf := by
  have h := sf_meth (K := []) (E := []) (k := kq_X10_slotOf_0178d4) (nL := 2) (C := kc_X10_slotOf_0178d4) (D := kd_X10_slotOf_0178d4) (fun m k hk => match m, hk with
    | _ + 0, hk => (by cases hk)) kt_X10_slotOf_0178d4
  rw [kl_X10_slotOf_0178d4] at h
  exact h
def kq_X10_slotOf_aaf0de : sf_Q := ([(0, 0, 0), (0, 0, 0)], [(1, 0, 0, 0, 5, 0), (1, 3, 0, 1, 1, 0)], some (0, 0, 0), [(1, 0, 0, 1, 11, 0)], [])
def kc_X10_slotOf_aaf0de : List (Nat × sf_I) := [(0, 0, [1, 2]),
  (1, 2, [2, 0]),
  (2, 9, [3, 2]),
  (3, 2, [4, 1]),
  (4, 9, [5, 0]),
  (5, 35, [0, 0])]
def kd_X10_slotOf_aaf0de : List (Nat × sf_D × sf_M) := [(0, ([(0, 0, 0), (0, 0, 0)], [], [(1, 1, 0, 0, 5, 0), (1, 4, 0, 1, 1, 0)], 0, 0), (5, [])),
  (1, ([(0, 0, 0), (0, 0, 0)], [(0, 0, 0)], [(1, 1, 0, 0, 5, 0), (1, 4, 0, 1, 1, 0), (1, 0, 0, 2, 2, 0)], 0, 0), (4, [])),
  (2, ([(0, 0, 0), (0, 0, 0)], [(0, 0, 0), (0, 0, 0)], [(1, 1, 0, 0, 5, 0), (1, 4, 0, 1, 1, 0), (1, 0, 0, 2, 2, 0), (1, 3, 0, 0, 5, 0), (2, 3, 1, 1, 0, 0)], 0, 0), (3, [])),
  (3, ([(0, 0, 0), (0, 0, 0)], [(0, 0, 0)], [(1, 1, 0, 0, 5, 0), (1, 4, 0, 1, 1, 0), (1, 0, 0, 0, 10, 0), (2, 0, 1, 2, 0, 0)], 0, 0), (2, [])),
  (4, ([(0, 0, 0), (0, 0, 0)], [(0, 0, 0), (0, 0, 0)], [(1, 1, 0, 0, 5, 0), (1, 4, 0, 1, 1, 0), (1, 0, 0, 0, 10, 0), (1, 3, 0, 1, 1, 0), (2, 0, 1, 2, 0, 0), (2, 3, 4, 1, 0, 0)], 0, 0), (1, [])),
  (5, ([(0, 0, 0), (0, 0, 0)], [(0, 0, 0)], [(1, 1, 0, 0, 5, 0), (1, 4, 0, 1, 1, 0), (1, 0, 0, 1, 11, 0), (2, 0, 1, 2, 1, 0)], 0, 0), (0, []))]
set_option maxRecDepth 100000 in
theorem kt_X10_slotOf_aaf0de : sf_chk [] kq_X10_slotOf_aaf0de 2 kc_X10_slotOf_aaf0de kd_X10_slotOf_aaf0de = true := by decide +kernel
set_option maxRecDepth 100000 in
theorem kl_X10_slotOf_aaf0de : (kc_X10_slotOf_aaf0de).map (fun c => (c.1, sf_den ([] : List sf_X) c.2)) = L_X10_slotOf := rfl
theorem ct_X10_slotOf_aaf0de : sf_ct kq_X10_slotOf_aaf0de Z_X10_slotOf := by
  have h := sf_meth (K := []) (E := []) (k := kq_X10_slotOf_aaf0de) (nL := 2) (C := kc_X10_slotOf_aaf0de) (D := kd_X10_slotOf_aaf0de) (fun m k hk => match m, hk with
    | _ + 0, hk => (by cases hk)) kt_X10_slotOf_aaf0de
  rw [kl_X10_slotOf_aaf0de] at h
  exact h
def kq_X5_valueOf_d11ed3 : sf_Q := ([(0, 0, 0), (0, 0, 0), (1, 6, 0)], [(1, 3, 0, 0, 5, 0)], some (0, 0, 0), [], [])
def kc_X5_valueOf_d11ed3 : List (Nat × sf_I) := [(0, 2, [1, 0]),
  (1, 34, [85, 72, 28, 39, 50]),
  (28, 4, [29, 2]),
  (29, 23, [32, 6, 0]),
  (32, 2, [33, 1]),
  (33, 0, [34, 0]),
  (34, 31, [37, 0, 2, 0, 0, 0, 0]),
  (37, 25, [38, 1]),
  (38, 35, [0, 0]),
  (39, 4, [40, 2]),
  (40, 23, [43, 6, 0]),
  (43, 2, [44, 1]),
  (44, 0, [45, 1]),
  (45, 31, [48, 1, 2, 0, 0, 0, 0]),
  (48, 25, [49, 1]),
  (49, 35, [0, 0]),
  (50, 4, [51, 2]),
  (51, 23, [54, 6, 3]),
  (54, 2, [55, 1]),
  (55, 0, [56, 0]),
  (56, 31, [59, 0, 2, 0, 0, 0, 0]),
  (59, 25, [60, 1]),
  (60, 4, [61, 2]),
  (61, 23, [64, 6, 3]),
  (64, 2, [65, 1]),
  (65, 0, [66, 1]),
  (66, 31, [69, 1, 2, 0, 0, 0, 0]),
  (69, 25, [70, 1]),
  (70, 9, [71, 0]),
  (71, 35, [0, 0]),
  (72, 2, [73, 1]),
  (73, 35, [0, 0])]
def kd_X5_valueOf_d11ed3_0 : List (Nat × sf_D × sf_M) := [(0, ([(0, 0, 0), (0, 0, 0), (1, 6, 0)], [], [(1, 4, 0, 0, 5, 0)], 0, 0), (15, [])),
  (1, ([(0, 0, 0), (0, 0, 0), (1, 6, 0)], [(0, 0, 0)], [(1, 4, 0, 0, 5, 0), (1, 0, 0, -2147483648, 2147483647, 0), (1, 1, 0, -2147483648, 2147483647, 0), (2, 0, 1, 1, 0, 0)], 0, 0), (14, [])),
  (28, ([(0, 0, 0), (0, 0, 0), (1, 6, 0)], [], [(1, 4, 0, 0, 5, 0), (1, 1, 0, 85, 85, 0)], 0, 0), (6, [])),
  (29, ([(0, 0, 0), (0, 0, 0), (1, 6, 0)], [(1, 6, 0)], [(1, 4, 0, 0, 5, 0), (1, 1, 0, 85, 85, 0)], 0, 0), (5, [])),
  (32, ([(0, 0, 0), (0, 0, 0), (1, 6, 0)], [(1, 149, 0)], [(1, 4, 0, 0, 5, 0), (1, 1, 0, 85, 85, 0)], 0, 0), (4, [])),
  (33, ([(0, 0, 0), (0, 0, 0), (1, 6, 0)], [(0, 0, 0), (1, 149, 0)], [(1, 4, 0, 0, 5, 0), (1, 1, 0, 85, 85, 0), (1, 3, 0, 0, 5, 0), (2, 3, 4, 1, 0, 0)], 0, 0), (3, [])),
  (34, ([(0, 0, 0), (0, 0, 0), (1, 6, 0)], [(0, 0, 0), (0, 0, 0), (1, 149, 0)], [(1, 4, 0, 0, 5, 0), (1, 1, 0, 85, 85, 0), (1, 3, 0, 0, 5, 0), (1, 6, 0, 0, 0, 0), (2, 3, 4, 1, 0, 0)], 0, 0), (2, [])),
  (37, ([(0, 0, 0), (0, 0, 0), (1, 6, 0)], [(0, 0, 0), (1, 149, 0)], [(1, 4, 0, 0, 5, 0), (1, 1, 0, 85, 85, 0), (1, 3, 0, 0, 10, 0)], 0, 0), (1, [])),
  (38, ([(0, 0, 0), (0, 0, 0), (1, 6, 0)], [(0, 0, 0)], [(1, 4, 0, 0, 5, 0), (1, 1, 0, 85, 85, 0), (1, 0, 0, 0, 999, 0)], 0, 0), (0, [])),
  (39, ([(0, 0, 0), (0, 0, 0), (1, 6, 0)], [], [(1, 4, 0, 0, 5, 0), (1, 1, 0, 86, 86, 0)], 0, 0), (6, []))]
def kd_X5_valueOf_d11ed3_1 : List (Nat × sf_D × sf_M) := [(40, ([(0, 0, 0), (0, 0, 0), (1, 6, 0)], [(1, 6, 0)], [(1, 4, 0, 0, 5, 0), (1, 1, 0, 86, 86, 0)], 0, 0), (5, [])),
  (43, ([(0, 0, 0), (0, 0, 0), (1, 6, 0)], [(1, 149, 0)], [(1, 4, 0, 0, 5, 0), (1, 1, 0, 86, 86, 0)], 0, 0), (4, [])),
  (44, ([(0, 0, 0), (0, 0, 0), (1, 6, 0)], [(0, 0, 0), (1, 149, 0)], [(1, 4, 0, 0, 5, 0), (1, 1, 0, 86, 86, 0), (1, 3, 0, 0, 5, 0), (2, 3, 4, 1, 0, 0)], 0, 0), (3, [])),
  (45, ([(0, 0, 0), (0, 0, 0), (1, 6, 0)], [(0, 0, 0), (0, 0, 0), (1, 149, 0)], [(1, 4, 0, 0, 5, 0), (1, 1, 0, 86, 86, 0), (1, 3, 0, 0, 5, 0), (1, 6, 0, 1, 1, 0), (2, 3, 4, 1, 0, 0)], 0, 0), (2, [])),
  (48, ([(0, 0, 0), (0, 0, 0), (1, 6, 0)], [(0, 0, 0), (1, 149, 0)], [(1, 4, 0, 0, 5, 0), (1, 1, 0, 86, 86, 0), (1, 3, 0, 1, 11, 0)], 0, 0), (1, [])),
  (49, ([(0, 0, 0), (0, 0, 0), (1, 6, 0)], [(0, 0, 0)], [(1, 4, 0, 0, 5, 0), (1, 1, 0, 86, 86, 0), (1, 0, 0, 0, 999, 0)], 0, 0), (0, [])),
  (50, ([(0, 0, 0), (0, 0, 0), (1, 6, 0)], [], [(1, 4, 0, 0, 5, 0), (1, 1, 0, 87, 87, 0)], 0, 0), (13, [])),
  (51, ([(0, 0, 0), (0, 0, 0), (1, 6, 0)], [(1, 6, 0)], [(1, 4, 0, 0, 5, 0), (1, 1, 0, 87, 87, 0)], 0, 0), (12, [])),
  (54, ([(0, 0, 0), (0, 0, 0), (1, 6, 0)], [(1, 152, 0)], [(1, 4, 0, 0, 5, 0), (1, 1, 0, 87, 87, 0)], 0, 0), (11, [])),
  (55, ([(0, 0, 0), (0, 0, 0), (1, 6, 0)], [(0, 0, 0), (1, 152, 0)], [(1, 4, 0, 0, 5, 0), (1, 1, 0, 87, 87, 0), (1, 3, 0, 0, 5, 0), (2, 3, 4, 1, 0, 0)], 0, 0), (10, []))]
def kd_X5_valueOf_d11ed3_2 : List (Nat × sf_D × sf_M) := [(56, ([(0, 0, 0), (0, 0, 0), (1, 6, 0)], [(0, 0, 0), (0, 0, 0), (1, 152, 0)], [(1, 4, 0, 0, 5, 0), (1, 1, 0, 87, 87, 0), (1, 3, 0, 0, 5, 0), (1, 6, 0, 0, 0, 0), (2, 3, 4, 1, 0, 0)], 0, 0), (9, [])),
  (59, ([(0, 0, 0), (0, 0, 0), (1, 6, 0)], [(0, 0, 0), (1, 152, 0)], [(1, 4, 0, 0, 5, 0), (1, 1, 0, 87, 87, 0), (1, 3, 0, 0, 10, 0)], 0, 0), (8, [])),
  (60, ([(0, 0, 0), (0, 0, 0), (1, 6, 0)], [(0, 0, 0)], [(1, 4, 0, 0, 5, 0), (1, 1, 0, 87, 87, 0), (1, 0, 0, -2147483648, 2147483647, 0)], 0, 0), (7, [])),
  (61, ([(0, 0, 0), (0, 0, 0), (1, 6, 0)], [(1, 6, 0), (0, 0, 0)], [(1, 4, 0, 0, 5, 0), (1, 1, 0, 87, 87, 0), (1, 0, 0, -2147483648, 2147483647, 0)], 0, 0), (6, [])),
  (64, ([(0, 0, 0), (0, 0, 0), (1, 6, 0)], [(1, 152, 0), (0, 0, 0)], [(1, 4, 0, 0, 5, 0), (1, 1, 0, 87, 87, 0), (1, 0, 0, -2147483648, 2147483647, 0)], 0, 0), (5, [])),
  (65, ([(0, 0, 0), (0, 0, 0), (1, 6, 0)], [(0, 0, 0), (1, 152, 0), (0, 0, 0)], [(1, 4, 0, 0, 5, 0), (1, 1, 0, 87, 87, 0), (1, 0, 0, -2147483648, 2147483647, 0), (1, 6, 0, 0, 5, 0), (2, 6, 4, 1, 0, 0)], 0, 0), (4, [])),
  (66, ([(0, 0, 0), (0, 0, 0), (1, 6, 0)], [(0, 0, 0), (0, 0, 0), (1, 152, 0), (0, 0, 0)], [(1, 4, 0, 0, 5, 0), (1, 1, 0, 87, 87, 0), (1, 0, 0, -2147483648, 2147483647, 0), (1, 6, 0, 0, 5, 0), (1, 9, 0, 1, 1, 0), (2, 6, 4, 1, 0, 0)], 0, 0), (3, [])),
  (69, ([(0, 0, 0), (0, 0, 0), (1, 6, 0)], [(0, 0, 0), (1, 152, 0), (0, 0, 0)], [(1, 4, 0, 0, 5, 0), (1, 1, 0, 87, 87, 0), (1, 0, 0, -2147483648, 2147483647, 0), (1, 6, 0, 1, 11, 0)], 0, 0), (2, []))]
def kd_X5_valueOf_d11ed3_3 : List (Nat × sf_D × sf_M) := [(70, ([(0, 0, 0), (0, 0, 0), (1, 6, 0)], [(0, 0, 0), (0, 0, 0)], [(1, 4, 0, 0, 5, 0), (1, 1, 0, 87, 87, 0), (1, 0, 0, -2147483648, 2147483647, 0), (1, 3, 0, -2147483648, 2147483647, 0)], 0, 0), (1, [])),
  (71, ([(0, 0, 0), (0, 0, 0), (1, 6, 0)], [(0, 0, 0)], [(1, 4, 0, 0, 5, 0), (1, 1, 0, 87, 87, 0), (1, 0, 0, -2147483648, 2147483647, 0)], 0, 0), (0, [])),
  (72, ([(0, 0, 0), (0, 0, 0), (1, 6, 0)], [], [(1, 4, 0, 0, 5, 0), (1, 1, 0, -2147483648, 2147483647, 0)], 0, 0), (1, [])),
  (73, ([(0, 0, 0), (0, 0, 0), (1, 6, 0)], [(0, 0, 0)], [(1, 4, 0, 0, 5, 0), (1, 1, 0, -2147483648, 2147483647, 0), (1, 0, 0, 0, 5, 0), (2, 0, 4, 1, 0, 0)], 0, 0), (0, []))]
def kd_X5_valueOf_d11ed3 : List (Nat × sf_D × sf_M) := kd_X5_valueOf_d11ed3_0 ++ (kd_X5_valueOf_d11ed3_1 ++ (kd_X5_valueOf_d11ed3_2 ++ (kd_X5_valueOf_d11ed3_3)))
set_option maxRecDepth 100000 in
theorem kt_X5_valueOf_d11ed3 : sf_chk [kq_X10_slotOf_0178d4, kq_X10_slotOf_aaf0de] kq_X5_valueOf_d11ed3 3 kc_X5_valueOf_d11ed3 kd_X5_valueOf_d11ed3 = true := by decide +kernel
set_option maxRecDepth 100000 in
theorem kl_X5_valueOf_d11ed3 : (kc_X5_valueOf_d11ed3).map (fun c => (c.1, sf_den ([Z_X10_slotOf, Z_X10_slotOf] : List sf_X) c.2)) = L_X5_valueOf Z_X10_slotOf := rfl
theorem ct_X5_valueOf_d11ed3 : sf_ct kq_X5_valueOf_d11ed3 Z_X5_valueOf := by
  have h := sf_meth (K := [kq_X10_slotOf_0178d4, kq_X10_slotOf_aaf0de]) (E := [Z_X10_slotOf, Z_X10_slotOf]) (k := kq_X5_valueOf_d11ed3) (nL := 3) (C := kc_X5_valueOf_d11ed3) (D := kd_X5_valueOf_d11ed3) (fun m k hk => match m, hk with
    | 0, hk => (Option.some.inj hk) ▸ ct_X10_slotOf_0178d4
    | 1, hk => (Option.some.inj hk) ▸ ct_X10_slotOf_aaf0de
    | _ + 2, hk => (by cases hk)) kt_X5_valueOf_d11ed3
  rw [kl_X5_valueOf_d11ed3] at h
  exact h
def kq_X5_isSoCompared_e91f76 : sf_Q := ([(0, 0, 0), (0, 0, 0), (0, 0, 0)], [], some (0, 0, 0), [(1, 0, 0, 0, 1, 0)], [])
def kc_X5_isSoCompared_e91f76 : List (Nat × sf_I) := [(0, 2, [1, 1]),
  (1, 0, [3, 60]),
  (3, 21, [6, 19, 1]),
  (6, 2, [7, 0]),
  (7, 2, [8, 2]),
  (8, 21, [11, 15, 5]),
  (11, 0, [12, 1]),
  (12, 22, [48]),
  (15, 0, [16, 0]),
  (16, 22, [48]),
  (19, 2, [20, 1]),
  (20, 0, [22, 61]),
  (22, 21, [25, 38, 1]),
  (25, 2, [26, 0]),
  (26, 2, [27, 2]),
  (27, 21, [30, 34, 1]),
  (30, 0, [31, 1]),
  (31, 22, [48]),
  (34, 0, [35, 0]),
  (35, 22, [48]),
  (38, 2, [39, 0]),
  (39, 2, [40, 2]),
  (40, 21, [43, 47, 3]),
  (43, 0, [44, 1]),
  (44, 22, [48]),
  (47, 0, [48, 0]),
  (48, 36, [0, 0])]
def kd_X5_isSoCompared_e91f76_0 : List (Nat × sf_D × sf_M) := [(0, ([(0, 0, 0), (0, 0, 0), (0, 0, 0)], [], [], 0, 0), (11, [])),
  (1, ([(0, 0, 0), (0, 0, 0), (0, 0, 0)], [(0, 0, 0)], [(1, 0, 0, -2147483648, 2147483647, 0), (1, 4, 0, -2147483648, 2147483647, 0), (2, 0, 4, 1, 0, 0)], 0, 0), (10, [])),
  (3, ([(0, 0, 0), (0, 0, 0), (0, 0, 0)], [(0, 0, 0), (0, 0, 0)], [(1, 0, 0, -2147483648, 2147483647, 0), (1, 4, 0, -2147483648, 2147483647, 0), (1, 3, 0, 60, 60, 0), (2, 0, 4, 1, 0, 0)], 0, 0), (9, [])),
  (6, ([(0, 0, 0), (0, 0, 0), (0, 0, 0)], [], [(1, 4, 0, 60, 60, 0)], 0, 0), (5, [])),
  (7, ([(0, 0, 0), (0, 0, 0), (0, 0, 0)], [(0, 0, 0)], [(1, 4, 0, 60, 60, 0), (1, 0, 0, -2147483648, 2147483647, 0), (1, 1, 0, -2147483648, 2147483647, 0), (2, 0, 1, 1, 0, 0)], 0, 0), (4, [])),
  (8, ([(0, 0, 0), (0, 0, 0), (0, 0, 0)], [(0, 0, 0), (0, 0, 0)], [(1, 4, 0, 60, 60, 0), (1, 0, 0, -2147483648, 2147483647, 0), (1, 1, 0, -2147483648, 2147483647, 0), (1, 3, 0, -2147483648, 2147483647, 0), (1, 7, 0, -2147483648, 2147483647, 0), (2, 0, 1, 1, 0, 0), (2, 3, 7, 1, 0, 0)], 0, 0), (3, [])),
  (11, ([(0, 0, 0), (0, 0, 0), (0, 0, 0)], [], [(1, 4, 0, 60, 60, 0), (1, 1, 0, -2147483648, 2147483646, 0), (1, 7, 0, -2147483647, 2147483647, 0)], 0, 0), (2, [])),
  (12, ([(0, 0, 0), (0, 0, 0), (0, 0, 0)], [(0, 0, 0)], [(1, 4, 0, 60, 60, 0), (1, 1, 0, -2147483648, 2147483646, 0), (1, 7, 0, -2147483647, 2147483647, 0), (1, 0, 0, 1, 1, 0)], 0, 0), (1, [])),
  (15, ([(0, 0, 0), (0, 0, 0), (0, 0, 0)], [], [(1, 4, 0, 60, 60, 0), (1, 1, 0, -2147483648, 2147483647, 0), (1, 7, 0, -2147483648, 2147483647, 0)], 0, 0), (2, []))]
def kd_X5_isSoCompared_e91f76_1 : List (Nat × sf_D × sf_M) := [(16, ([(0, 0, 0), (0, 0, 0), (0, 0, 0)], [(0, 0, 0)], [(1, 4, 0, 60, 60, 0), (1, 1, 0, -2147483648, 2147483647, 0), (1, 7, 0, -2147483648, 2147483647, 0), (1, 0, 0, 0, 0, 0)], 0, 0), (1, [])),
  (19, ([(0, 0, 0), (0, 0, 0), (0, 0, 0)], [], [(1, 4, 0, -2147483648, 2147483647, 0)], 0, 0), (8, [])),
  (20, ([(0, 0, 0), (0, 0, 0), (0, 0, 0)], [(0, 0, 0)], [(1, 4, 0, -2147483648, 2147483647, 0), (1, 0, 0, -2147483648, 2147483647, 0), (2, 0, 4, 1, 0, 0)], 0, 0), (7, [])),
  (22, ([(0, 0, 0), (0, 0, 0), (0, 0, 0)], [(0, 0, 0), (0, 0, 0)], [(1, 4, 0, -2147483648, 2147483647, 0), (1, 0, 0, -2147483648, 2147483647, 0), (1, 3, 0, 61, 61, 0), (2, 0, 4, 1, 0, 0)], 0, 0), (6, [])),
  (25, ([(0, 0, 0), (0, 0, 0), (0, 0, 0)], [], [(1, 4, 0, 61, 61, 0)], 0, 0), (5, [])),
  (26, ([(0, 0, 0), (0, 0, 0), (0, 0, 0)], [(0, 0, 0)], [(1, 4, 0, 61, 61, 0), (1, 0, 0, -2147483648, 2147483647, 0), (1, 1, 0, -2147483648, 2147483647, 0), (2, 0, 1, 1, 0, 0)], 0, 0), (4, [])),
  (27, ([(0, 0, 0), (0, 0, 0), (0, 0, 0)], [(0, 0, 0), (0, 0, 0)], [(1, 4, 0, 61, 61, 0), (1, 0, 0, -2147483648, 2147483647, 0), (1, 1, 0, -2147483648, 2147483647, 0), (1, 3, 0, -2147483648, 2147483647, 0), (1, 7, 0, -2147483648, 2147483647, 0), (2, 0, 1, 1, 0, 0), (2, 3, 7, 1, 0, 0)], 0, 0), (3, [])),
  (30, ([(0, 0, 0), (0, 0, 0), (0, 0, 0)], [], [(1, 4, 0, 61, 61, 0), (1, 1, 0, -2147483648, 2147483647, 0), (1, 7, 0, -2147483648, 2147483647, 0)], 0, 0), (2, [])),
  (31, ([(0, 0, 0), (0, 0, 0), (0, 0, 0)], [(0, 0, 0)], [(1, 4, 0, 61, 61, 0), (1, 1, 0, -2147483648, 2147483647, 0), (1, 7, 0, -2147483648, 2147483647, 0), (1, 0, 0, 1, 1, 0)], 0, 0), (1, []))]
def kd_X5_isSoCompared_e91f76_2 : List (Nat × sf_D × sf_M) := [(34, ([(0, 0, 0), (0, 0, 0), (0, 0, 0)], [], [(1, 4, 0, 61, 61, 0), (1, 1, 0, -2147483648, 2147483647, 0), (1, 7, 0, -2147483648, 2147483647, 0)], 0, 0), (2, [])),
  (35, ([(0, 0, 0), (0, 0, 0), (0, 0, 0)], [(0, 0, 0)], [(1, 4, 0, 61, 61, 0), (1, 1, 0, -2147483648, 2147483647, 0), (1, 7, 0, -2147483648, 2147483647, 0), (1, 0, 0, 0, 0, 0)], 0, 0), (1, [])),
  (38, ([(0, 0, 0), (0, 0, 0), (0, 0, 0)], [], [(1, 4, 0, -2147483648, 2147483647, 0)], 0, 0), (5, [])),
  (39, ([(0, 0, 0), (0, 0, 0), (0, 0, 0)], [(0, 0, 0)], [(1, 4, 0, -2147483648, 2147483647, 0), (1, 0, 0, -2147483648, 2147483647, 0), (1, 1, 0, -2147483648, 2147483647, 0), (2, 0, 1, 1, 0, 0)], 0, 0), (4, [])),
  (40, ([(0, 0, 0), (0, 0, 0), (0, 0, 0)], [(0, 0, 0), (0, 0, 0)], [(1, 4, 0, -2147483648, 2147483647, 0), (1, 0, 0, -2147483648, 2147483647, 0), (1, 1, 0, -2147483648, 2147483647, 0), (1, 3, 0, -2147483648, 2147483647, 0), (1, 7, 0, -2147483648, 2147483647, 0), (2, 0, 1, 1, 0, 0), (2, 3, 7, 1, 0, 0)], 0, 0), (3, [])),
  (43, ([(0, 0, 0), (0, 0, 0), (0, 0, 0)], [], [(1, 4, 0, -2147483648, 2147483647, 0), (1, 1, 0, -2147483647, 2147483647, 0), (1, 7, 0, -2147483648, 2147483646, 0)], 0, 0), (2, [])),
  (44, ([(0, 0, 0), (0, 0, 0), (0, 0, 0)], [(0, 0, 0)], [(1, 4, 0, -2147483648, 2147483647, 0), (1, 1, 0, -2147483647, 2147483647, 0), (1, 7, 0, -2147483648, 2147483646, 0), (1, 0, 0, 1, 1, 0)], 0, 0), (1, [])),
  (47, ([(0, 0, 0), (0, 0, 0), (0, 0, 0)], [], [(1, 4, 0, -2147483648, 2147483647, 0), (1, 1, 0, -2147483648, 2147483647, 0), (1, 7, 0, -2147483648, 2147483647, 0)], 0, 0), (1, []))]
def kd_X5_isSoCompared_e91f76_3 : List (Nat × sf_D × sf_M) := [(48, ([(0, 0, 0), (0, 0, 0), (0, 0, 0)], [(0, 0, 0)], [(1, 4, 0, -2147483648, 2147483647, 0), (1, 1, 0, -2147483648, 2147483647, 0), (1, 7, 0, -2147483648, 2147483647, 0), (1, 0, 0, 0, 1, 0)], 0, 0), (0, []))]
def kd_X5_isSoCompared_e91f76 : List (Nat × sf_D × sf_M) := kd_X5_isSoCompared_e91f76_0 ++ (kd_X5_isSoCompared_e91f76_1 ++ (kd_X5_isSoCompared_e91f76_2 ++ (kd_X5_isSoCompared_e91f76_3)))
set_option maxRecDepth 100000 in
theorem kt_X5_isSoCompared_e91f76 : sf_chk [] kq_X5_isSoCompared_e91f76 3 kc_X5_isSoCompared_e91f76 kd_X5_isSoCompared_e91f76 = true := by decide +kernel
set_option maxRecDepth 100000 in
theorem kl_X5_isSoCompared_e91f76 : (kc_X5_isSoCompared_e91f76).map (fun c => (c.1, sf_den ([] : List sf_X) c.2)) = L_X5_isSoCompared := rfl
theorem ct_X5_isSoCompared_e91f76 : sf_ct kq_X5_isSoCompared_e91f76 Z_X5_isSoCompared := by
  have h := sf_meth (K := []) (E := []) (k := kq_X5_isSoCompared_e91f76) (nL := 3) (C := kc_X5_isSoCompared_e91f76) (D := kd_X5_isSoCompared_e91f76) (fun m k hk => match m, hk with
    | _ + 0, hk => (by cases hk)) kt_X5_isSoCompared_e91f76
  rw [kl_X5_isSoCompared_e91f76] at h
  exact h
def kq_X7_amountOf_f49f7d : sf_Q := ([(1, 7, 0), (0, 0, 0), (0, 0, 0)], [(1, 3, 0, 1, 1, 0), (1, 6, 0, 0, 11, 0)], some (0, 0, 0), [(1, 0, 0, 0, 250, 0)], [])
def kc_X7_amountOf_f49f7d : List (Nat × sf_I) := [(0, 4, [1, 0]),
  (1, 23, [4, 7, 3]),
  (4, 2, [5, 1]),
  (5, 0, [7, 12]),
  (7, 9, [8, 2]),
  (8, 2, [9, 2]),
  (9, 9, [10, 0]),
  (10, 25, [11, 1]),
  (11, 35, [0, 0])]
def kd_X7_amountOf_f49f7d_0 : List (Nat × sf_D × sf_M) := [(0, ([(1, 7, 0), (0, 0, 0), (0, 0, 0)], [], [(1, 4, 0, 1, 1, 0), (1, 7, 0, 0, 11, 0)], 0, 0), (8, [])),
  (1, ([(1, 7, 0), (0, 0, 0), (0, 0, 0)], [(1, 7, 0)], [(1, 4, 0, 1, 1, 0), (1, 7, 0, 0, 11, 0)], 0, 0), (7, [])),
  (4, ([(1, 7, 0), (0, 0, 0), (0, 0, 0)], [(1, 119, 0)], [(1, 4, 0, 1, 1, 0), (1, 7, 0, 0, 11, 0)], 0, 0), (6, [])),
  (5, ([(1, 7, 0), (0, 0, 0), (0, 0, 0)], [(0, 0, 0), (1, 119, 0)], [(1, 4, 0, 1, 1, 0), (1, 7, 0, 0, 11, 0), (1, 3, 0, 1, 1, 0), (2, 3, 4, 1, 0, 0)], 0, 0), (5, [])),
  (7, ([(1, 7, 0), (0, 0, 0), (0, 0, 0)], [(0, 0, 0), (0, 0, 0), (1, 119, 0)], [(1, 4, 0, 1, 1, 0), (1, 7, 0, 0, 11, 0), (1, 3, 0, 1, 1, 0), (1, 6, 0, 12, 12, 0), (2, 3, 4, 1, 0, 0)], 0, 0), (4, [])),
  (8, ([(1, 7, 0), (0, 0, 0), (0, 0, 0)], [(0, 0, 0), (1, 119, 0)], [(1, 4, 0, 1, 1, 0), (1, 7, 0, 0, 11, 0), (1, 3, 0, 12, 12, 0), (2, 3, 4, 12, 0, 0)], 0, 0), (3, [])),
  (9, ([(1, 7, 0), (0, 0, 0), (0, 0, 0)], [(0, 0, 0), (0, 0, 0), (1, 119, 0)], [(1, 4, 0, 1, 1, 0), (1, 7, 0, 0, 11, 0), (1, 3, 0, 12, 12, 0), (1, 6, 0, 0, 11, 0), (2, 3, 4, 12, 0, 0), (2, 6, 7, 1, 0, 0)], 0, 0), (2, [])),
  (10, ([(1, 7, 0), (0, 0, 0), (0, 0, 0)], [(0, 0, 0), (1, 119, 0)], [(1, 4, 0, 1, 1, 0), (1, 7, 0, 0, 11, 0), (1, 3, 0, 12, 23, 0), (2, 3, 7, 1, 12, 0)], 0, 0), (1, []))]
def kd_X7_amountOf_f49f7d_1 : List (Nat × sf_D × sf_M) := [(11, ([(1, 7, 0), (0, 0, 0), (0, 0, 0)], [(0, 0, 0)], [(1, 4, 0, 1, 1, 0), (1, 7, 0, 0, 11, 0), (1, 0, 0, 0, 250, 0)], 0, 0), (0, []))]
def kd_X7_amountOf_f49f7d : List (Nat × sf_D × sf_M) := kd_X7_amountOf_f49f7d_0 ++ (kd_X7_amountOf_f49f7d_1)
set_option maxRecDepth 100000 in
theorem kt_X7_amountOf_f49f7d : sf_chk [] kq_X7_amountOf_f49f7d 3 kc_X7_amountOf_f49f7d kd_X7_amountOf_f49f7d = true := by decide +kernel
set_option maxRecDepth 100000 in
theorem kl_X7_amountOf_f49f7d : (kc_X7_amountOf_f49f7d).map (fun c => (c.1, sf_den ([] : List sf_X) c.2)) = L_X7_amountOf := rfl
theorem ct_X7_amountOf_f49f7d : sf_ct kq_X7_amountOf_f49f7d Z_X7_amountOf := by
  have h := sf_meth (K := []) (E := []) (k := kq_X7_amountOf_f49f7d) (nL := 3) (C := kc_X7_amountOf_f49f7d) (D := kd_X7_amountOf_f49f7d) (fun m k hk => match m, hk with
    | _ + 0, hk => (by cases hk)) kt_X7_amountOf_f49f7d
  rw [kl_X7_amountOf_f49f7d] at h
  exact h
def kq_X6_lackAt_865e4b : sf_Q := ([(1, 6, 0), (1, 7, 0), (0, 0, 0)], [(1, 6, 0, 0, 11, 0)], some (0, 0, 0), [(1, 0, 0, 0, 250, 0)], [])
def kc_X6_lackAt_865e4b : List (Nat × sf_I) := [(0, 0, [1, 0]),
  (1, 4, [2, 1]),
  (2, 0, [3, 1]),
  (3, 2, [4, 2]),
  (4, 32, [7, 0, 3, 7, 0, 0, 0, 0]),
  (7, 4, [8, 0]),
  (8, 23, [11, 6, 0]),
  (11, 2, [12, 2]),
  (12, 25, [13, 1]),
  (13, 9, [14, 1]),
  (14, 33, [17, 0, 0, 0]),
  (17, 35, [0, 0])]
def kd_X6_lackAt_865e4b_0 : List (Nat × sf_D × sf_M) := [(0, ([(1, 6, 0), (1, 7, 0), (0, 0, 0)], [], [(1, 7, 0, 0, 11, 0)], 0, 0), (11, [])),
  (1, ([(1, 6, 0), (1, 7, 0), (0, 0, 0)], [(0, 0, 0)], [(1, 7, 0, 0, 11, 0), (1, 0, 0, 0, 0, 0)], 0, 0), (10, [])),
  (2, ([(1, 6, 0), (1, 7, 0), (0, 0, 0)], [(1, 7, 0), (0, 0, 0)], [(1, 7, 0, 0, 11, 0), (1, 0, 0, 0, 0, 0)], 0, 0), (9, [])),
  (3, ([(1, 6, 0), (1, 7, 0), (0, 0, 0)], [(0, 0, 0), (1, 7, 0), (0, 0, 0)], [(1, 7, 0, 0, 11, 0), (1, 0, 0, 0, 0, 0), (1, 6, 0, 1, 1, 0)], 0, 0), (8, [])),
  (4, ([(1, 6, 0), (1, 7, 0), (0, 0, 0)], [(0, 0, 0), (0, 0, 0), (1, 7, 0), (0, 0, 0)], [(1, 7, 0, 0, 11, 0), (1, 0, 0, 0, 0, 0), (1, 6, 0, 1, 1, 0), (1, 9, 0, 0, 11, 0), (2, 9, 7, 1, 0, 0)], 0, 0), (7, [])),
  (7, ([(1, 6, 0), (1, 7, 0), (0, 0, 0)], [(0, 0, 0), (0, 0, 0)], [(1, 7, 0, 0, 11, 0), (1, 0, 0, 0, 0, 0), (1, 3, 0, 0, 250, 0)], 0, 0), (6, [])),
  (8, ([(1, 6, 0), (1, 7, 0), (0, 0, 0)], [(1, 6, 0), (0, 0, 0), (0, 0, 0)], [(1, 7, 0, 0, 11, 0), (1, 0, 0, 0, 0, 0), (1, 3, 0, 0, 250, 0)], 0, 0), (5, [])),
  (11, ([(1, 6, 0), (1, 7, 0), (0, 0, 0)], [(1, 149, 0), (0, 0, 0), (0, 0, 0)], [(1, 7, 0, 0, 11, 0), (1, 0, 0, 0, 0, 0), (1, 3, 0, 0, 250, 0)], 0, 0), (4, [])),
  (12, ([(1, 6, 0), (1, 7, 0), (0, 0, 0)], [(0, 0, 0), (1, 149, 0), (0, 0, 0), (0, 0, 0)], [(1, 7, 0, 0, 11, 0), (1, 0, 0, 0, 0, 0), (1, 3, 0, 0, 250, 0), (1, 9, 0, 0, 11, 0), (2, 9, 7, 1, 0, 0)], 0, 0), (3, []))]
def kd_X6_lackAt_865e4b_1 : List (Nat × sf_D × sf_M) := [(13, ([(1, 6, 0), (1, 7, 0), (0, 0, 0)], [(0, 0, 0), (0, 0, 0), (0, 0, 0)], [(1, 7, 0, 0, 11, 0), (1, 0, 0, 0, 0, 0), (1, 3, 0, 0, 250, 0), (1, 6, 0, 0, 999, 0)], 0, 0), (2, [])),
  (14, ([(1, 6, 0), (1, 7, 0), (0, 0, 0)], [(0, 0, 0), (0, 0, 0)], [(1, 7, 0, 0, 11, 0), (1, 0, 0, 0, 0, 0), (1, 3, 0, -999, 250, 0)], 0, 0), (1, [])),
  (17, ([(1, 6, 0), (1, 7, 0), (0, 0, 0)], [(0, 0, 0)], [(1, 7, 0, 0, 11, 0), (1, 0, 0, 0, 250, 0)], 0, 0), (0, []))]
def kd_X6_lackAt_865e4b : List (Nat × sf_D × sf_M) := kd_X6_lackAt_865e4b_0 ++ (kd_X6_lackAt_865e4b_1)
set_option maxRecDepth 100000 in
theorem kt_X6_lackAt_865e4b : sf_chk [kq_X7_amountOf_f49f7d] kq_X6_lackAt_865e4b 3 kc_X6_lackAt_865e4b kd_X6_lackAt_865e4b = true := by decide +kernel
set_option maxRecDepth 100000 in
theorem kl_X6_lackAt_865e4b : (kc_X6_lackAt_865e4b).map (fun c => (c.1, sf_den ([Z_X7_amountOf] : List sf_X) c.2)) = L_X6_lackAt Z_X7_amountOf := rfl
theorem ct_X6_lackAt_865e4b : sf_ct kq_X6_lackAt_865e4b Z_X6_lackAt := by
  have h := sf_meth (K := [kq_X7_amountOf_f49f7d]) (E := [Z_X7_amountOf]) (k := kq_X6_lackAt_865e4b) (nL := 3) (C := kc_X6_lackAt_865e4b) (D := kd_X6_lackAt_865e4b) (fun m k hk => match m, hk with
    | 0, hk => (Option.some.inj hk) ▸ ct_X7_amountOf_f49f7d
    | _ + 1, hk => (by cases hk)) kt_X6_lackAt_865e4b
  rw [kl_X6_lackAt_865e4b] at h
  exact h
def kq_X7_amountOf_602df6 : sf_Q := ([(1, 7, 0), (0, 0, 0), (0, 0, 0)], [(1, 3, 0, 3, 3, 0), (1, 6, 0, 0, 11, 0)], some (0, 0, 0), [(1, 0, 0, 0, 250, 0)], [])
def kc_X7_amountOf_602df6 : List (Nat × sf_I) := [(0, 4, [1, 0]),
  (1, 23, [4, 7, 3]),
  (4, 2, [5, 1]),
  (5, 0, [7, 12]),
  (7, 9, [8, 2]),
  (8, 2, [9, 2]),
  (9, 9, [10, 0]),
  (10, 25, [11, 1]),
  (11, 35, [0, 0])]
def kd_X7_amountOf_602df6_0 : List (Nat × sf_D × sf_M) := [(0, ([(1, 7, 0), (0, 0, 0), (0, 0, 0)], [], [(1, 4, 0, 3, 3, 0), (1, 7, 0, 0, 11, 0)], 0, 0), (8, [])),
  (1, ([(1, 7, 0), (0, 0, 0), (0, 0, 0)], [(1, 7, 0)], [(1, 4, 0, 3, 3, 0), (1, 7, 0, 0, 11, 0)], 0, 0), (7, [])),
  (4, ([(1, 7, 0), (0, 0, 0), (0, 0, 0)], [(1, 119, 0)], [(1, 4, 0, 3, 3, 0), (1, 7, 0, 0, 11, 0)], 0, 0), (6, [])),
  (5, ([(1, 7, 0), (0, 0, 0), (0, 0, 0)], [(0, 0, 0), (1, 119, 0)], [(1, 4, 0, 3, 3, 0), (1, 7, 0, 0, 11, 0), (1, 3, 0, 3, 3, 0), (2, 3, 4, 1, 0, 0)], 0, 0), (5, [])),
  (7, ([(1, 7, 0), (0, 0, 0), (0, 0, 0)], [(0, 0, 0), (0, 0, 0), (1, 119, 0)], [(1, 4, 0, 3, 3, 0), (1, 7, 0, 0, 11, 0), (1, 3, 0, 3, 3, 0), (1, 6, 0, 12, 12, 0), (2, 3, 4, 1, 0, 0)], 0, 0), (4, [])),
  (8, ([(1, 7, 0), (0, 0, 0), (0, 0, 0)], [(0, 0, 0), (1, 119, 0)], [(1, 4, 0, 3, 3, 0), (1, 7, 0, 0, 11, 0), (1, 3, 0, 36, 36, 0), (2, 3, 4, 12, 0, 0)], 0, 0), (3, [])),
  (9, ([(1, 7, 0), (0, 0, 0), (0, 0, 0)], [(0, 0, 0), (0, 0, 0), (1, 119, 0)], [(1, 4, 0, 3, 3, 0), (1, 7, 0, 0, 11, 0), (1, 3, 0, 36, 36, 0), (1, 6, 0, 0, 11, 0), (2, 3, 4, 12, 0, 0), (2, 6, 7, 1, 0, 0)], 0, 0), (2, [])),
  (10, ([(1, 7, 0), (0, 0, 0), (0, 0, 0)], [(0, 0, 0), (1, 119, 0)], [(1, 4, 0, 3, 3, 0), (1, 7, 0, 0, 11, 0), (1, 3, 0, 36, 47, 0), (2, 3, 7, 1, 36, 0)], 0, 0), (1, []))]
def kd_X7_amountOf_602df6_1 : List (Nat × sf_D × sf_M) := [(11, ([(1, 7, 0), (0, 0, 0), (0, 0, 0)], [(0, 0, 0)], [(1, 4, 0, 3, 3, 0), (1, 7, 0, 0, 11, 0), (1, 0, 0, 0, 250, 0)], 0, 0), (0, []))]
def kd_X7_amountOf_602df6 : List (Nat × sf_D × sf_M) := kd_X7_amountOf_602df6_0 ++ (kd_X7_amountOf_602df6_1)
set_option maxRecDepth 100000 in
theorem kt_X7_amountOf_602df6 : sf_chk [] kq_X7_amountOf_602df6 3 kc_X7_amountOf_602df6 kd_X7_amountOf_602df6 = true := by decide +kernel
set_option maxRecDepth 100000 in
theorem kl_X7_amountOf_602df6 : (kc_X7_amountOf_602df6).map (fun c => (c.1, sf_den ([] : List sf_X) c.2)) = L_X7_amountOf := rfl
theorem ct_X7_amountOf_602df6 : sf_ct kq_X7_amountOf_602df6 Z_X7_amountOf := by
  have h := sf_meth (K := []) (E := []) (k := kq_X7_amountOf_602df6) (nL := 3) (C := kc_X7_amountOf_602df6) (D := kd_X7_amountOf_602df6) (fun m k hk => match m, hk with
    | _ + 0, hk => (by cases hk)) kt_X7_amountOf_602df6
  rw [kl_X7_amountOf_602df6] at h
  exact h
def kq_X7_amountOf_db3e55 : sf_Q := ([(1, 7, 0), (0, 0, 0), (0, 0, 0)], [(1, 3, 0, 2, 2, 0), (1, 6, 0, 0, 11, 0)], some (0, 0, 0), [(1, 0, 0, 0, 250, 0)], [])
def kc_X7_amountOf_db3e55 : List (Nat × sf_I) := [(0, 4, [1, 0]),
  (1, 23, [4, 7, 3]),
  (4, 2, [5, 1]),
  (5, 0, [7, 12]),
  (7, 9, [8, 2]),
  (8, 2, [9, 2]),
  (9, 9, [10, 0]),
  (10, 25, [11, 1]),
  (11, 35, [0, 0])]
def kd_X7_amountOf_db3e55_0 : List (Nat × sf_D × sf_M) := [(0, ([(1, 7, 0), (0, 0, 0), (0, 0, 0)], [], [(1, 4, 0, 2, 2, 0), (1, 7, 0, 0, 11, 0)], 0, 0), (8, [])),
  (1, ([(1, 7, 0), (0, 0, 0), (0, 0, 0)], [(1, 7, 0)], [(1, 4, 0, 2, 2, 0), (1, 7, 0, 0, 11, 0)], 0, 0), (7, [])),
  (4, ([(1, 7, 0), (0, 0, 0), (0, 0, 0)], [(1, 119, 0)], [(1, 4, 0, 2, 2, 0), (1, 7, 0, 0, 11, 0)], 0, 0), (6, [])),
  (5, ([(1, 7, 0), (0, 0, 0), (0, 0, 0)], [(0, 0, 0), (1, 119, 0)], [(1, 4, 0, 2, 2, 0), (1, 7, 0, 0, 11, 0), (1, 3, 0, 2, 2, 0), (2, 3, 4, 1, 0, 0)], 0, 0), (5, [])),
  (7, ([(1, 7, 0), (0, 0, 0), (0, 0, 0)], [(0, 0, 0), (0, 0, 0), (1, 119, 0)], [(1, 4, 0, 2, 2, 0), (1, 7, 0, 0, 11, 0), (1, 3, 0, 2, 2, 0), (1, 6, 0, 12, 12, 0), (2, 3, 4, 1, 0, 0)], 0, 0), (4, [])),
  (8, ([(1, 7, 0), (0, 0, 0), (0, 0, 0)], [(0, 0, 0), (1, 119, 0)], [(1, 4, 0, 2, 2, 0), (1, 7, 0, 0, 11, 0), (1, 3, 0, 24, 24, 0), (2, 3, 4, 12, 0, 0)], 0, 0), (3, [])),
  (9, ([(1, 7, 0), (0, 0, 0), (0, 0, 0)], [(0, 0, 0), (0, 0, 0), (1, 119, 0)], [(1, 4, 0, 2, 2, 0), (1, 7, 0, 0, 11, 0), (1, 3, 0, 24, 24, 0), (1, 6, 0, 0, 11, 0), (2, 3, 4, 12, 0, 0), (2, 6, 7, 1, 0, 0)], 0, 0), (2, [])),
  (10, ([(1, 7, 0), (0, 0, 0), (0, 0, 0)], [(0, 0, 0), (1, 119, 0)], [(1, 4, 0, 2, 2, 0), (1, 7, 0, 0, 11, 0), (1, 3, 0, 24, 35, 0), (2, 3, 7, 1, 24, 0)], 0, 0), (1, []))]
def kd_X7_amountOf_db3e55_1 : List (Nat × sf_D × sf_M) := [(11, ([(1, 7, 0), (0, 0, 0), (0, 0, 0)], [(0, 0, 0)], [(1, 4, 0, 2, 2, 0), (1, 7, 0, 0, 11, 0), (1, 0, 0, 0, 250, 0)], 0, 0), (0, []))]
def kd_X7_amountOf_db3e55 : List (Nat × sf_D × sf_M) := kd_X7_amountOf_db3e55_0 ++ (kd_X7_amountOf_db3e55_1)
set_option maxRecDepth 100000 in
theorem kt_X7_amountOf_db3e55 : sf_chk [] kq_X7_amountOf_db3e55 3 kc_X7_amountOf_db3e55 kd_X7_amountOf_db3e55 = true := by decide +kernel
set_option maxRecDepth 100000 in
theorem kl_X7_amountOf_db3e55 : (kc_X7_amountOf_db3e55).map (fun c => (c.1, sf_den ([] : List sf_X) c.2)) = L_X7_amountOf := rfl
theorem ct_X7_amountOf_db3e55 : sf_ct kq_X7_amountOf_db3e55 Z_X7_amountOf := by
  have h := sf_meth (K := []) (E := []) (k := kq_X7_amountOf_db3e55) (nL := 3) (C := kc_X7_amountOf_db3e55) (D := kd_X7_amountOf_db3e55) (fun m k hk => match m, hk with
    | _ + 0, hk => (by cases hk)) kt_X7_amountOf_db3e55
  rw [kl_X7_amountOf_db3e55] at h
  exact h
def kq_X6_isFalse_865e4b : sf_Q := ([(1, 6, 0), (1, 7, 0), (0, 0, 0)], [(1, 6, 0, 0, 11, 0)], some (0, 0, 0), [(1, 0, 0, 0, 1, 0)], [])
def kc_X6_isFalse_865e4b : List (Nat × sf_I) := [(0, 4, [1, 1]),
  (1, 0, [2, 1]),
  (2, 2, [3, 2]),
  (3, 32, [6, 0, 3, 7, 0, 0, 0, 0]),
  (6, 5, [7, 3]),
  (7, 4, [8, 0]),
  (8, 23, [11, 6, 0]),
  (11, 2, [12, 2]),
  (12, 25, [13, 1]),
  (13, 2, [14, 3]),
  (14, 21, [17, 38, 5]),
  (17, 4, [18, 0]),
  (18, 23, [21, 6, 0]),
  (21, 2, [22, 2]),
  (22, 25, [23, 1]),
  (23, 4, [24, 0]),
  (24, 23, [27, 6, 1]),
  (27, 2, [28, 2]),
  (28, 25, [29, 1]),
  (29, 9, [30, 0]),
  (30, 2, [31, 3]),
  (31, 21, [34, 38, 2]),
  (34, 0, [35, 1]),
  (35, 22, [39]),
  (38, 0, [39, 0]),
  (39, 36, [0, 0])]
def kd_X6_isFalse_865e4b_0 : List (Nat × sf_D × sf_M) := [(0, ([(1, 6, 0), (1, 7, 0), (0, 0, 0), (8, 0, 0)], [], [(1, 7, 0, 0, 11, 0)], 0, 0), (24, [])),
  (1, ([(1, 6, 0), (1, 7, 0), (0, 0, 0), (8, 0, 0)], [(1, 7, 0)], [(1, 7, 0, 0, 11, 0)], 0, 0), (23, [])),
  (2, ([(1, 6, 0), (1, 7, 0), (0, 0, 0), (8, 0, 0)], [(0, 0, 0), (1, 7, 0)], [(1, 7, 0, 0, 11, 0), (1, 3, 0, 1, 1, 0)], 0, 0), (22, [])),
  (3, ([(1, 6, 0), (1, 7, 0), (0, 0, 0), (8, 0, 0)], [(0, 0, 0), (0, 0, 0), (1, 7, 0)], [(1, 7, 0, 0, 11, 0), (1, 3, 0, 1, 1, 0), (1, 6, 0, 0, 11, 0), (2, 6, 7, 1, 0, 0)], 0, 0), (21, [])),
  (6, ([(1, 6, 0), (1, 7, 0), (0, 0, 0), (8, 0, 0)], [(0, 0, 0)], [(1, 7, 0, 0, 11, 0), (1, 0, 0, 0, 250, 0)], 0, 0), (20, [])),
  (7, ([(1, 6, 0), (1, 7, 0), (0, 0, 0), (0, 0, 0)], [], [(1, 7, 0, 0, 11, 0), (1, 10, 0, 0, 250, 0)], 0, 0), (19, [])),
  (8, ([(1, 6, 0), (1, 7, 0), (0, 0, 0), (0, 0, 0)], [(1, 6, 0)], [(1, 7, 0, 0, 11, 0), (1, 10, 0, 0, 250, 0)], 0, 0), (18, [])),
  (11, ([(1, 6, 0), (1, 7, 0), (0, 0, 0), (0, 0, 0)], [(1, 149, 0)], [(1, 7, 0, 0, 11, 0), (1, 10, 0, 0, 250, 0)], 0, 0), (17, [])),
  (12, ([(1, 6, 0), (1, 7, 0), (0, 0, 0), (0, 0, 0)], [(0, 0, 0), (1, 149, 0)], [(1, 7, 0, 0, 11, 0), (1, 10, 0, 0, 250, 0), (1, 3, 0, 0, 11, 0), (2, 3, 7, 1, 0, 0)], 0, 0), (16, []))]
def kd_X6_isFalse_865e4b_1 : List (Nat × sf_D × sf_M) := [(13, ([(1, 6, 0), (1, 7, 0), (0, 0, 0), (0, 0, 0)], [(0, 0, 0)], [(1, 7, 0, 0, 11, 0), (1, 10, 0, 0, 250, 0), (1, 0, 0, 0, 999, 0)], 0, 0), (15, [])),
  (14, ([(1, 6, 0), (1, 7, 0), (0, 0, 0), (0, 0, 0)], [(0, 0, 0), (0, 0, 0)], [(1, 7, 0, 0, 11, 0), (1, 10, 0, 0, 250, 0), (1, 0, 0, 0, 999, 0), (1, 3, 0, 0, 250, 0), (2, 3, 10, 1, 0, 0)], 0, 0), (14, [])),
  (17, ([(1, 6, 0), (1, 7, 0), (0, 0, 0), (0, 0, 0)], [], [(1, 7, 0, 0, 11, 0), (1, 10, 0, 1, 250, 0)], 0, 0), (13, [])),
  (18, ([(1, 6, 0), (1, 7, 0), (0, 0, 0), (0, 0, 0)], [(1, 6, 0)], [(1, 7, 0, 0, 11, 0), (1, 10, 0, 1, 250, 0)], 0, 0), (12, [])),
  (21, ([(1, 6, 0), (1, 7, 0), (0, 0, 0), (0, 0, 0)], [(1, 149, 0)], [(1, 7, 0, 0, 11, 0), (1, 10, 0, 1, 250, 0)], 0, 0), (11, [])),
  (22, ([(1, 6, 0), (1, 7, 0), (0, 0, 0), (0, 0, 0)], [(0, 0, 0), (1, 149, 0)], [(1, 7, 0, 0, 11, 0), (1, 10, 0, 1, 250, 0), (1, 3, 0, 0, 11, 0), (2, 3, 7, 1, 0, 0)], 0, 0), (10, [])),
  (23, ([(1, 6, 0), (1, 7, 0), (0, 0, 0), (0, 0, 0)], [(0, 0, 0)], [(1, 7, 0, 0, 11, 0), (1, 10, 0, 1, 250, 0), (1, 0, 0, 0, 999, 0)], 0, 0), (9, [])),
  (24, ([(1, 6, 0), (1, 7, 0), (0, 0, 0), (0, 0, 0)], [(1, 6, 0), (0, 0, 0)], [(1, 7, 0, 0, 11, 0), (1, 10, 0, 1, 250, 0), (1, 0, 0, 0, 999, 0)], 0, 0), (8, []))]
def kd_X6_isFalse_865e4b_2 : List (Nat × sf_D × sf_M) := [(27, ([(1, 6, 0), (1, 7, 0), (0, 0, 0), (0, 0, 0)], [(1, 150, 0), (0, 0, 0)], [(1, 7, 0, 0, 11, 0), (1, 10, 0, 1, 250, 0), (1, 0, 0, 0, 999, 0)], 0, 0), (7, [])),
  (28, ([(1, 6, 0), (1, 7, 0), (0, 0, 0), (0, 0, 0)], [(0, 0, 0), (1, 150, 0), (0, 0, 0)], [(1, 7, 0, 0, 11, 0), (1, 10, 0, 1, 250, 0), (1, 0, 0, 0, 999, 0), (1, 6, 0, 0, 11, 0), (2, 6, 7, 1, 0, 0)], 0, 0), (6, [])),
  (29, ([(1, 6, 0), (1, 7, 0), (0, 0, 0), (0, 0, 0)], [(0, 0, 0), (0, 0, 0)], [(1, 7, 0, 0, 11, 0), (1, 10, 0, 1, 250, 0), (1, 0, 0, 0, 999, 0), (1, 3, 0, -2147483648, 2147483647, 0)], 0, 0), (5, [])),
  (30, ([(1, 6, 0), (1, 7, 0), (0, 0, 0), (0, 0, 0)], [(0, 0, 0)], [(1, 7, 0, 0, 11, 0), (1, 10, 0, 1, 250, 0), (1, 0, 0, -2147483648, 2147483647, 0)], 0, 0), (4, [])),
  (31, ([(1, 6, 0), (1, 7, 0), (0, 0, 0), (0, 0, 0)], [(0, 0, 0), (0, 0, 0)], [(1, 7, 0, 0, 11, 0), (1, 10, 0, 1, 250, 0), (1, 0, 0, -2147483648, 2147483647, 0), (1, 3, 0, 1, 250, 0), (2, 3, 10, 1, 0, 0)], 0, 0), (3, [])),
  (34, ([(1, 6, 0), (1, 7, 0), (0, 0, 0), (0, 0, 0)], [], [(1, 7, 0, 0, 11, 0), (1, 10, 0, 1, 250, 0)], 0, 0), (2, [])),
  (35, ([(1, 6, 0), (1, 7, 0), (0, 0, 0), (0, 0, 0)], [(0, 0, 0)], [(1, 7, 0, 0, 11, 0), (1, 10, 0, 1, 250, 0), (1, 0, 0, 1, 1, 0)], 0, 0), (1, []))]
def kd_X6_isFalse_865e4b_3 : List (Nat × sf_D × sf_M) := [(38, ([(1, 6, 0), (1, 7, 0), (0, 0, 0), (0, 0, 0)], [], [(1, 7, 0, 0, 11, 0), (1, 10, 0, 0, 250, 0)], 0, 0), (1, [])),
  (39, ([(1, 6, 0), (1, 7, 0), (0, 0, 0), (0, 0, 0)], [(0, 0, 0)], [(1, 7, 0, 0, 11, 0), (1, 10, 0, 0, 250, 0), (1, 0, 0, 0, 1, 0), (3, 0, 10, 1, 250, 0)], 0, 0), (0, []))]
def kd_X6_isFalse_865e4b : List (Nat × sf_D × sf_M) := kd_X6_isFalse_865e4b_0 ++ (kd_X6_isFalse_865e4b_1 ++ (kd_X6_isFalse_865e4b_2 ++ (kd_X6_isFalse_865e4b_3)))
set_option maxRecDepth 100000 in
theorem kt_X6_isFalse_865e4b : sf_chk [kq_X7_amountOf_f49f7d] kq_X6_isFalse_865e4b 4 kc_X6_isFalse_865e4b kd_X6_isFalse_865e4b = true := by decide +kernel
set_option maxRecDepth 100000 in
theorem kl_X6_isFalse_865e4b : (kc_X6_isFalse_865e4b).map (fun c => (c.1, sf_den ([Z_X7_amountOf] : List sf_X) c.2)) = L_X6_isFalse Z_X7_amountOf := rfl
theorem ct_X6_isFalse_865e4b : sf_ct kq_X6_isFalse_865e4b Z_X6_isFalse := by
  have h := sf_meth (K := [kq_X7_amountOf_f49f7d]) (E := [Z_X7_amountOf]) (k := kq_X6_isFalse_865e4b) (nL := 4) (C := kc_X6_isFalse_865e4b) (D := kd_X6_isFalse_865e4b) (fun m k hk => match m, hk with
    | 0, hk => (Option.some.inj hk) ▸ ct_X7_amountOf_f49f7d
    | _ + 1, hk => (by cases hk)) kt_X6_isFalse_865e4b
  rw [kl_X6_isFalse_865e4b] at h
  exact h
def kq_X5_isSoThere_ca6fa5 : sf_Q := ([(0, 0, 0), (0, 0, 0), (1, 7, 0), (1, 6, 0)], [(1, 3, 0, 0, 11, 0)], some (0, 0, 0), [(1, 0, 0, 0, 1, 0)], [])
def kc_X5_isSoThere_ca6fa5 : List (Nat × sf_I) := [(0, 2, [1, 0]),
  (1, 34, [80, 92, 32, 47, 62, 77]),
  (32, 4, [33, 3]),
  (33, 4, [34, 2]),
  (34, 2, [35, 1]),
  (35, 32, [38, 0, 3, 6, 0, 0, 0, 0]),
  (38, 20, [41, 45, 3]),
  (41, 0, [42, 1]),
  (42, 22, [46]),
  (45, 0, [46, 0]),
  (46, 36, [0, 0]),
  (47, 4, [48, 3]),
  (48, 23, [51, 6, 1]),
  (51, 2, [52, 1]),
  (52, 25, [53, 1]),
  (53, 20, [56, 60, 3]),
  (56, 0, [57, 1]),
  (57, 22, [61]),
  (60, 0, [61, 0]),
  (61, 36, [0, 0]),
  (62, 4, [63, 2]),
  (63, 0, [64, 3]),
  (64, 2, [65, 1]),
  (65, 32, [68, 1, 3, 7, 0, 0, 0, 0]),
  (68, 20, [71, 75, 3]),
  (71, 0, [72, 1]),
  (72, 22, [76]),
  (75, 0, [76, 0]),
  (76, 36, [0, 0]),
  (77, 4, [78, 2]),
  (78, 0, [79, 2]),
  (79, 2, [80, 1]),
  (80, 32, [83, 2, 3, 7, 0, 0, 0, 0]),
  (83, 20, [86, 90, 3]),
  (86, 0, [87, 1]),
  (87, 22, [91]),
  (90, 0, [91, 0]),
  (91, 36, [0, 0]),
  (92, 4, [93, 3]),
  (93, 4, [94, 2]),
  (94, 2, [95, 1]),
  (95, 32, [98, 3, 3, 6, 0, 0, 0, 0]),
  (98, 36, [0, 0])]
def kd_X5_isSoThere_ca6fa5_0 : List (Nat × sf_D × sf_M) := [(0, ([(0, 0, 0), (0, 0, 0), (1, 7, 0), (1, 6, 0)], [], [(1, 4, 0, 0, 11, 0)], 0, 0), (9, [])),
  (1, ([(0, 0, 0), (0, 0, 0), (1, 7, 0), (1, 6, 0)], [(0, 0, 0)], [(1, 4, 0, 0, 11, 0), (1, 0, 0, -2147483648, 2147483647, 0), (1, 1, 0, -2147483648, 2147483647, 0), (2, 0, 1, 1, 0, 0)], 0, 0), (8, [])),
  (32, ([(0, 0, 0), (0, 0, 0), (1, 7, 0), (1, 6, 0)], [], [(1, 4, 0, 0, 11, 0), (1, 1, 0, 80, 80, 0)], 0, 0), (7, [])),
  (33, ([(0, 0, 0), (0, 0, 0), (1, 7, 0), (1, 6, 0)], [(1, 6, 0)], [(1, 4, 0, 0, 11, 0), (1, 1, 0, 80, 80, 0)], 0, 0), (6, [])),
  (34, ([(0, 0, 0), (0, 0, 0), (1, 7, 0), (1, 6, 0)], [(1, 7, 0), (1, 6, 0)], [(1, 4, 0, 0, 11, 0), (1, 1, 0, 80, 80, 0)], 0, 0), (5, [])),
  (35, ([(0, 0, 0), (0, 0, 0), (1, 7, 0), (1, 6, 0)], [(0, 0, 0), (1, 7, 0), (1, 6, 0)], [(1, 4, 0, 0, 11, 0), (1, 1, 0, 80, 80, 0), (1, 6, 0, 0, 11, 0), (2, 6, 4, 1, 0, 0)], 0, 0), (4, [])),
  (38, ([(0, 0, 0), (0, 0, 0), (1, 7, 0), (1, 6, 0)], [(0, 0, 0)], [(1, 4, 0, 0, 11, 0), (1, 1, 0, 80, 80, 0), (1, 0, 0, 0, 250, 0)], 0, 0), (3, [])),
  (41, ([(0, 0, 0), (0, 0, 0), (1, 7, 0), (1, 6, 0)], [], [(1, 4, 0, 0, 11, 0), (1, 1, 0, 80, 80, 0)], 0, 0), (2, []))]
def kd_X5_isSoThere_ca6fa5_1 : List (Nat × sf_D × sf_M) := [(42, ([(0, 0, 0), (0, 0, 0), (1, 7, 0), (1, 6, 0)], [(0, 0, 0)], [(1, 4, 0, 0, 11, 0), (1, 1, 0, 80, 80, 0), (1, 0, 0, 1, 1, 0)], 0, 0), (1, [])),
  (45, ([(0, 0, 0), (0, 0, 0), (1, 7, 0), (1, 6, 0)], [], [(1, 4, 0, 0, 11, 0), (1, 1, 0, 80, 80, 0)], 0, 0), (1, [])),
  (46, ([(0, 0, 0), (0, 0, 0), (1, 7, 0), (1, 6, 0)], [(0, 0, 0)], [(1, 4, 0, 0, 11, 0), (1, 1, 0, 80, 80, 0), (1, 0, 0, 0, 1, 0)], 0, 0), (0, [])),
  (47, ([(0, 0, 0), (0, 0, 0), (1, 7, 0), (1, 6, 0)], [], [(1, 4, 0, 0, 11, 0), (1, 1, 0, 81, 81, 0)], 0, 0), (7, [])),
  (48, ([(0, 0, 0), (0, 0, 0), (1, 7, 0), (1, 6, 0)], [(1, 6, 0)], [(1, 4, 0, 0, 11, 0), (1, 1, 0, 81, 81, 0)], 0, 0), (6, [])),
  (51, ([(0, 0, 0), (0, 0, 0), (1, 7, 0), (1, 6, 0)], [(1, 150, 0)], [(1, 4, 0, 0, 11, 0), (1, 1, 0, 81, 81, 0)], 0, 0), (5, [])),
  (52, ([(0, 0, 0), (0, 0, 0), (1, 7, 0), (1, 6, 0)], [(0, 0, 0), (1, 150, 0)], [(1, 4, 0, 0, 11, 0), (1, 1, 0, 81, 81, 0), (1, 3, 0, 0, 11, 0), (2, 3, 4, 1, 0, 0)], 0, 0), (4, [])),
  (53, ([(0, 0, 0), (0, 0, 0), (1, 7, 0), (1, 6, 0)], [(0, 0, 0)], [(1, 4, 0, 0, 11, 0), (1, 1, 0, 81, 81, 0), (1, 0, 0, -2147483648, 2147483647, 0)], 0, 0), (3, []))]
def kd_X5_isSoThere_ca6fa5_2 : List (Nat × sf_D × sf_M) := [(56, ([(0, 0, 0), (0, 0, 0), (1, 7, 0), (1, 6, 0)], [], [(1, 4, 0, 0, 11, 0), (1, 1, 0, 81, 81, 0)], 0, 0), (2, [])),
  (57, ([(0, 0, 0), (0, 0, 0), (1, 7, 0), (1, 6, 0)], [(0, 0, 0)], [(1, 4, 0, 0, 11, 0), (1, 1, 0, 81, 81, 0), (1, 0, 0, 1, 1, 0)], 0, 0), (1, [])),
  (60, ([(0, 0, 0), (0, 0, 0), (1, 7, 0), (1, 6, 0)], [], [(1, 4, 0, 0, 11, 0), (1, 1, 0, 81, 81, 0)], 0, 0), (1, [])),
  (61, ([(0, 0, 0), (0, 0, 0), (1, 7, 0), (1, 6, 0)], [(0, 0, 0)], [(1, 4, 0, 0, 11, 0), (1, 1, 0, 81, 81, 0), (1, 0, 0, 0, 1, 0)], 0, 0), (0, [])),
  (62, ([(0, 0, 0), (0, 0, 0), (1, 7, 0), (1, 6, 0)], [], [(1, 4, 0, 0, 11, 0), (1, 1, 0, 82, 82, 0)], 0, 0), (7, [])),
  (63, ([(0, 0, 0), (0, 0, 0), (1, 7, 0), (1, 6, 0)], [(1, 7, 0)], [(1, 4, 0, 0, 11, 0), (1, 1, 0, 82, 82, 0)], 0, 0), (6, [])),
  (64, ([(0, 0, 0), (0, 0, 0), (1, 7, 0), (1, 6, 0)], [(0, 0, 0), (1, 7, 0)], [(1, 4, 0, 0, 11, 0), (1, 1, 0, 82, 82, 0), (1, 3, 0, 3, 3, 0)], 0, 0), (5, [])),
  (65, ([(0, 0, 0), (0, 0, 0), (1, 7, 0), (1, 6, 0)], [(0, 0, 0), (0, 0, 0), (1, 7, 0)], [(1, 4, 0, 0, 11, 0), (1, 1, 0, 82, 82, 0), (1, 3, 0, 3, 3, 0), (1, 6, 0, 0, 11, 0), (2, 6, 4, 1, 0, 0)], 0, 0), (4, []))]
def kd_X5_isSoThere_ca6fa5_3 : List (Nat × sf_D × sf_M) := [(68, ([(0, 0, 0), (0, 0, 0), (1, 7, 0), (1, 6, 0)], [(0, 0, 0)], [(1, 4, 0, 0, 11, 0), (1, 1, 0, 82, 82, 0), (1, 0, 0, 0, 250, 0)], 0, 0), (3, [])),
  (71, ([(0, 0, 0), (0, 0, 0), (1, 7, 0), (1, 6, 0)], [], [(1, 4, 0, 0, 11, 0), (1, 1, 0, 82, 82, 0)], 0, 0), (2, [])),
  (72, ([(0, 0, 0), (0, 0, 0), (1, 7, 0), (1, 6, 0)], [(0, 0, 0)], [(1, 4, 0, 0, 11, 0), (1, 1, 0, 82, 82, 0), (1, 0, 0, 1, 1, 0)], 0, 0), (1, [])),
  (75, ([(0, 0, 0), (0, 0, 0), (1, 7, 0), (1, 6, 0)], [], [(1, 4, 0, 0, 11, 0), (1, 1, 0, 82, 82, 0)], 0, 0), (1, [])),
  (76, ([(0, 0, 0), (0, 0, 0), (1, 7, 0), (1, 6, 0)], [(0, 0, 0)], [(1, 4, 0, 0, 11, 0), (1, 1, 0, 82, 82, 0), (1, 0, 0, 0, 1, 0)], 0, 0), (0, [])),
  (77, ([(0, 0, 0), (0, 0, 0), (1, 7, 0), (1, 6, 0)], [], [(1, 4, 0, 0, 11, 0), (1, 1, 0, 83, 83, 0)], 0, 0), (7, [])),
  (78, ([(0, 0, 0), (0, 0, 0), (1, 7, 0), (1, 6, 0)], [(1, 7, 0)], [(1, 4, 0, 0, 11, 0), (1, 1, 0, 83, 83, 0)], 0, 0), (6, [])),
  (79, ([(0, 0, 0), (0, 0, 0), (1, 7, 0), (1, 6, 0)], [(0, 0, 0), (1, 7, 0)], [(1, 4, 0, 0, 11, 0), (1, 1, 0, 83, 83, 0), (1, 3, 0, 2, 2, 0)], 0, 0), (5, []))]
def kd_X5_isSoThere_ca6fa5_4 : List (Nat × sf_D × sf_M) := [(80, ([(0, 0, 0), (0, 0, 0), (1, 7, 0), (1, 6, 0)], [(0, 0, 0), (0, 0, 0), (1, 7, 0)], [(1, 4, 0, 0, 11, 0), (1, 1, 0, 83, 83, 0), (1, 3, 0, 2, 2, 0), (1, 6, 0, 0, 11, 0), (2, 6, 4, 1, 0, 0)], 0, 0), (4, [])),
  (83, ([(0, 0, 0), (0, 0, 0), (1, 7, 0), (1, 6, 0)], [(0, 0, 0)], [(1, 4, 0, 0, 11, 0), (1, 1, 0, 83, 83, 0), (1, 0, 0, 0, 250, 0)], 0, 0), (3, [])),
  (86, ([(0, 0, 0), (0, 0, 0), (1, 7, 0), (1, 6, 0)], [], [(1, 4, 0, 0, 11, 0), (1, 1, 0, 83, 83, 0)], 0, 0), (2, [])),
  (87, ([(0, 0, 0), (0, 0, 0), (1, 7, 0), (1, 6, 0)], [(0, 0, 0)], [(1, 4, 0, 0, 11, 0), (1, 1, 0, 83, 83, 0), (1, 0, 0, 1, 1, 0)], 0, 0), (1, [])),
  (90, ([(0, 0, 0), (0, 0, 0), (1, 7, 0), (1, 6, 0)], [], [(1, 4, 0, 0, 11, 0), (1, 1, 0, 83, 83, 0)], 0, 0), (1, [])),
  (91, ([(0, 0, 0), (0, 0, 0), (1, 7, 0), (1, 6, 0)], [(0, 0, 0)], [(1, 4, 0, 0, 11, 0), (1, 1, 0, 83, 83, 0), (1, 0, 0, 0, 1, 0)], 0, 0), (0, [])),
  (92, ([(0, 0, 0), (0, 0, 0), (1, 7, 0), (1, 6, 0)], [], [(1, 4, 0, 0, 11, 0), (1, 1, 0, -2147483648, 2147483647, 0)], 0, 0), (4, [])),
  (93, ([(0, 0, 0), (0, 0, 0), (1, 7, 0), (1, 6, 0)], [(1, 6, 0)], [(1, 4, 0, 0, 11, 0), (1, 1, 0, -2147483648, 2147483647, 0)], 0, 0), (3, []))]
def kd_X5_isSoThere_ca6fa5_5 : List (Nat × sf_D × sf_M) := [(94, ([(0, 0, 0), (0, 0, 0), (1, 7, 0), (1, 6, 0)], [(1, 7, 0), (1, 6, 0)], [(1, 4, 0, 0, 11, 0), (1, 1, 0, -2147483648, 2147483647, 0)], 0, 0), (2, [])),
  (95, ([(0, 0, 0), (0, 0, 0), (1, 7, 0), (1, 6, 0)], [(0, 0, 0), (1, 7, 0), (1, 6, 0)], [(1, 4, 0, 0, 11, 0), (1, 1, 0, -2147483648, 2147483647, 0), (1, 6, 0, 0, 11, 0), (2, 6, 4, 1, 0, 0)], 0, 0), (1, [])),
  (98, ([(0, 0, 0), (0, 0, 0), (1, 7, 0), (1, 6, 0)], [(0, 0, 0)], [(1, 4, 0, 0, 11, 0), (1, 1, 0, -2147483648, 2147483647, 0), (1, 0, 0, 0, 1, 0)], 0, 0), (0, []))]
def kd_X5_isSoThere_ca6fa5 : List (Nat × sf_D × sf_M) := kd_X5_isSoThere_ca6fa5_0 ++ (kd_X5_isSoThere_ca6fa5_1 ++ (kd_X5_isSoThere_ca6fa5_2 ++ (kd_X5_isSoThere_ca6fa5_3 ++ (kd_X5_isSoThere_ca6fa5_4 ++ (kd_X5_isSoThere_ca6fa5_5)))))
set_option maxRecDepth 100000 in
theorem kt_X5_isSoThere_ca6fa5 : sf_chk [kq_X6_lackAt_865e4b, kq_X7_amountOf_602df6, kq_X7_amountOf_db3e55, kq_X6_isFalse_865e4b] kq_X5_isSoThere_ca6fa5 4 kc_X5_isSoThere_ca6fa5 kd_X5_isSoThere_ca6fa5 = true := by decide +kernel
set_option maxRecDepth 100000 in
theorem kl_X5_isSoThere_ca6fa5 : (kc_X5_isSoThere_ca6fa5).map (fun c => (c.1, sf_den ([Z_X6_lackAt, Z_X7_amountOf, Z_X7_amountOf, Z_X6_isFalse] : List sf_X) c.2)) = L_X5_isSoThere Z_X6_lackAt Z_X7_amountOf Z_X6_isFalse := rfl
theorem ct_X5_isSoThere_ca6fa5 : sf_ct kq_X5_isSoThere_ca6fa5 Z_X5_isSoThere := by
  have h := sf_meth (K := [kq_X6_lackAt_865e4b, kq_X7_amountOf_602df6, kq_X7_amountOf_db3e55, kq_X6_isFalse_865e4b]) (E := [Z_X6_lackAt, Z_X7_amountOf, Z_X7_amountOf, Z_X6_isFalse]) (k := kq_X5_isSoThere_ca6fa5) (nL := 4) (C := kc_X5_isSoThere_ca6fa5) (D := kd_X5_isSoThere_ca6fa5) (fun m k hk => match m, hk with
    | 0, hk => (Option.some.inj hk) ▸ ct_X6_lackAt_865e4b
    | 1, hk => (Option.some.inj hk) ▸ ct_X7_amountOf_602df6
    | 2, hk => (Option.some.inj hk) ▸ ct_X7_amountOf_db3e55
    | 3, hk => (Option.some.inj hk) ▸ ct_X6_isFalse_865e4b
    | _ + 4, hk => (by cases hk)) kt_X5_isSoThere_ca6fa5
  rw [kl_X5_isSoThere_ca6fa5] at h
  exact h
def kq_X5_isSo_6 : sf_Q := ([(1, 5, 0), (0, 0, 0), (0, 0, 0), (1, 7, 0), (1, 6, 0)], [(1, 3, 0, 0, 39, 0), (1, 6, 0, 0, 5, 0)], some (0, 0, 0), [(1, 0, 0, 0, 1, 0)], [])
set_option maxRecDepth 100000 in
set_option maxHeartbeats 4000000 in
theorem ct_X5_isSo_6 : sf_ct kq_X5_isSo_6 Z_X5_isSo := by
  intro t hp as H hl hj hpre
  match as, hl with
  | [v0, v1, v2, v3, v4], _ =>
    obtain ⟨a0, rfl, ra0⟩ := bs_aR (hj 0 _ rfl)
    obtain ⟨x1, rfl⟩ := bs_aI (hj 1 _ rfl)
    have rg1 := n_range x1
    obtain ⟨x2, rfl⟩ := bs_aI (hj 2 _ rfl)
    have rg2 := n_range x2
    obtain ⟨a3, rfl, ra3⟩ := bs_aR (hj 3 _ rfl)
    obtain ⟨a4, rfl, ra4⟩ := bs_aR (hj 4 _ rfl)
    obtain rfl := ra4.eq H (p := 12) rfl
    obtain ⟨pl0, ph0⟩ := bs_s1 (x := x1.toInt) rfl (hpre _ (List.mem_of_getElem? (i := 0) rfl))
    obtain ⟨pl1, ph1⟩ := bs_s1 (x := x2.toInt) rfl (hpre _ (List.mem_of_getElem? (i := 1) rfl))
    clear hpre hj
    have F0 : sf_fr [] t hp t hp := sf_fr_rf
    refine bs_fin (K := kq_X5_isSo_6) (L := (L_X5_isSo Z_X10_slotOf Z_X5_isSoThere Z_X5_valueOf Z_X5_isSoCompared)) (nL := 5) (Nat.le_of_ble_eq_true rfl) ?_
    obtain ⟨Q, hQ⟩ : ∃ Q : ab_O → Prop, Q = (fun o => ∃ t', sf_h t' o.2 ∧ sf_fr (kq_X5_isSo_6).2.2.2.2 t hp t' o.2 ∧ sf_an t' o.2.1 (kq_X5_isSo_6).2.2.1 o.1 ∧ sf_S (sf_v1 o.1 [.ref a0, .int x1, .int x2, .ref a3, .ref 12] o.2) (kq_X5_isSo_6).2.2.2.1) := ⟨_, rfl⟩
    rw [← hQ]
    refine (show Ev (ab_T (L_X5_isSo Z_X10_slotOf Z_X5_isSoThere Z_X5_valueOf Z_X5_isSoCompared)) 0 ([some (.ref a0), some (.int x1), some (.int x2), some (.ref a3), some (.ref 12)], [], (0, 0), hp) Q from ?_)
    exact by
     refine Ev.step (j := 1) (s' := ([some (.ref a0), some (.int x1), some (.int x2), some (.ref a3), some (.ref 12)], [.ref a0], (0, 0), hp)) rfl rfl ?_
     refine bs_getR (g := 5) (g1 := 106) rfl rfl H (ra0.fr F0) (by decide) rfl fun b1 qb1 rb1 => ?_
     refine Ev.step (j := 5) (s' := ([some (.ref a0), some (.int x1), some (.int x2), some (.ref a3), some (.ref 12)], [.int x1, .ref b1], (0, 0), hp)) rfl rfl ?_
     refine bs_ld (g := 106) 0 39 (-2147483648, 2147483647) rfl H rb1 (by decide) rfl (by decide) (by decide) rfl (by decide) (by omega) (by omega) fun z2 hz2 lz2 gz2 => ?_
     dsimp only at lz2 gz2
     refine bs_lit (k := 84) rfl rfl fun z3 hz3 => ?_
     refine bs_gt rfl (fun c4 => ?_) (fun c4 => ?_)
     · skip
       refine Ev.step (j := 37) (s' := ([some (.ref a0), some (.int x1), some (.int x2), some (.ref a3), some (.ref 12)], [.ref a0], (0, 0), hp)) rfl rfl ?_
       refine bs_getR (g := 5) (g1 := 106) rfl rfl H (ra0.fr F0) (by decide) rfl fun b5 qb5 rb5 => ?_
       exact by
        refine Ev.step (j := 41) (s' := ([some (.ref a0), some (.int x1), some (.int x2), some (.ref a3), some (.ref 12)], [.int x1, .ref b5], (0, 0), hp)) rfl rfl ?_
        refine bs_ld (g := 106) 0 39 (-2147483648, 2147483647) rfl H rb5 (by decide) rfl (by decide) (by decide) rfl (by decide) (by omega) (by omega) fun z6 hz6 lz6 gz6 => ?_
        dsimp only at lz6 gz6
        refine Ev.step (j := 43) (s' := ([some (.ref a0), some (.int x1), some (.int x2), some (.ref a3), some (.ref 12)], [.int x2, .int z6], (0, 0), hp)) rfl rfl ?_
        refine Ev.step (j := 45) (s' := ([some (.ref a0), some (.int x1), some (.int x2), some (.ref a3), some (.ref 12)], [.ref 12, .int x2, .int z6], (0, 0), hp)) rfl rfl ?_
        refine bs_callS (K := kq_X5_valueOf_d11ed3) [.int z6, .int x2, .ref 12] [] rfl ct_X5_valueOf_d11ed3 H rfl rfl rfl rfl ?_ (sf_S_cons (sf_s1 (x := x2.toInt) rfl (by omega) (by omega)) (sf_S_nil)) fun r7 hp8 thp8 Hhp8 fhp8 ahp8 php8 => ?_
        · intro q k h
          match q, h with
          | 0, h => cases h; exact sf_j0
          | 1, h => cases h; exact sf_j0
          | 2, h => cases h; exact bs_jR (bs_R.uq H (g := 6) rfl)
          | q + 3, h => cases h
        obtain ⟨z9, rfl⟩ := bs_anI ahp8
        have rgz9 := n_range z9
        have Fhp8 := sf_fr_tr F0 (sf_fr_wider (W := []) rfl fhp8)
        have h10 : sf_rd hp8 b1 x1.toInt.toNat = some z2.toInt := (fhp8.2.2.1 _ rb1.1 _ (by rw [rb1.2]; rfl)).trans hz2
        have h11 : sf_rd hp8 b5 x1.toInt.toNat = some z6.toInt := (fhp8.2.2.1 _ rb5.1 _ (by rw [rb5.2]; rfl)).trans hz6
        have r12 := rb1.fr fhp8
        have r13 := rb5.fr fhp8
        refine (show Ev _ 48 ([some (.ref a0), some (.int x1), some (.int x2), some (.ref a3), some (.ref 12)], [.int z9], (0, 0), hp8) _ from ?_)
        exact by
         refine Ev.step (j := 49) (s' := ([some (.ref a0), some (.int x1), some (.int x2), some (.ref a3), some (.ref 12)], [.ref a0, .int z9], (0, 0), hp8)) rfl rfl ?_
         refine bs_getR (g := 5) (g1 := 107) rfl rfl Hhp8 (ra0.fr Fhp8) (by decide) rfl fun b14 qb14 rb14 => ?_
         refine Ev.step (j := 53) (s' := ([some (.ref a0), some (.int x1), some (.int x2), some (.ref a3), some (.ref 12)], [.int x1, .ref b14, .int z9], (0, 0), hp8)) rfl rfl ?_
         refine bs_ld (g := 107) 0 39 (-2147483648, 2147483647) rfl Hhp8 rb14 (by decide) rfl (by decide) (by decide) rfl (by decide) (by omega) (by omega) fun z15 hz15 lz15 gz15 => ?_
         dsimp only at lz15 gz15
         refine Ev.step (j := 55) (s' := ([some (.ref a0), some (.int x1), some (.int x2), some (.ref a3), some (.ref 12)], [.ref a0, .int z15, .int z9], (0, 0), hp8)) rfl rfl ?_
         refine bs_getR (g := 5) (g1 := 108) rfl rfl Hhp8 (ra0.fr Fhp8) (by decide) rfl fun b16 qb16 rb16 => ?_
         refine Ev.step (j := 59) (s' := ([some (.ref a0), some (.int x1), some (.int x2), some (.ref a3), some (.ref 12)], [.int x1, .ref b16, .int z15, .int z9], (0, 0), hp8)) rfl rfl ?_
         refine bs_ld (g := 108) 0 39 (-2147483648, 2147483647) rfl Hhp8 rb16 (by decide) rfl (by decide) (by decide) rfl (by decide) (by omega) (by omega) fun z17 hz17 lz17 gz17 => ?_
         dsimp only at lz17 gz17
         refine bs_callS (K := kq_X5_isSoCompared_e91f76) [.int z9, .int z15, .int z17] [] rfl ct_X5_isSoCompared_e91f76 Hhp8 rfl rfl rfl rfl ?_ (sf_S_nil) fun r18 hp19 thp19 Hhp19 fhp19 ahp19 php19 => ?_
         · intro q k h
           match q, h with
           | 0, h => cases h; exact sf_j0
           | 1, h => cases h; exact sf_j0
           | 2, h => cases h; exact sf_j0
           | q + 3, h => cases h
         obtain ⟨z20, rfl⟩ := bs_anI ahp19
         have rgz20 := n_range z20
         have Fhp19 := sf_fr_tr Fhp8 (sf_fr_wider (W := []) rfl fhp19)
         have h21 : sf_rd hp19 b1 x1.toInt.toNat = some z2.toInt := (fhp19.2.2.1 _ r12.1 _ (by rw [r12.2]; rfl)).trans h10
         have h22 : sf_rd hp19 b5 x1.toInt.toNat = some z6.toInt := (fhp19.2.2.1 _ r13.1 _ (by rw [r13.2]; rfl)).trans h11
         have h23 : sf_rd hp19 b14 x1.toInt.toNat = some z15.toInt := (fhp19.2.2.1 _ rb14.1 _ (by rw [rb14.2]; rfl)).trans hz15
         have h24 : sf_rd hp19 b16 x1.toInt.toNat = some z17.toInt := (fhp19.2.2.1 _ rb16.1 _ (by rw [rb16.2]; rfl)).trans hz17
         obtain ⟨uz20, vz20⟩ := bs_s1 (x := z20.toInt) rfl (php19 _ (List.mem_of_getElem? (i := 0) rfl))
         have r25 := r12.fr fhp19
         have r26 := r13.fr fhp19
         have r27 := rb14.fr fhp19
         have r28 := rb16.fr fhp19
         refine (show Ev _ 63 ([some (.ref a0), some (.int x1), some (.int x2), some (.ref a3), some (.ref 12)], [.int z20], (0, 0), hp19) _ from ?_)
         exact bs_zret rfl rfl (by omega) (by omega) (by rw [hQ]; exact ⟨thp19, Hhp19, Fhp19, bs_an0, sf_S_cons (sf_s1 (x := z20.toInt) rfl (by omega) (by omega)) (sf_S_nil)⟩)
     · skip
       refine Ev.step (j := 12) (s' := ([some (.ref a0), some (.int x1), some (.int x2), some (.ref a3), some (.ref 12)], [.ref a0], (0, 0), hp)) rfl rfl ?_
       exact by
        refine bs_getR (g := 5) (g1 := 106) rfl rfl H (ra0.fr F0) (by decide) rfl fun b29 qb29 rb29 => ?_
        refine Ev.step (j := 16) (s' := ([some (.ref a0), some (.int x1), some (.int x2), some (.ref a3), some (.ref 12)], [.int x1, .ref b29], (0, 0), hp)) rfl rfl ?_
        refine bs_ld (g := 106) 0 39 (-2147483648, 2147483647) rfl H rb29 (by decide) rfl (by decide) (by decide) rfl (by decide) (by omega) (by omega) fun z30 hz30 lz30 gz30 => ?_
        dsimp only at lz30 gz30
        refine Ev.step (j := 18) (s' := ([some (.ref a0), some (.int x1), some (.int x2), some (.ref a3), some (.ref 12)], [.int x2, .int z30], (0, 0), hp)) rfl rfl ?_
        refine Ev.step (j := 19) (s' := ([some (.ref a0), some (.int x1), some (.int x2), some (.ref a3), some (.ref 12)], [.ref a0, .int x2, .int z30], (0, 0), hp)) rfl rfl ?_
        refine bs_getR (g := 5) (g1 := 107) rfl rfl H (ra0.fr F0) (by decide) rfl fun b31 qb31 rb31 => ?_
        refine Ev.step (j := 23) (s' := ([some (.ref a0), some (.int x1), some (.int x2), some (.ref a3), some (.ref 12)], [.int x1, .ref b31, .int x2, .int z30], (0, 0), hp)) rfl rfl ?_
        refine bs_ld (g := 107) 0 39 (-2147483648, 2147483647) rfl H rb31 (by decide) rfl (by decide) (by decide) rfl (by decide) (by omega) (by omega) fun z32 hz32 lz32 gz32 => ?_
        dsimp only at lz32 gz32
        have i1 := bs_I1' (i := x1.toInt.toNat) H ra0 qb1 qb31 (by omega) hz2 (by omega) hz32
        refine Ev.inlS (L := L_X10_slotOf) (nL := 2) rfl rfl (Nat.le_of_ble_eq_true rfl) ?_
        generalize hQ33 : (fun (o : ab_O) => Ev _ _ _ _) = Q33
        refine (show Ev (ab_T L_X10_slotOf) 0 ([some (.int x2), some (.int z32)], [], (0, 0), hp) Q33 from ?_)
        exact by
         refine bs_lit (k := 2) rfl rfl fun z34 hz34 => ?_
         refine Ev.step (j := 2) (s' := ([some (.int x2), some (.int z32)], [.int x2, .int z34], (0, 0), hp)) rfl rfl ?_
         refine bs_mul (2) rfl (Or.inl hz34) (by rw [hz34]; omega) (by rw [hz34]; omega) fun z35 hz35 => ?_
         rw [hz34] at hz35
         refine Ev.step (j := 4) (s' := ([some (.int x2), some (.int z32)], [.int z32, .int z35], (0, 0), hp)) rfl rfl ?_
         first | (refine bs_add rfl (by omega) (by omega) fun z36 hz36 => ?_) | (refine bs_any rfl fun z36 => ?_)
         have rz36 := n_range z36
         refine Ev.ret rfl rfl ?_
         rw [← hQ33]
         refine (show Ev _ 27 ([some (.ref a0), some (.int x1), some (.int x2), some (.ref a3), some (.ref 12)], [.int z36, .int z30], (0, 0), hp) _ from ?_)
         exact by
          refine Ev.step (j := 28) (s' := ([some (.ref a0), some (.int x1), some (.int x2), some (.ref a3), some (.ref 12)], [.ref a3, .int z36, .int z30], (0, 0), hp)) rfl rfl ?_
          refine Ev.step (j := 30) (s' := ([some (.ref a0), some (.int x1), some (.int x2), some (.ref a3), some (.ref 12)], [.ref 12, .ref a3, .int z36, .int z30], (0, 0), hp)) rfl rfl ?_
          refine bs_callS (K := kq_X5_isSoThere_ca6fa5) [.int z30, .int z36, .ref a3, .ref 12] [] rfl ct_X5_isSoThere_ca6fa5 H rfl rfl rfl rfl ?_ (sf_S_cons (sf_s1 (x := z36.toInt) rfl (by omega) (by omega)) (sf_S_nil)) fun r37 hp38 thp38 Hhp38 fhp38 ahp38 php38 => ?_
          · intro q k h
            match q, h with
            | 0, h => cases h; exact sf_j0
            | 1, h => cases h; exact sf_j0
            | 2, h => cases h; exact bs_jR (ra3.fr F0)
            | 3, h => cases h; exact bs_jR (bs_R.uq H (g := 6) rfl)
            | q + 4, h => cases h
          obtain ⟨z39, rfl⟩ := bs_anI ahp38
          have rgz39 := n_range z39
          have Fhp38 := sf_fr_tr F0 (sf_fr_wider (W := []) rfl fhp38)
          have h40 : sf_rd hp38 b1 x1.toInt.toNat = some z2.toInt := (fhp38.2.2.1 _ rb1.1 _ (by rw [rb1.2]; rfl)).trans hz2
          have h41 : sf_rd hp38 b29 x1.toInt.toNat = some z30.toInt := (fhp38.2.2.1 _ rb29.1 _ (by rw [rb29.2]; rfl)).trans hz30
          have h42 : sf_rd hp38 b31 x1.toInt.toNat = some z32.toInt := (fhp38.2.2.1 _ rb31.1 _ (by rw [rb31.2]; rfl)).trans hz32
          obtain ⟨uz39, vz39⟩ := bs_s1 (x := z39.toInt) rfl (php38 _ (List.mem_of_getElem? (i := 0) rfl))
          have r43 := rb1.fr fhp38
          have r44 := rb29.fr fhp38
          have r45 := rb31.fr fhp38
          refine (show Ev _ 33 ([some (.ref a0), some (.int x1), some (.int x2), some (.ref a3), some (.ref 12)], [.int z39], (0, 0), hp38) _ from ?_)
          exact by
           refine Ev.step (j := 63) (s' := ([some (.ref a0), some (.int x1), some (.int x2), some (.ref a3), some (.ref 12)], [.int z39], (0, 0), hp38)) rfl rfl ?_
           exact bs_zret rfl rfl (by omega) (by omega) (by rw [hQ]; exact ⟨thp38, Hhp38, Fhp38, bs_an0, sf_S_cons (sf_s1 (x := z39.toInt) rfl (by omega) (by omega)) (sf_S_nil)⟩)
def kq_X6_attempt_13h : sf_Q := ([(1, 13, 0), (0, 0, 0), (0, 0, 0), (0, 0, 0)], [(1, 3, 0, 0, 2, 0), (1, 6, 0, 0, 11, 0), (1, 9, 0, 0, 250, 0)], some (0, 0, 0), [(1, 0, 0, 0, 2, 0)], [(156, 0, 11), (157, 0, 11), (160, 0, 7)])
set_option maxRecDepth 100000 in
set_option maxHeartbeats 4000000 in
theorem ct_X6_attempt_13h : sf_ct kq_X6_attempt_13h Z_X6_attempt := by
  intro t hp as H hl hj hpre
  match as, hl with
  | [v0, v1, v2, v3], _ =>
    obtain ⟨a0, rfl, ra0⟩ := bs_aR (hj 0 _ rfl)
    obtain rfl := ra0.eq H (p := 20) rfl
    obtain ⟨x1, rfl⟩ := bs_aI (hj 1 _ rfl)
    have rg1 := n_range x1
    obtain ⟨x2, rfl⟩ := bs_aI (hj 2 _ rfl)
    have rg2 := n_range x2
    obtain ⟨x3, rfl⟩ := bs_aI (hj 3 _ rfl)
    have rg3 := n_range x3
    obtain ⟨pl0, ph0⟩ := bs_s1 (x := x1.toInt) rfl (hpre _ (List.mem_of_getElem? (i := 0) rfl))
    obtain ⟨pl1, ph1⟩ := bs_s1 (x := x2.toInt) rfl (hpre _ (List.mem_of_getElem? (i := 1) rfl))
    obtain ⟨pl2, ph2⟩ := bs_s1 (x := x3.toInt) rfl (hpre _ (List.mem_of_getElem? (i := 2) rfl))
    clear hpre hj
    have F0 : sf_fr [(156, 0, 11), (157, 0, 11), (160, 0, 7)] t hp t hp := sf_fr_rf
    refine bs_fin (K := kq_X6_attempt_13h) (L := (L_X6_attempt Z_X6_whyNot Z_X6_perform)) (nL := 5) (Nat.le_of_ble_eq_true rfl) ?_
    obtain ⟨Q, hQ⟩ : ∃ Q : ab_O → Prop, Q = (fun o => ∃ t', sf_h t' o.2 ∧ sf_fr (kq_X6_attempt_13h).2.2.2.2 t hp t' o.2 ∧ sf_an t' o.2.1 (kq_X6_attempt_13h).2.2.1 o.1 ∧ sf_S (sf_v1 o.1 [.ref 20, .int x1, .int x2, .int x3] o.2) (kq_X6_attempt_13h).2.2.2.1) := ⟨_, rfl⟩
    rw [← hQ]
    refine (show Ev (ab_T (L_X6_attempt Z_X6_whyNot Z_X6_perform)) 0 ([some (.ref 20), some (.int x1), some (.int x2), some (.int x3), none], [], (0, 0), hp) Q from ?_)
    exact by
     refine Ev.step (j := 1) (s' := ([some (.ref 20), some (.int x1), some (.int x2), some (.int x3), none], [.ref 20], (0, 0), hp)) rfl rfl ?_
     refine Ev.step (j := 2) (s' := ([some (.ref 20), some (.int x1), some (.int x2), some (.int x3), none], [.int x1, .ref 20], (0, 0), hp)) rfl rfl ?_
     refine Ev.step (j := 3) (s' := ([some (.ref 20), some (.int x1), some (.int x2), some (.int x3), none], [.int x2, .int x1, .ref 20], (0, 0), hp)) rfl rfl ?_
     refine Ev.step (j := 4) (s' := ([some (.ref 20), some (.int x1), some (.int x2), some (.int x3), none], [.int x3, .int x2, .int x1, .ref 20], (0, 0), hp)) rfl rfl ?_
     refine Ev.inl (L := (L_X6_whyNot Z_X6_isAlive)) (nL := 4) rfl (bs_rcv (g := 13) H (bs_R.uq H (g := 13) rfl) (by decide) rfl) rfl (Nat.le_of_ble_eq_true rfl) ?_
     generalize hQ1 : (fun (o : ab_O) => Ev _ _ _ _) = Q1
     refine (show Ev (ab_T (L_X6_whyNot Z_X6_isAlive)) 0 ([some (.ref 20), some (.int x1), some (.int x2), some (.int x3)], [], (0, 0), hp) Q1 from ?_)
     refine Ev.step (j := 1) (s' := ([some (.ref 20), some (.int x1), some (.int x2), some (.int x3)], [.int x1], (0, 0), hp)) rfl rfl ?_
     rcases (show x1.toInt = 0 ∨ x1.toInt = 1 ∨ x1.toInt = 2 by omega) with c2 | c2 | c2
     · refine bs_tab 0 rfl (by omega) rfl ?_
       refine Ev.step (j := 29) (s' := ([some (.ref 20), some (.int x1), some (.int x2), some (.int x3)], [.ref 20], (0, 0), hp)) rfl rfl ?_
       exact by
        refine bs_getU (g := 13) (g1 := 156) rfl rfl H (bs_R.uq H (g := 13) rfl) (by decide) rfl rfl ?_
        refine Ev.step (j := 33) (s' := ([some (.ref 20), some (.int x1), some (.int x2), some (.int x3)], [.int x2, .ref 21], (0, 0), hp)) rfl rfl ?_
        refine bs_ld (g := 156) 0 11 (0, 999) rfl H (bs_R.uq H (g := 156) rfl) (by decide) rfl (by decide) (by decide) rfl (by decide) (by omega) (by omega) fun z3 hz3 lz3 gz3 => ?_
        dsimp only at lz3 gz3
        refine Ev.step (j := 35) (s' := ([some (.ref 20), some (.int x1), some (.int x2), some (.int x3)], [.int x3, .int z3], (0, 0), hp)) rfl rfl ?_
        refine bs_ge rfl (fun c4 => ?_) (fun c4 => ?_)
        · skip
          refine bs_lit (k := 0) rfl rfl fun z5 hz5 => ?_
          refine Ev.ret rfl rfl ?_
          rw [← hQ1]
          refine (show Ev _ 7 ([some (.ref 20), some (.int x1), some (.int x2), some (.int x3), none], [.int z5], (0, 0), hp) _ from ?_)
          exact by
           refine Ev.step (j := 9) (s' := ([some (.ref 20), some (.int x1), some (.int x2), some (.int x3), some (.int z5)], [], (0, 0), hp)) rfl rfl ?_
           refine Ev.step (j := 11) (s' := ([some (.ref 20), some (.int x1), some (.int x2), some (.int x3), some (.int z5)], [.int z5], (0, 0), hp)) rfl rfl ?_
           refine bs_ifne rfl (fun c6 => ?_) (fun c6 => ?_)
           · exfalso; omega
           · skip
             refine Ev.step (j := 15) (s' := ([some (.ref 20), some (.int x1), some (.int x2), some (.int x3), some (.int z5)], [.ref 20], (0, 0), hp)) rfl rfl ?_
             refine Ev.step (j := 16) (s' := ([some (.ref 20), some (.int x1), some (.int x2), some (.int x3), some (.int z5)], [.int x1, .ref 20], (0, 0), hp)) rfl rfl ?_
             refine Ev.step (j := 17) (s' := ([some (.ref 20), some (.int x1), some (.int x2), some (.int x3), some (.int z5)], [.int x2, .int x1, .ref 20], (0, 0), hp)) rfl rfl ?_
             refine Ev.step (j := 18) (s' := ([some (.ref 20), some (.int x1), some (.int x2), some (.int x3), some (.int z5)], [.int x3, .int x2, .int x1, .ref 20], (0, 0), hp)) rfl rfl ?_
             refine Ev.inl (L := L_X6_perform) (nL := 4) rfl (bs_rcv (g := 13) H (bs_R.uq H (g := 13) rfl) (by decide) rfl) rfl (Nat.le_of_ble_eq_true rfl) ?_
             generalize hQ7 : (fun (o : ab_O) => Ev _ _ _ _) = Q7
             refine (show Ev (ab_T L_X6_perform) 0 ([some (.ref 20), some (.int x1), some (.int x2), some (.int x3)], [], (0, 0), hp) Q7 from ?_)
             exact by
              refine Ev.step (j := 1) (s' := ([some (.ref 20), some (.int x1), some (.int x2), some (.int x3)], [.int x1], (0, 0), hp)) rfl rfl ?_
              refine bs_lit (k := 3) rfl rfl fun z8 hz8 => ?_
              refine bs_ne rfl (fun c9 => ?_) (fun c9 => ?_)
              · skip
                refine Ev.step (j := 14) (s' := ([some (.ref 20), some (.int x1), some (.int x2), some (.int x3)], [.ref 20], (0, 0), hp)) rfl rfl ?_
                refine bs_getU (g := 13) (g1 := 156) rfl rfl H (bs_R.uq H (g := 13) rfl) (by decide) rfl rfl ?_
                refine Ev.step (j := 18) (s' := ([some (.ref 20), some (.int x1), some (.int x2), some (.int x3)], [.int x2, .ref 21], (0, 0), hp)) rfl rfl ?_
                refine Ev.step (j := 19) (s' := ([some (.ref 20), some (.int x1), some (.int x2), some (.int x3)], [.int x2, .ref 21, .int x2, .ref 21], (0, 0), hp)) rfl rfl ?_
                refine bs_ld (g := 156) 0 11 (0, 999) rfl H (bs_R.uq H (g := 156) rfl) (by decide) rfl (by decide) (by decide) rfl (by decide) (by omega) (by omega) fun z10 hz10 lz10 gz10 => ?_
                dsimp only at lz10 gz10
                have e11 : z10.toInt = z3.toInt := Option.some.inj (hz10.symm.trans hz3)
                refine Ev.step (j := 21) (s' := ([some (.ref 20), some (.int x1), some (.int x2), some (.int x3)], [.int x1, .int z10, .int x2, .ref 21], (0, 0), hp)) rfl rfl ?_
                exact by
                 refine bs_lit (k := 1) rfl rfl fun z12 hz12 => ?_
                 refine bs_ne rfl (fun c13 => ?_) (fun c13 => ?_)
                 · skip
                   refine Ev.step (j := 30) (s' := ([some (.ref 20), some (.int x1), some (.int x2), some (.int x3)], [.int x3, .int z10, .int x2, .ref 21], (0, 0), hp)) rfl rfl ?_
                   refine bs_neg rfl (by omega) fun z14 hz14 => ?_
                   first | (refine bs_add rfl (by omega) (by omega) fun z15 hz15 => ?_) | (refine bs_any rfl fun z15 => ?_)
                   have rz15 := n_range z15
                   refine bs_st (W := [(156, 0, 11)]) (g := 156) 0 11 (0, 999) rfl H (bs_R.uq H (g := 156) rfl) (by decide) rfl rfl (by decide) rfl rfl (by omega) (by omega) (by dsimp only; omega) (by dsimp only; omega) fun hp16 Hhp16 fhp16 rhp16 ehp16 qhp16 nhp16 => ?_
                   have Fhp16 := sf_fr_tr F0 (sf_fr_wider (W := [(156, 0, 11), (157, 0, 11), (160, 0, 7)]) rfl fhp16)
                   refine Ev.step (j := 34) (s' := ([some (.ref 20), some (.int x1), some (.int x2), some (.int x3)], [.int x1], (0, 0), hp16)) rfl rfl ?_
                   exact by
                    refine bs_ifne rfl (fun c17 => ?_) (fun c17 => ?_)
                    · exfalso; omega
                    · skip
                      refine Ev.step (j := 38) (s' := ([some (.ref 20), some (.int x1), some (.int x2), some (.int x3)], [.ref 20], (0, 0), hp16)) rfl rfl ?_
                      refine bs_getU (g := 13) (g1 := 157) rfl rfl Hhp16 (bs_R.uq Hhp16 (g := 13) rfl) (by decide) rfl rfl ?_
                      refine Ev.step (j := 42) (s' := ([some (.ref 20), some (.int x1), some (.int x2), some (.int x3)], [.int x2, .ref 22], (0, 0), hp16)) rfl rfl ?_
                      refine Ev.step (j := 43) (s' := ([some (.ref 20), some (.int x1), some (.int x2), some (.int x3)], [.int x2, .ref 22, .int x2, .ref 22], (0, 0), hp16)) rfl rfl ?_
                      refine bs_ld (g := 157) 0 11 (-2147483648, 2147483647) rfl Hhp16 (bs_R.uq Hhp16 (g := 157) rfl) (by decide) rfl (by decide) (by decide) rfl (by decide) (by omega) (by omega) fun z18 hz18 lz18 gz18 => ?_
                      dsimp only at lz18 gz18
                      refine Ev.step (j := 45) (s' := ([some (.ref 20), some (.int x1), some (.int x2), some (.int x3)], [.int x3, .int z18, .int x2, .ref 22], (0, 0), hp16)) rfl rfl ?_
                      first | (refine bs_add rfl (by omega) (by omega) fun z19 hz19 => ?_) | (refine bs_any rfl fun z19 => ?_)
                      have rz19 := n_range z19
                      refine bs_st (W := [(157, 0, 11)]) (g := 157) 0 11 (-2147483648, 2147483647) rfl Hhp16 (bs_R.uq Hhp16 (g := 157) rfl) (by decide) rfl rfl (by decide) rfl rfl (by omega) (by omega) (by dsimp only; omega) (by dsimp only; omega) fun hp20 Hhp20 fhp20 rhp20 ehp20 qhp20 nhp20 => ?_
                      have Fhp20 := sf_fr_tr Fhp16 (sf_fr_wider (W := [(156, 0, 11), (157, 0, 11), (160, 0, 7)]) rfl fhp20)
                      have h21 : sf_rd hp20 21 x2.toInt.toNat = some z15.toInt := (ehp20 _ _ (Or.inl (by decide))).trans rhp16
                      refine Ev.step (j := 65) (s' := ([some (.ref 20), some (.int x1), some (.int x2), some (.int x3)], [], (0, 0), hp20)) rfl rfl ?_
                      exact by
                       refine Ev.ret rfl rfl ?_
                       rw [← hQ7]
                       refine (show Ev _ 21 ([some (.ref 20), some (.int x1), some (.int x2), some (.int x3), some (.int z5)], [], (0, 0), hp20) _ from ?_)
                       refine Ev.step (j := 23) (s' := ([some (.ref 20), some (.int x1), some (.int x2), some (.int x3), some (.int z5)], [.int z5], (0, 0), hp20)) rfl rfl ?_
                       exact Ev.ret rfl rfl (by rw [hQ]; exact ⟨t, Hhp20, Fhp20, bs_an0, sf_S_cons (sf_s1 (x := z5.toInt) rfl (by omega) (by omega)) (sf_S_nil)⟩)
                 · exfalso; omega
              · exfalso; omega
        · skip
          refine bs_lit (k := 1) rfl rfl fun z22 hz22 => ?_
          exact by
           refine Ev.step (j := 43) (s' := ([some (.ref 20), some (.int x1), some (.int x2), some (.int x3)], [.int z22], (0, 0), hp)) rfl rfl ?_
           refine Ev.ret rfl rfl ?_
           rw [← hQ1]
           refine (show Ev _ 7 ([some (.ref 20), some (.int x1), some (.int x2), some (.int x3), none], [.int z22], (0, 0), hp) _ from ?_)
           refine Ev.step (j := 9) (s' := ([some (.ref 20), some (.int x1), some (.int x2), some (.int x3), some (.int z22)], [], (0, 0), hp)) rfl rfl ?_
           refine Ev.step (j := 11) (s' := ([some (.ref 20), some (.int x1), some (.int x2), some (.int x3), some (.int z22)], [.int z22], (0, 0), hp)) rfl rfl ?_
           refine bs_ifne rfl (fun c23 => ?_) (fun c23 => ?_)
           · skip
             refine Ev.step (j := 23) (s' := ([some (.ref 20), some (.int x1), some (.int x2), some (.int x3), some (.int z22)], [.int z22], (0, 0), hp)) rfl rfl ?_
             exact Ev.ret rfl rfl (by rw [hQ]; exact ⟨t, H, F0, bs_an0, sf_S_cons (sf_s1 (x := z22.toInt) rfl (by omega) (by omega)) (sf_S_nil)⟩)
           · exfalso; omega
     · refine bs_tab 1 rfl (by omega) rfl ?_
       refine Ev.step (j := 45) (s' := ([some (.ref 20), some (.int x1), some (.int x2), some (.int x3)], [.ref 20], (0, 0), hp)) rfl rfl ?_
       exact by
        refine bs_getU (g := 13) (g1 := 157) rfl rfl H (bs_R.uq H (g := 13) rfl) (by decide) rfl rfl ?_
        refine Ev.step (j := 49) (s' := ([some (.ref 20), some (.int x1), some (.int x2), some (.int x3)], [.int x2, .ref 22], (0, 0), hp)) rfl rfl ?_
        refine bs_ld (g := 157) 0 11 (-2147483648, 2147483647) rfl H (bs_R.uq H (g := 157) rfl) (by decide) rfl (by decide) (by decide) rfl (by decide) (by omega) (by omega) fun z24 hz24 lz24 gz24 => ?_
        dsimp only at lz24 gz24
        refine Ev.step (j := 51) (s' := ([some (.ref 20), some (.int x1), some (.int x2), some (.int x3)], [.int x3, .int z24], (0, 0), hp)) rfl rfl ?_
        refine bs_ge rfl (fun c25 => ?_) (fun c25 => ?_)
        · skip
          refine Ev.step (j := 59) (s' := ([some (.ref 20), some (.int x1), some (.int x2), some (.int x3)], [.ref 20], (0, 0), hp)) rfl rfl ?_
          refine bs_getU (g := 13) (g1 := 156) rfl rfl H (bs_R.uq H (g := 13) rfl) (by decide) rfl rfl ?_
          refine Ev.step (j := 63) (s' := ([some (.ref 20), some (.int x1), some (.int x2), some (.int x3)], [.int x2, .ref 21], (0, 0), hp)) rfl rfl ?_
          exact by
           refine bs_ld (g := 156) 0 11 (0, 999) rfl H (bs_R.uq H (g := 156) rfl) (by decide) rfl (by decide) (by decide) rfl (by decide) (by omega) (by omega) fun z26 hz26 lz26 gz26 => ?_
           dsimp only at lz26 gz26
           refine Ev.step (j := 65) (s' := ([some (.ref 20), some (.int x1), some (.int x2), some (.int x3)], [.int x3, .int z26], (0, 0), hp)) rfl rfl ?_
           first | (refine bs_add rfl (by omega) (by omega) fun z27 hz27 => ?_) | (refine bs_any rfl fun z27 => ?_)
           have rz27 := n_range z27
           refine bs_lit (k := 999) rfl rfl fun z28 hz28 => ?_
           refine bs_le rfl (fun c29 => ?_) (fun c29 => ?_)
           · skip
             refine bs_lit (k := 0) rfl rfl fun z30 hz30 => ?_
             refine Ev.ret rfl rfl ?_
             rw [← hQ1]
             refine (show Ev _ 7 ([some (.ref 20), some (.int x1), some (.int x2), some (.int x3), none], [.int z30], (0, 0), hp) _ from ?_)
             exact by
              refine Ev.step (j := 9) (s' := ([some (.ref 20), some (.int x1), some (.int x2), some (.int x3), some (.int z30)], [], (0, 0), hp)) rfl rfl ?_
              refine Ev.step (j := 11) (s' := ([some (.ref 20), some (.int x1), some (.int x2), some (.int x3), some (.int z30)], [.int z30], (0, 0), hp)) rfl rfl ?_
              refine bs_ifne rfl (fun c31 => ?_) (fun c31 => ?_)
              · exfalso; omega
              · skip
                refine Ev.step (j := 15) (s' := ([some (.ref 20), some (.int x1), some (.int x2), some (.int x3), some (.int z30)], [.ref 20], (0, 0), hp)) rfl rfl ?_
                refine Ev.step (j := 16) (s' := ([some (.ref 20), some (.int x1), some (.int x2), some (.int x3), some (.int z30)], [.int x1, .ref 20], (0, 0), hp)) rfl rfl ?_
                refine Ev.step (j := 17) (s' := ([some (.ref 20), some (.int x1), some (.int x2), some (.int x3), some (.int z30)], [.int x2, .int x1, .ref 20], (0, 0), hp)) rfl rfl ?_
                refine Ev.step (j := 18) (s' := ([some (.ref 20), some (.int x1), some (.int x2), some (.int x3), some (.int z30)], [.int x3, .int x2, .int x1, .ref 20], (0, 0), hp)) rfl rfl ?_
                refine Ev.inl (L := L_X6_perform) (nL := 4) rfl (bs_rcv (g := 13) H (bs_R.uq H (g := 13) rfl) (by decide) rfl) rfl (Nat.le_of_ble_eq_true rfl) ?_
                generalize hQ32 : (fun (o : ab_O) => Ev _ _ _ _) = Q32
                refine (show Ev (ab_T L_X6_perform) 0 ([some (.ref 20), some (.int x1), some (.int x2), some (.int x3)], [], (0, 0), hp) Q32 from ?_)
                exact by
                 refine Ev.step (j := 1) (s' := ([some (.ref 20), some (.int x1), some (.int x2), some (.int x3)], [.int x1], (0, 0), hp)) rfl rfl ?_
                 refine bs_lit (k := 3) rfl rfl fun z33 hz33 => ?_
                 refine bs_ne rfl (fun c34 => ?_) (fun c34 => ?_)
                 · skip
                   refine Ev.step (j := 14) (s' := ([some (.ref 20), some (.int x1), some (.int x2), some (.int x3)], [.ref 20], (0, 0), hp)) rfl rfl ?_
                   refine bs_getU (g := 13) (g1 := 156) rfl rfl H (bs_R.uq H (g := 13) rfl) (by decide) rfl rfl ?_
                   refine Ev.step (j := 18) (s' := ([some (.ref 20), some (.int x1), some (.int x2), some (.int x3)], [.int x2, .ref 21], (0, 0), hp)) rfl rfl ?_
                   refine Ev.step (j := 19) (s' := ([some (.ref 20), some (.int x1), some (.int x2), some (.int x3)], [.int x2, .ref 21, .int x2, .ref 21], (0, 0), hp)) rfl rfl ?_
                   refine bs_ld (g := 156) 0 11 (0, 999) rfl H (bs_R.uq H (g := 156) rfl) (by decide) rfl (by decide) (by decide) rfl (by decide) (by omega) (by omega) fun z35 hz35 lz35 gz35 => ?_
                   dsimp only at lz35 gz35
                   have e36 : z35.toInt = z26.toInt := Option.some.inj (hz35.symm.trans hz26)
                   refine Ev.step (j := 21) (s' := ([some (.ref 20), some (.int x1), some (.int x2), some (.int x3)], [.int x1, .int z35, .int x2, .ref 21], (0, 0), hp)) rfl rfl ?_
                   exact by
                    refine bs_lit (k := 1) rfl rfl fun z37 hz37 => ?_
                    refine bs_ne rfl (fun c38 => ?_) (fun c38 => ?_)
                    · exfalso; omega
                    · skip
                      refine Ev.step (j := 26) (s' := ([some (.ref 20), some (.int x1), some (.int x2), some (.int x3)], [.int x3, .int z35, .int x2, .ref 21], (0, 0), hp)) rfl rfl ?_
                      refine Ev.step (j := 31) (s' := ([some (.ref 20), some (.int x1), some (.int x2), some (.int x3)], [.int x3, .int z35, .int x2, .ref 21], (0, 0), hp)) rfl rfl ?_
                      first | (refine bs_add rfl (by omega) (by omega) fun z39 hz39 => ?_) | (refine bs_any rfl fun z39 => ?_)
                      have rz39 := n_range z39
                      refine bs_st (W := [(156, 0, 11)]) (g := 156) 0 11 (0, 999) rfl H (bs_R.uq H (g := 156) rfl) (by decide) rfl rfl (by decide) rfl rfl (by omega) (by omega) (by dsimp only; omega) (by dsimp only; omega) fun hp40 Hhp40 fhp40 rhp40 ehp40 qhp40 nhp40 => ?_
                      have Fhp40 := sf_fr_tr F0 (sf_fr_wider (W := [(156, 0, 11), (157, 0, 11), (160, 0, 7)]) rfl fhp40)
                      have h41 : sf_rd hp40 22 x2.toInt.toNat = some z24.toInt := (ehp40 _ _ (Or.inl (by decide))).trans hz24
                      refine Ev.step (j := 34) (s' := ([some (.ref 20), some (.int x1), some (.int x2), some (.int x3)], [.int x1], (0, 0), hp40)) rfl rfl ?_
                      exact by
                       refine bs_ifne rfl (fun c42 => ?_) (fun c42 => ?_)
                       · skip
                         refine Ev.step (j := 51) (s' := ([some (.ref 20), some (.int x1), some (.int x2), some (.int x3)], [.int x1], (0, 0), hp40)) rfl rfl ?_
                         refine bs_lit (k := 1) rfl rfl fun z43 hz43 => ?_
                         refine bs_ne rfl (fun c44 => ?_) (fun c44 => ?_)
                         · exfalso; omega
                         · skip
                           refine Ev.step (j := 56) (s' := ([some (.ref 20), some (.int x1), some (.int x2), some (.int x3)], [.ref 20], (0, 0), hp40)) rfl rfl ?_
                           refine bs_getU (g := 13) (g1 := 157) rfl rfl Hhp40 (bs_R.uq Hhp40 (g := 13) rfl) (by decide) rfl rfl ?_
                           refine Ev.step (j := 60) (s' := ([some (.ref 20), some (.int x1), some (.int x2), some (.int x3)], [.int x2, .ref 22], (0, 0), hp40)) rfl rfl ?_
                           refine Ev.step (j := 61) (s' := ([some (.ref 20), some (.int x1), some (.int x2), some (.int x3)], [.int x2, .ref 22, .int x2, .ref 22], (0, 0), hp40)) rfl rfl ?_
                           exact by
                            refine bs_ld (g := 157) 0 11 (-2147483648, 2147483647) rfl Hhp40 (bs_R.uq Hhp40 (g := 157) rfl) (by decide) rfl (by decide) (by decide) rfl (by decide) (by omega) (by omega) fun z45 hz45 lz45 gz45 => ?_
                            dsimp only at lz45 gz45
                            have e46 : z45.toInt = z24.toInt := Option.some.inj (hz45.symm.trans h41)
                            refine Ev.step (j := 63) (s' := ([some (.ref 20), some (.int x1), some (.int x2), some (.int x3)], [.int x3, .int z45, .int x2, .ref 22], (0, 0), hp40)) rfl rfl ?_
                            first | (refine bs_sub rfl (by omega) (by omega) fun z47 hz47 => ?_) | (refine bs_any rfl fun z47 => ?_)
                            have rz47 := n_range z47
                            refine bs_st (W := [(157, 0, 11)]) (g := 157) 0 11 (-2147483648, 2147483647) rfl Hhp40 (bs_R.uq Hhp40 (g := 157) rfl) (by decide) rfl rfl (by decide) rfl rfl (by omega) (by omega) (by dsimp only; omega) (by dsimp only; omega) fun hp48 Hhp48 fhp48 rhp48 ehp48 qhp48 nhp48 => ?_
                            have Fhp48 := sf_fr_tr Fhp40 (sf_fr_wider (W := [(156, 0, 11), (157, 0, 11), (160, 0, 7)]) rfl fhp48)
                            have h49 : sf_rd hp48 21 x2.toInt.toNat = some z39.toInt := (ehp48 _ _ (Or.inl (by decide))).trans rhp40
                            refine Ev.ret rfl rfl ?_
                            rw [← hQ32]
                            refine (show Ev _ 21 ([some (.ref 20), some (.int x1), some (.int x2), some (.int x3), some (.int z30)], [], (0, 0), hp48) _ from ?_)
                            exact by
                             refine Ev.step (j := 23) (s' := ([some (.ref 20), some (.int x1), some (.int x2), some (.int x3), some (.int z30)], [.int z30], (0, 0), hp48)) rfl rfl ?_
                             exact Ev.ret rfl rfl (by rw [hQ]; exact ⟨t, Hhp48, Fhp48, bs_an0, sf_S_cons (sf_s1 (x := z30.toInt) rfl (by omega) (by omega)) (sf_S_nil)⟩)
                       · exfalso; omega
                 · exfalso; omega
           · skip
             refine bs_lit (k := 2) rfl rfl fun z50 hz50 => ?_
             exact by
              refine Ev.step (j := 77) (s' := ([some (.ref 20), some (.int x1), some (.int x2), some (.int x3)], [.int z50], (0, 0), hp)) rfl rfl ?_
              refine Ev.ret rfl rfl ?_
              rw [← hQ1]
              refine (show Ev _ 7 ([some (.ref 20), some (.int x1), some (.int x2), some (.int x3), none], [.int z50], (0, 0), hp) _ from ?_)
              refine Ev.step (j := 9) (s' := ([some (.ref 20), some (.int x1), some (.int x2), some (.int x3), some (.int z50)], [], (0, 0), hp)) rfl rfl ?_
              refine Ev.step (j := 11) (s' := ([some (.ref 20), some (.int x1), some (.int x2), some (.int x3), some (.int z50)], [.int z50], (0, 0), hp)) rfl rfl ?_
              refine bs_ifne rfl (fun c51 => ?_) (fun c51 => ?_)
              · skip
                refine Ev.step (j := 23) (s' := ([some (.ref 20), some (.int x1), some (.int x2), some (.int x3), some (.int z50)], [.int z50], (0, 0), hp)) rfl rfl ?_
                exact Ev.ret rfl rfl (by rw [hQ]; exact ⟨t, H, F0, bs_an0, sf_S_cons (sf_s1 (x := z50.toInt) rfl (by omega) (by omega)) (sf_S_nil)⟩)
              · exfalso; omega
        · skip
          refine bs_lit (k := 1) rfl rfl fun z52 hz52 => ?_
          exact by
           refine Ev.step (j := 77) (s' := ([some (.ref 20), some (.int x1), some (.int x2), some (.int x3)], [.int z52], (0, 0), hp)) rfl rfl ?_
           refine Ev.ret rfl rfl ?_
           rw [← hQ1]
           refine (show Ev _ 7 ([some (.ref 20), some (.int x1), some (.int x2), some (.int x3), none], [.int z52], (0, 0), hp) _ from ?_)
           refine Ev.step (j := 9) (s' := ([some (.ref 20), some (.int x1), some (.int x2), some (.int x3), some (.int z52)], [], (0, 0), hp)) rfl rfl ?_
           refine Ev.step (j := 11) (s' := ([some (.ref 20), some (.int x1), some (.int x2), some (.int x3), some (.int z52)], [.int z52], (0, 0), hp)) rfl rfl ?_
           refine bs_ifne rfl (fun c53 => ?_) (fun c53 => ?_)
           · skip
             refine Ev.step (j := 23) (s' := ([some (.ref 20), some (.int x1), some (.int x2), some (.int x3), some (.int z52)], [.int z52], (0, 0), hp)) rfl rfl ?_
             exact Ev.ret rfl rfl (by rw [hQ]; exact ⟨t, H, F0, bs_an0, sf_S_cons (sf_s1 (x := z52.toInt) rfl (by omega) (by omega)) (sf_S_nil)⟩)
           · exfalso; omega
     · refine bs_tab 2 rfl (by omega) rfl ?_
       refine Ev.step (j := 79) (s' := ([some (.ref 20), some (.int x1), some (.int x2), some (.int x3)], [.ref 20], (0, 0), hp)) rfl rfl ?_
       exact by
        refine bs_getU (g := 13) (g1 := 156) rfl rfl H (bs_R.uq H (g := 13) rfl) (by decide) rfl rfl ?_
        refine Ev.step (j := 83) (s' := ([some (.ref 20), some (.int x1), some (.int x2), some (.int x3)], [.int x2, .ref 21], (0, 0), hp)) rfl rfl ?_
        refine bs_ld (g := 156) 0 11 (0, 999) rfl H (bs_R.uq H (g := 156) rfl) (by decide) rfl (by decide) (by decide) rfl (by decide) (by omega) (by omega) fun z54 hz54 lz54 gz54 => ?_
        dsimp only at lz54 gz54
        refine Ev.step (j := 85) (s' := ([some (.ref 20), some (.int x1), some (.int x2), some (.int x3)], [.int x3, .int z54], (0, 0), hp)) rfl rfl ?_
        refine bs_ge rfl (fun c55 => ?_) (fun c55 => ?_)
        · skip
          refine bs_lit (k := 0) rfl rfl fun z56 hz56 => ?_
          refine Ev.ret rfl rfl ?_
          rw [← hQ1]
          refine (show Ev _ 7 ([some (.ref 20), some (.int x1), some (.int x2), some (.int x3), none], [.int z56], (0, 0), hp) _ from ?_)
          exact by
           refine Ev.step (j := 9) (s' := ([some (.ref 20), some (.int x1), some (.int x2), some (.int x3), some (.int z56)], [], (0, 0), hp)) rfl rfl ?_
           refine Ev.step (j := 11) (s' := ([some (.ref 20), some (.int x1), some (.int x2), some (.int x3), some (.int z56)], [.int z56], (0, 0), hp)) rfl rfl ?_
           refine bs_ifne rfl (fun c57 => ?_) (fun c57 => ?_)
           · exfalso; omega
           · skip
             refine Ev.step (j := 15) (s' := ([some (.ref 20), some (.int x1), some (.int x2), some (.int x3), some (.int z56)], [.ref 20], (0, 0), hp)) rfl rfl ?_
             refine Ev.step (j := 16) (s' := ([some (.ref 20), some (.int x1), some (.int x2), some (.int x3), some (.int z56)], [.int x1, .ref 20], (0, 0), hp)) rfl rfl ?_
             refine Ev.step (j := 17) (s' := ([some (.ref 20), some (.int x1), some (.int x2), some (.int x3), some (.int z56)], [.int x2, .int x1, .ref 20], (0, 0), hp)) rfl rfl ?_
             refine Ev.step (j := 18) (s' := ([some (.ref 20), some (.int x1), some (.int x2), some (.int x3), some (.int z56)], [.int x3, .int x2, .int x1, .ref 20], (0, 0), hp)) rfl rfl ?_
             refine Ev.inl (L := L_X6_perform) (nL := 4) rfl (bs_rcv (g := 13) H (bs_R.uq H (g := 13) rfl) (by decide) rfl) rfl (Nat.le_of_ble_eq_true rfl) ?_
             generalize hQ58 : (fun (o : ab_O) => Ev _ _ _ _) = Q58
             refine (show Ev (ab_T L_X6_perform) 0 ([some (.ref 20), some (.int x1), some (.int x2), some (.int x3)], [], (0, 0), hp) Q58 from ?_)
             exact by
              refine Ev.step (j := 1) (s' := ([some (.ref 20), some (.int x1), some (.int x2), some (.int x3)], [.int x1], (0, 0), hp)) rfl rfl ?_
              refine bs_lit (k := 3) rfl rfl fun z59 hz59 => ?_
              refine bs_ne rfl (fun c60 => ?_) (fun c60 => ?_)
              · skip
                refine Ev.step (j := 14) (s' := ([some (.ref 20), some (.int x1), some (.int x2), some (.int x3)], [.ref 20], (0, 0), hp)) rfl rfl ?_
                refine bs_getU (g := 13) (g1 := 156) rfl rfl H (bs_R.uq H (g := 13) rfl) (by decide) rfl rfl ?_
                refine Ev.step (j := 18) (s' := ([some (.ref 20), some (.int x1), some (.int x2), some (.int x3)], [.int x2, .ref 21], (0, 0), hp)) rfl rfl ?_
                refine Ev.step (j := 19) (s' := ([some (.ref 20), some (.int x1), some (.int x2), some (.int x3)], [.int x2, .ref 21, .int x2, .ref 21], (0, 0), hp)) rfl rfl ?_
                refine bs_ld (g := 156) 0 11 (0, 999) rfl H (bs_R.uq H (g := 156) rfl) (by decide) rfl (by decide) (by decide) rfl (by decide) (by omega) (by omega) fun z61 hz61 lz61 gz61 => ?_
                dsimp only at lz61 gz61
                have e62 : z61.toInt = z54.toInt := Option.some.inj (hz61.symm.trans hz54)
                refine Ev.step (j := 21) (s' := ([some (.ref 20), some (.int x1), some (.int x2), some (.int x3)], [.int x1, .int z61, .int x2, .ref 21], (0, 0), hp)) rfl rfl ?_
                exact by
                 refine bs_lit (k := 1) rfl rfl fun z63 hz63 => ?_
                 refine bs_ne rfl (fun c64 => ?_) (fun c64 => ?_)
                 · skip
                   refine Ev.step (j := 30) (s' := ([some (.ref 20), some (.int x1), some (.int x2), some (.int x3)], [.int x3, .int z61, .int x2, .ref 21], (0, 0), hp)) rfl rfl ?_
                   refine bs_neg rfl (by omega) fun z65 hz65 => ?_
                   first | (refine bs_add rfl (by omega) (by omega) fun z66 hz66 => ?_) | (refine bs_any rfl fun z66 => ?_)
                   have rz66 := n_range z66
                   refine bs_st (W := [(156, 0, 11)]) (g := 156) 0 11 (0, 999) rfl H (bs_R.uq H (g := 156) rfl) (by decide) rfl rfl (by decide) rfl rfl (by omega) (by omega) (by dsimp only; omega) (by dsimp only; omega) fun hp67 Hhp67 fhp67 rhp67 ehp67 qhp67 nhp67 => ?_
                   have Fhp67 := sf_fr_tr F0 (sf_fr_wider (W := [(156, 0, 11), (157, 0, 11), (160, 0, 7)]) rfl fhp67)
                   refine Ev.step (j := 34) (s' := ([some (.ref 20), some (.int x1), some (.int x2), some (.int x3)], [.int x1], (0, 0), hp67)) rfl rfl ?_
                   exact by
                    refine bs_ifne rfl (fun c68 => ?_) (fun c68 => ?_)
                    · skip
                      refine Ev.step (j := 51) (s' := ([some (.ref 20), some (.int x1), some (.int x2), some (.int x3)], [.int x1], (0, 0), hp67)) rfl rfl ?_
                      refine bs_lit (k := 1) rfl rfl fun z69 hz69 => ?_
                      refine bs_ne rfl (fun c70 => ?_) (fun c70 => ?_)
                      · skip
                        refine Ev.ret rfl rfl ?_
                        rw [← hQ58]
                        refine (show Ev _ 21 ([some (.ref 20), some (.int x1), some (.int x2), some (.int x3), some (.int z56)], [], (0, 0), hp67) _ from ?_)
                        refine Ev.step (j := 23) (s' := ([some (.ref 20), some (.int x1), some (.int x2), some (.int x3), some (.int z56)], [.int z56], (0, 0), hp67)) rfl rfl ?_
                        exact Ev.ret rfl rfl (by rw [hQ]; exact ⟨t, Hhp67, Fhp67, bs_an0, sf_S_cons (sf_s1 (x := z56.toInt) rfl (by omega) (by omega)) (sf_S_nil)⟩)
                      · exfalso; omega
                    · exfalso; omega
                 · exfalso; omega
              · exfalso; omega
        · skip
          refine bs_lit (k := 1) rfl rfl fun z71 hz71 => ?_
          exact by
           refine Ev.step (j := 93) (s' := ([some (.ref 20), some (.int x1), some (.int x2), some (.int x3)], [.int z71], (0, 0), hp)) rfl rfl ?_
           refine Ev.ret rfl rfl ?_
           rw [← hQ1]
           refine (show Ev _ 7 ([some (.ref 20), some (.int x1), some (.int x2), some (.int x3), none], [.int z71], (0, 0), hp) _ from ?_)
           refine Ev.step (j := 9) (s' := ([some (.ref 20), some (.int x1), some (.int x2), some (.int x3), some (.int z71)], [], (0, 0), hp)) rfl rfl ?_
           refine Ev.step (j := 11) (s' := ([some (.ref 20), some (.int x1), some (.int x2), some (.int x3), some (.int z71)], [.int z71], (0, 0), hp)) rfl rfl ?_
           refine bs_ifne rfl (fun c72 => ?_) (fun c72 => ?_)
           · skip
             refine Ev.step (j := 23) (s' := ([some (.ref 20), some (.int x1), some (.int x2), some (.int x3), some (.int z71)], [.int z71], (0, 0), hp)) rfl rfl ?_
             exact Ev.ret rfl rfl (by rw [hQ]; exact ⟨t, H, F0, bs_an0, sf_S_cons (sf_s1 (x := z71.toInt) rfl (by omega) (by omega)) (sf_S_nil)⟩)
           · exfalso; omega
def kq_X6_attempt_13e : sf_Q := ([(1, 13, 0), (0, 0, 0), (0, 0, 0), (0, 0, 0)], [(1, 3, 0, 3, 3, 0), (1, 6, 0, 0, 7, 0), (1, 9, 0, 0, 250, 0)], some (0, 0, 0), [(1, 0, 0, 0, 2, 0)], [(156, 0, 11), (157, 0, 11), (160, 0, 7)])
set_option maxRecDepth 100000 in
set_option maxHeartbeats 4000000 in
theorem ct_X6_attempt_13e : sf_ct kq_X6_attempt_13e Z_X6_attempt := by
  intro t hp as H hl hj hpre
  match as, hl with
  | [v0, v1, v2, v3], _ =>
    obtain ⟨a0, rfl, ra0⟩ := bs_aR (hj 0 _ rfl)
    obtain rfl := ra0.eq H (p := 20) rfl
    obtain ⟨x1, rfl⟩ := bs_aI (hj 1 _ rfl)
    have rg1 := n_range x1
    obtain ⟨x2, rfl⟩ := bs_aI (hj 2 _ rfl)
    have rg2 := n_range x2
    obtain ⟨x3, rfl⟩ := bs_aI (hj 3 _ rfl)
    have rg3 := n_range x3
    obtain ⟨pl0, ph0⟩ := bs_s1 (x := x1.toInt) rfl (hpre _ (List.mem_of_getElem? (i := 0) rfl))
    obtain ⟨pl1, ph1⟩ := bs_s1 (x := x2.toInt) rfl (hpre _ (List.mem_of_getElem? (i := 1) rfl))
    obtain ⟨pl2, ph2⟩ := bs_s1 (x := x3.toInt) rfl (hpre _ (List.mem_of_getElem? (i := 2) rfl))
    clear hpre hj
    have F0 : sf_fr [(156, 0, 11), (157, 0, 11), (160, 0, 7)] t hp t hp := sf_fr_rf
    refine bs_fin (K := kq_X6_attempt_13e) (L := (L_X6_attempt Z_X6_whyNot Z_X6_perform)) (nL := 5) (Nat.le_of_ble_eq_true rfl) ?_
    obtain ⟨Q, hQ⟩ : ∃ Q : ab_O → Prop, Q = (fun o => ∃ t', sf_h t' o.2 ∧ sf_fr (kq_X6_attempt_13e).2.2.2.2 t hp t' o.2 ∧ sf_an t' o.2.1 (kq_X6_attempt_13e).2.2.1 o.1 ∧ sf_S (sf_v1 o.1 [.ref 20, .int x1, .int x2, .int x3] o.2) (kq_X6_attempt_13e).2.2.2.1) := ⟨_, rfl⟩
    rw [← hQ]
    refine (show Ev (ab_T (L_X6_attempt Z_X6_whyNot Z_X6_perform)) 0 ([some (.ref 20), some (.int x1), some (.int x2), some (.int x3), none], [], (0, 0), hp) Q from ?_)
    exact by
     refine Ev.step (j := 1) (s' := ([some (.ref 20), some (.int x1), some (.int x2), some (.int x3), none], [.ref 20], (0, 0), hp)) rfl rfl ?_
     refine Ev.step (j := 2) (s' := ([some (.ref 20), some (.int x1), some (.int x2), some (.int x3), none], [.int x1, .ref 20], (0, 0), hp)) rfl rfl ?_
     refine Ev.step (j := 3) (s' := ([some (.ref 20), some (.int x1), some (.int x2), some (.int x3), none], [.int x2, .int x1, .ref 20], (0, 0), hp)) rfl rfl ?_
     refine Ev.step (j := 4) (s' := ([some (.ref 20), some (.int x1), some (.int x2), some (.int x3), none], [.int x3, .int x2, .int x1, .ref 20], (0, 0), hp)) rfl rfl ?_
     refine Ev.inl (L := (L_X6_whyNot Z_X6_isAlive)) (nL := 4) rfl (bs_rcv (g := 13) H (bs_R.uq H (g := 13) rfl) (by decide) rfl) rfl (Nat.le_of_ble_eq_true rfl) ?_
     generalize hQ1 : (fun (o : ab_O) => Ev _ _ _ _) = Q1
     refine (show Ev (ab_T (L_X6_whyNot Z_X6_isAlive)) 0 ([some (.ref 20), some (.int x1), some (.int x2), some (.int x3)], [], (0, 0), hp) Q1 from ?_)
     refine Ev.step (j := 1) (s' := ([some (.ref 20), some (.int x1), some (.int x2), some (.int x3)], [.int x1], (0, 0), hp)) rfl rfl ?_
     rcases (show x1.toInt = 3 by omega) with c2
     · refine bs_tabD rfl (by show _ ∨ _ + ((3 : Nat) : Int) ≤ _; omega) ?_
       refine Ev.step (j := 95) (s' := ([some (.ref 20), some (.int x1), some (.int x2), some (.int x3)], [.ref 20], (0, 0), hp)) rfl rfl ?_
       exact by
        refine Ev.step (j := 96) (s' := ([some (.ref 20), some (.int x1), some (.int x2), some (.int x3)], [.int x2, .ref 20], (0, 0), hp)) rfl rfl ?_
        refine Ev.inl (L := L_X6_isAlive) (nL := 2) rfl (bs_rcv (g := 13) H (bs_R.uq H (g := 13) rfl) (by decide) rfl) rfl (Nat.le_of_ble_eq_true rfl) ?_
        generalize hQ3 : (fun (o : ab_O) => Ev _ _ _ _) = Q3
        refine (show Ev (ab_T L_X6_isAlive) 0 ([some (.ref 20), some (.int x2)], [], (0, 0), hp) Q3 from ?_)
        refine Ev.step (j := 1) (s' := ([some (.ref 20), some (.int x2)], [.ref 20], (0, 0), hp)) rfl rfl ?_
        refine bs_getU (g := 13) (g1 := 160) rfl rfl H (bs_R.uq H (g := 13) rfl) (by decide) rfl rfl ?_
        refine Ev.step (j := 5) (s' := ([some (.ref 20), some (.int x2)], [.int x2, .ref 25], (0, 0), hp)) rfl rfl ?_
        refine bs_ld (g := 160) 0 7 (-2147483648, 2147483647) rfl H (bs_R.uq H (g := 160) rfl) (by decide) rfl (by decide) (by decide) rfl (by decide) (by omega) (by omega) fun z4 hz4 lz4 gz4 => ?_
        dsimp only at lz4 gz4
        refine bs_lit (k := -1) rfl rfl fun z5 hz5 => ?_
        exact by
         refine bs_eq rfl (fun c6 => ?_) (fun c6 => ?_)
         · skip
           have c7 : z4.toInt = -1 := by omega
           refine bs_lit (k := 0) rfl rfl fun z8 hz8 => ?_
           refine bs_zret rfl rfl (by omega) (by omega) ?_
           rw [← hQ3]
           refine (show Ev _ 99 ([some (.ref 20), some (.int x1), some (.int x2), some (.int x3)], [.int z8], (0, 0), hp) _ from ?_)
           refine bs_ifeq rfl (fun c9 => ?_) (fun c9 => ?_)
           · skip
             refine bs_lit (k := 1) rfl rfl fun z10 hz10 => ?_
             refine Ev.ret rfl rfl ?_
             rw [← hQ1]
             refine (show Ev _ 7 ([some (.ref 20), some (.int x1), some (.int x2), some (.int x3), none], [.int z10], (0, 0), hp) _ from ?_)
             exact by
              refine Ev.step (j := 9) (s' := ([some (.ref 20), some (.int x1), some (.int x2), some (.int x3), some (.int z10)], [], (0, 0), hp)) rfl rfl ?_
              refine Ev.step (j := 11) (s' := ([some (.ref 20), some (.int x1), some (.int x2), some (.int x3), some (.int z10)], [.int z10], (0, 0), hp)) rfl rfl ?_
              refine bs_ifne rfl (fun c11 => ?_) (fun c11 => ?_)
              · skip
                refine Ev.step (j := 23) (s' := ([some (.ref 20), some (.int x1), some (.int x2), some (.int x3), some (.int z10)], [.int z10], (0, 0), hp)) rfl rfl ?_
                exact Ev.ret rfl rfl (by rw [hQ]; exact ⟨t, H, F0, bs_an0, sf_S_cons (sf_s1 (x := z10.toInt) rfl (by omega) (by omega)) (sf_S_nil)⟩)
              · exfalso; omega
           · exfalso; omega
         · skip
           refine bs_lit (k := 1) rfl rfl fun z12 hz12 => ?_
           exact by
            refine Ev.step (j := 15) (s' := ([some (.ref 20), some (.int x2)], [.int z12], (0, 0), hp)) rfl rfl ?_
            refine bs_zret rfl rfl (by omega) (by omega) ?_
            rw [← hQ3]
            refine (show Ev _ 99 ([some (.ref 20), some (.int x1), some (.int x2), some (.int x3)], [.int z12], (0, 0), hp) _ from ?_)
            refine bs_ifeq rfl (fun c13 => ?_) (fun c13 => ?_)
            · exfalso; omega
            · skip
              refine bs_lit (k := 0) rfl rfl fun z14 hz14 => ?_
              refine Ev.step (j := 107) (s' := ([some (.ref 20), some (.int x1), some (.int x2), some (.int x3)], [.int z14], (0, 0), hp)) rfl rfl ?_
              refine Ev.ret rfl rfl ?_
              rw [← hQ1]
              refine (show Ev _ 7 ([some (.ref 20), some (.int x1), some (.int x2), some (.int x3), none], [.int z14], (0, 0), hp) _ from ?_)
              exact by
               refine Ev.step (j := 9) (s' := ([some (.ref 20), some (.int x1), some (.int x2), some (.int x3), some (.int z14)], [], (0, 0), hp)) rfl rfl ?_
               refine Ev.step (j := 11) (s' := ([some (.ref 20), some (.int x1), some (.int x2), some (.int x3), some (.int z14)], [.int z14], (0, 0), hp)) rfl rfl ?_
               refine bs_ifne rfl (fun c15 => ?_) (fun c15 => ?_)
               · exfalso; omega
               · skip
                 refine Ev.step (j := 15) (s' := ([some (.ref 20), some (.int x1), some (.int x2), some (.int x3), some (.int z14)], [.ref 20], (0, 0), hp)) rfl rfl ?_
                 refine Ev.step (j := 16) (s' := ([some (.ref 20), some (.int x1), some (.int x2), some (.int x3), some (.int z14)], [.int x1, .ref 20], (0, 0), hp)) rfl rfl ?_
                 refine Ev.step (j := 17) (s' := ([some (.ref 20), some (.int x1), some (.int x2), some (.int x3), some (.int z14)], [.int x2, .int x1, .ref 20], (0, 0), hp)) rfl rfl ?_
                 refine Ev.step (j := 18) (s' := ([some (.ref 20), some (.int x1), some (.int x2), some (.int x3), some (.int z14)], [.int x3, .int x2, .int x1, .ref 20], (0, 0), hp)) rfl rfl ?_
                 refine Ev.inl (L := L_X6_perform) (nL := 4) rfl (bs_rcv (g := 13) H (bs_R.uq H (g := 13) rfl) (by decide) rfl) rfl (Nat.le_of_ble_eq_true rfl) ?_
                 generalize hQ16 : (fun (o : ab_O) => Ev _ _ _ _) = Q16
                 refine (show Ev (ab_T L_X6_perform) 0 ([some (.ref 20), some (.int x1), some (.int x2), some (.int x3)], [], (0, 0), hp) Q16 from ?_)
                 exact by
                  refine Ev.step (j := 1) (s' := ([some (.ref 20), some (.int x1), some (.int x2), some (.int x3)], [.int x1], (0, 0), hp)) rfl rfl ?_
                  refine bs_lit (k := 3) rfl rfl fun z17 hz17 => ?_
                  refine bs_ne rfl (fun c18 => ?_) (fun c18 => ?_)
                  · exfalso; omega
                  · skip
                    refine Ev.step (j := 6) (s' := ([some (.ref 20), some (.int x1), some (.int x2), some (.int x3)], [.ref 20], (0, 0), hp)) rfl rfl ?_
                    refine bs_getU (g := 13) (g1 := 160) rfl rfl H (bs_R.uq H (g := 13) rfl) (by decide) rfl rfl ?_
                    refine Ev.step (j := 10) (s' := ([some (.ref 20), some (.int x1), some (.int x2), some (.int x3)], [.int x2, .ref 25], (0, 0), hp)) rfl rfl ?_
                    refine bs_lit (k := -1) rfl rfl fun z19 hz19 => ?_
                    refine bs_st (W := [(160, 0, 7)]) (g := 160) 0 7 (-2147483648, 2147483647) rfl H (bs_R.uq H (g := 160) rfl) (by decide) rfl rfl (by decide) rfl rfl (by omega) (by omega) (by dsimp only; omega) (by dsimp only; omega) fun hp20 Hhp20 fhp20 rhp20 ehp20 qhp20 nhp20 => ?_
                    have Fhp20 := sf_fr_tr F0 (sf_fr_wider (W := [(156, 0, 11), (157, 0, 11), (160, 0, 7)]) rfl fhp20)
                    refine Ev.ret rfl rfl ?_
                    rw [← hQ16]
                    refine (show Ev _ 21 ([some (.ref 20), some (.int x1), some (.int x2), some (.int x3), some (.int z14)], [], (0, 0), hp20) _ from ?_)
                    exact by
                     refine Ev.step (j := 23) (s' := ([some (.ref 20), some (.int x1), some (.int x2), some (.int x3), some (.int z14)], [.int z14], (0, 0), hp20)) rfl rfl ?_
                     exact Ev.ret rfl rfl (by rw [hQ]; exact ⟨t, Hhp20, Fhp20, bs_an0, sf_S_cons (sf_s1 (x := z14.toInt) rfl (by omega) (by omega)) (sf_S_nil)⟩)
def kq_X10_liveLine_5822f8 : sf_Q := ([(1, 10, 0), (0, 0, 0), (0, 0, 0), (0, 0, 0)], [(1, 3, 0, 0, 2, 0), (1, 6, 0, 0, 11, 0), (1, 9, 0, 0, 250, 0)], some (0, 0, 0), [(1, 0, 0, 0, 22, 0)], [(156, 0, 11), (157, 0, 11), (160, 0, 7)])
def kc_X10_liveLine_5822f8 : List (Nat × sf_I) := [(0, 2, [1, 1]),
  (1, 0, [2, 4]),
  (2, 21, [5, 42, 1]),
  (5, 0, [8, 400]),
  (8, 4, [9, 0]),
  (9, 23, [12, 10, 5]),
  (12, 23, [15, 6, 7]),
  (15, 9, [16, 1]),
  (16, 2, [17, 3]),
  (17, 21, [20, 23, 5]),
  (20, 0, [22, 41]),
  (22, 35, [0, 0]),
  (23, 4, [24, 0]),
  (24, 23, [27, 10, 2]),
  (27, 4, [28, 0]),
  (28, 23, [31, 10, 13]),
  (31, 4, [32, 0]),
  (32, 23, [35, 10, 5]),
  (35, 2, [36, 3]),
  (36, 32, [39, 1, 4, 1, 0, 0, 0, 0]),
  (39, 19, [40]),
  (40, 0, [41, 0]),
  (41, 35, [0, 0]),
  (42, 4, [43, 0]),
  (43, 23, [46, 10, 5]),
  (46, 2, [47, 1]),
  (47, 2, [48, 2]),
  (48, 2, [49, 3]),
  (49, 32, [52, 0, 4, 6, 0, 0, 0, 0]),
  (52, 5, [54, 4]),
  (54, 2, [56, 4]),
  (56, 20, [59, 63, 1]),
  (59, 0, [60, 0]),
  (60, 22, [70]),
  (63, 0, [65, 10]),
  (65, 2, [66, 1]),
  (66, 9, [67, 2]),
  (67, 2, [69, 4]),
  (69, 9, [70, 0]),
  (70, 35, [0, 0])]
def kd_X10_liveLine_5822f8_0 : List (Nat × sf_D × sf_M) := [(0, ([(1, 10, 0), (0, 0, 0), (0, 0, 0), (0, 0, 0), (8, 0, 0)], [], [(1, 4, 0, 0, 2, 0), (1, 7, 0, 0, 11, 0), (1, 10, 0, 0, 250, 0)], 0, 0), (17, [])),
  (1, ([(1, 10, 0), (0, 0, 0), (0, 0, 0), (0, 0, 0), (8, 0, 0)], [(0, 0, 0)], [(1, 4, 0, 0, 2, 0), (1, 7, 0, 0, 11, 0), (1, 10, 0, 0, 250, 0), (1, 0, 0, 0, 2, 0), (2, 0, 4, 1, 0, 0)], 0, 0), (16, [])),
  (2, ([(1, 10, 0), (0, 0, 0), (0, 0, 0), (0, 0, 0), (8, 0, 0)], [(0, 0, 0), (0, 0, 0)], [(1, 4, 0, 0, 2, 0), (1, 7, 0, 0, 11, 0), (1, 10, 0, 0, 250, 0), (1, 0, 0, 0, 2, 0), (1, 3, 0, 4, 4, 0), (2, 0, 4, 1, 0, 0)], 0, 0), (15, [])),
  (42, ([(1, 10, 0), (0, 0, 0), (0, 0, 0), (0, 0, 0), (8, 0, 0)], [], [(1, 4, 0, 0, 2, 0), (1, 7, 0, 0, 11, 0), (1, 10, 0, 0, 250, 0)], 0, 0), (14, [])),
  (43, ([(1, 10, 0), (0, 0, 0), (0, 0, 0), (0, 0, 0), (8, 0, 0)], [(1, 10, 0)], [(1, 4, 0, 0, 2, 0), (1, 7, 0, 0, 11, 0), (1, 10, 0, 0, 250, 0)], 0, 0), (13, [])),
  (46, ([(1, 10, 0), (0, 0, 0), (0, 0, 0), (0, 0, 0), (8, 0, 0)], [(1, 13, 0)], [(1, 4, 0, 0, 2, 0), (1, 7, 0, 0, 11, 0), (1, 10, 0, 0, 250, 0)], 0, 0), (12, []))]
def kd_X10_liveLine_5822f8_1 : List (Nat × sf_D × sf_M) := [(47, ([(1, 10, 0), (0, 0, 0), (0, 0, 0), (0, 0, 0), (8, 0, 0)], [(0, 0, 0), (1, 13, 0)], [(1, 4, 0, 0, 2, 0), (1, 7, 0, 0, 11, 0), (1, 10, 0, 0, 250, 0), (1, 3, 0, 0, 2, 0), (2, 3, 4, 1, 0, 0)], 0, 0), (11, [])),
  (48, ([(1, 10, 0), (0, 0, 0), (0, 0, 0), (0, 0, 0), (8, 0, 0)], [(0, 0, 0), (0, 0, 0), (1, 13, 0)], [(1, 4, 0, 0, 2, 0), (1, 7, 0, 0, 11, 0), (1, 10, 0, 0, 250, 0), (1, 3, 0, 0, 2, 0), (1, 6, 0, 0, 11, 0), (2, 3, 4, 1, 0, 0), (2, 6, 7, 1, 0, 0)], 0, 0), (10, [])),
  (49, ([(1, 10, 0), (0, 0, 0), (0, 0, 0), (0, 0, 0), (8, 0, 0)], [(0, 0, 0), (0, 0, 0), (0, 0, 0), (1, 13, 0)], [(1, 4, 0, 0, 2, 0), (1, 7, 0, 0, 11, 0), (1, 10, 0, 0, 250, 0), (1, 3, 0, 0, 2, 0), (1, 6, 0, 0, 11, 0), (1, 9, 0, 0, 250, 0), (2, 3, 4, 1, 0, 0), (2, 6, 7, 1, 0, 0), (2, 9, 10, 1, 0, 0)], 0, 0), (9, [])),
  (52, ([(1, 10, 0), (0, 0, 0), (0, 0, 0), (0, 0, 0), (8, 0, 0)], [(0, 0, 0)], [(1, 4, 0, 0, 2, 0), (1, 7, 0, 0, 11, 0), (1, 10, 0, 0, 250, 0), (1, 0, 0, 0, 2, 0)], 0, 0), (8, [])),
  (54, ([(1, 10, 0), (0, 0, 0), (0, 0, 0), (0, 0, 0), (0, 0, 0)], [], [(1, 4, 0, 0, 2, 0), (1, 7, 0, 0, 11, 0), (1, 10, 0, 0, 250, 0), (1, 13, 0, 0, 2, 0)], 0, 0), (7, []))]
def kd_X10_liveLine_5822f8_2 : List (Nat × sf_D × sf_M) := [(56, ([(1, 10, 0), (0, 0, 0), (0, 0, 0), (0, 0, 0), (0, 0, 0)], [(0, 0, 0)], [(1, 4, 0, 0, 2, 0), (1, 7, 0, 0, 11, 0), (1, 10, 0, 0, 250, 0), (1, 13, 0, 0, 2, 0), (1, 0, 0, 0, 2, 0), (2, 0, 13, 1, 0, 0)], 0, 0), (6, [])),
  (59, ([(1, 10, 0), (0, 0, 0), (0, 0, 0), (0, 0, 0), (0, 0, 0)], [], [(1, 4, 0, 0, 2, 0), (1, 7, 0, 0, 11, 0), (1, 10, 0, 0, 250, 0), (1, 13, 0, 0, 0, 0)], 0, 0), (2, [])),
  (60, ([(1, 10, 0), (0, 0, 0), (0, 0, 0), (0, 0, 0), (0, 0, 0)], [(0, 0, 0)], [(1, 4, 0, 0, 2, 0), (1, 7, 0, 0, 11, 0), (1, 10, 0, 0, 250, 0), (1, 13, 0, 0, 0, 0), (1, 0, 0, 0, 0, 0)], 0, 0), (1, [])),
  (63, ([(1, 10, 0), (0, 0, 0), (0, 0, 0), (0, 0, 0), (0, 0, 0)], [], [(1, 4, 0, 0, 2, 0), (1, 7, 0, 0, 11, 0), (1, 10, 0, 0, 250, 0), (1, 13, 0, 1, 2, 0)], 0, 0), (5, [])),
  (65, ([(1, 10, 0), (0, 0, 0), (0, 0, 0), (0, 0, 0), (0, 0, 0)], [(0, 0, 0)], [(1, 4, 0, 0, 2, 0), (1, 7, 0, 0, 11, 0), (1, 10, 0, 0, 250, 0), (1, 13, 0, 1, 2, 0), (1, 0, 0, 10, 10, 0)], 0, 0), (4, []))]
def kd_X10_liveLine_5822f8_3 : List (Nat × sf_D × sf_M) := [(66, ([(1, 10, 0), (0, 0, 0), (0, 0, 0), (0, 0, 0), (0, 0, 0)], [(0, 0, 0), (0, 0, 0)], [(1, 4, 0, 0, 2, 0), (1, 7, 0, 0, 11, 0), (1, 10, 0, 0, 250, 0), (1, 13, 0, 1, 2, 0), (1, 0, 0, 10, 10, 0), (1, 3, 0, 0, 2, 0), (2, 3, 4, 1, 0, 0)], 0, 0), (3, [])),
  (67, ([(1, 10, 0), (0, 0, 0), (0, 0, 0), (0, 0, 0), (0, 0, 0)], [(0, 0, 0)], [(1, 4, 0, 0, 2, 0), (1, 7, 0, 0, 11, 0), (1, 10, 0, 0, 250, 0), (1, 13, 0, 1, 2, 0), (1, 0, 0, 0, 20, 0), (2, 0, 4, 10, 0, 0)], 0, 0), (2, [])),
  (69, ([(1, 10, 0), (0, 0, 0), (0, 0, 0), (0, 0, 0), (0, 0, 0)], [(0, 0, 0), (0, 0, 0)], [(1, 4, 0, 0, 2, 0), (1, 7, 0, 0, 11, 0), (1, 10, 0, 0, 250, 0), (1, 13, 0, 1, 2, 0), (1, 0, 0, 0, 20, 0), (1, 3, 0, 1, 2, 0), (2, 0, 4, 10, 0, 0), (2, 3, 13, 1, 0, 0)], 0, 0), (1, [])),
  (70, ([(1, 10, 0), (0, 0, 0), (0, 0, 0), (0, 0, 0), (0, 0, 0)], [(0, 0, 0)], [(1, 4, 0, 0, 2, 0), (1, 7, 0, 0, 11, 0), (1, 10, 0, 0, 250, 0), (1, 13, 0, 0, 2, 0), (1, 0, 0, 0, 22, 0), (3, 0, 13, 1, 2, 0)], 0, 0), (0, []))]
def kd_X10_liveLine_5822f8 : List (Nat × sf_D × sf_M) := kd_X10_liveLine_5822f8_0 ++ (kd_X10_liveLine_5822f8_1 ++ (kd_X10_liveLine_5822f8_2 ++ (kd_X10_liveLine_5822f8_3)))
set_option maxRecDepth 100000 in
theorem kt_X10_liveLine_5822f8 : sf_chk [kq_X6_attempt_13h] kq_X10_liveLine_5822f8 5 kc_X10_liveLine_5822f8 kd_X10_liveLine_5822f8 = true := by decide +kernel
set_option maxRecDepth 100000 in
theorem kl_X10_liveLine_5822f8 : (kc_X10_liveLine_5822f8).map (fun c => (c.1, sf_den ([Z_X6_attempt, Z_X1_passDays] : List sf_X) c.2)) = L_X10_liveLine Z_X1_passDays Z_X6_attempt := rfl
theorem ct_X10_liveLine_5822f8 : sf_ct kq_X10_liveLine_5822f8 Z_X10_liveLine := by
  have h := sf_meth (K := [kq_X6_attempt_13h]) (E := [Z_X6_attempt, Z_X1_passDays]) (k := kq_X10_liveLine_5822f8) (nL := 5) (C := kc_X10_liveLine_5822f8) (D := kd_X10_liveLine_5822f8) (fun m k hk => match m, hk with
    | 0, hk => (Option.some.inj hk) ▸ ct_X6_attempt_13h
    | _ + 1, hk => (by cases hk)) kt_X10_liveLine_5822f8
  rw [kl_X10_liveLine_5822f8] at h
  exact h
def kq_X10_liveLine_da101c : sf_Q := ([(1, 10, 0), (0, 0, 0), (0, 0, 0), (0, 0, 0)], [(1, 3, 0, 3, 3, 0), (1, 6, 0, 0, 7, 0), (1, 9, 0, 0, 250, 0)], some (0, 0, 0), [(1, 0, 0, 0, 32, 0)], [(156, 0, 11), (157, 0, 11), (160, 0, 7)])
def kc_X10_liveLine_da101c : List (Nat × sf_I) := [(0, 2, [1, 1]),
  (1, 0, [2, 4]),
  (2, 21, [5, 42, 1]),
  (5, 0, [8, 400]),
  (8, 4, [9, 0]),
  (9, 23, [12, 10, 5]),
  (12, 23, [15, 6, 7]),
  (15, 9, [16, 1]),
  (16, 2, [17, 3]),
  (17, 21, [20, 23, 5]),
  (20, 0, [22, 41]),
  (22, 35, [0, 0]),
  (23, 4, [24, 0]),
  (24, 23, [27, 10, 2]),
  (27, 4, [28, 0]),
  (28, 23, [31, 10, 13]),
  (31, 4, [32, 0]),
  (32, 23, [35, 10, 5]),
  (35, 2, [36, 3]),
  (36, 32, [39, 1, 4, 1, 0, 0, 0, 0]),
  (39, 19, [40]),
  (40, 0, [41, 0]),
  (41, 35, [0, 0]),
  (42, 4, [43, 0]),
  (43, 23, [46, 10, 5]),
  (46, 2, [47, 1]),
  (47, 2, [48, 2]),
  (48, 2, [49, 3]),
  (49, 32, [52, 0, 4, 6, 0, 0, 0, 0]),
  (52, 5, [54, 4]),
  (54, 2, [56, 4]),
  (56, 20, [59, 63, 1]),
  (59, 0, [60, 0]),
  (60, 22, [70]),
  (63, 0, [65, 10]),
  (65, 2, [66, 1]),
  (66, 9, [67, 2]),
  (67, 2, [69, 4]),
  (69, 9, [70, 0]),
  (70, 35, [0, 0])]
def kd_X10_liveLine_da101c_0 : List (Nat × sf_D × sf_M) := [(0, ([(1, 10, 0), (0, 0, 0), (0, 0, 0), (0, 0, 0), (8, 0, 0)], [], [(1, 4, 0, 3, 3, 0), (1, 7, 0, 0, 7, 0), (1, 10, 0, 0, 250, 0)], 0, 0), (17, [])),
  (1, ([(1, 10, 0), (0, 0, 0), (0, 0, 0), (0, 0, 0), (8, 0, 0)], [(0, 0, 0)], [(1, 4, 0, 3, 3, 0), (1, 7, 0, 0, 7, 0), (1, 10, 0, 0, 250, 0), (1, 0, 0, 3, 3, 0), (2, 0, 4, 1, 0, 0)], 0, 0), (16, [])),
  (2, ([(1, 10, 0), (0, 0, 0), (0, 0, 0), (0, 0, 0), (8, 0, 0)], [(0, 0, 0), (0, 0, 0)], [(1, 4, 0, 3, 3, 0), (1, 7, 0, 0, 7, 0), (1, 10, 0, 0, 250, 0), (1, 0, 0, 3, 3, 0), (1, 3, 0, 4, 4, 0), (2, 0, 4, 1, 0, 0)], 0, 0), (15, [])),
  (42, ([(1, 10, 0), (0, 0, 0), (0, 0, 0), (0, 0, 0), (8, 0, 0)], [], [(1, 4, 0, 3, 3, 0), (1, 7, 0, 0, 7, 0), (1, 10, 0, 0, 250, 0)], 0, 0), (14, [])),
  (43, ([(1, 10, 0), (0, 0, 0), (0, 0, 0), (0, 0, 0), (8, 0, 0)], [(1, 10, 0)], [(1, 4, 0, 3, 3, 0), (1, 7, 0, 0, 7, 0), (1, 10, 0, 0, 250, 0)], 0, 0), (13, [])),
  (46, ([(1, 10, 0), (0, 0, 0), (0, 0, 0), (0, 0, 0), (8, 0, 0)], [(1, 13, 0)], [(1, 4, 0, 3, 3, 0), (1, 7, 0, 0, 7, 0), (1, 10, 0, 0, 250, 0)], 0, 0), (12, []))]
def kd_X10_liveLine_da101c_1 : List (Nat × sf_D × sf_M) := [(47, ([(1, 10, 0), (0, 0, 0), (0, 0, 0), (0, 0, 0), (8, 0, 0)], [(0, 0, 0), (1, 13, 0)], [(1, 4, 0, 3, 3, 0), (1, 7, 0, 0, 7, 0), (1, 10, 0, 0, 250, 0), (1, 3, 0, 3, 3, 0), (2, 3, 4, 1, 0, 0)], 0, 0), (11, [])),
  (48, ([(1, 10, 0), (0, 0, 0), (0, 0, 0), (0, 0, 0), (8, 0, 0)], [(0, 0, 0), (0, 0, 0), (1, 13, 0)], [(1, 4, 0, 3, 3, 0), (1, 7, 0, 0, 7, 0), (1, 10, 0, 0, 250, 0), (1, 3, 0, 3, 3, 0), (1, 6, 0, 0, 7, 0), (2, 3, 4, 1, 0, 0), (2, 6, 7, 1, 0, 0)], 0, 0), (10, [])),
  (49, ([(1, 10, 0), (0, 0, 0), (0, 0, 0), (0, 0, 0), (8, 0, 0)], [(0, 0, 0), (0, 0, 0), (0, 0, 0), (1, 13, 0)], [(1, 4, 0, 3, 3, 0), (1, 7, 0, 0, 7, 0), (1, 10, 0, 0, 250, 0), (1, 3, 0, 3, 3, 0), (1, 6, 0, 0, 7, 0), (1, 9, 0, 0, 250, 0), (2, 3, 4, 1, 0, 0), (2, 6, 7, 1, 0, 0), (2, 9, 10, 1, 0, 0)], 0, 0), (9, [])),
  (52, ([(1, 10, 0), (0, 0, 0), (0, 0, 0), (0, 0, 0), (8, 0, 0)], [(0, 0, 0)], [(1, 4, 0, 3, 3, 0), (1, 7, 0, 0, 7, 0), (1, 10, 0, 0, 250, 0), (1, 0, 0, 0, 2, 0)], 0, 0), (8, [])),
  (54, ([(1, 10, 0), (0, 0, 0), (0, 0, 0), (0, 0, 0), (0, 0, 0)], [], [(1, 4, 0, 3, 3, 0), (1, 7, 0, 0, 7, 0), (1, 10, 0, 0, 250, 0), (1, 13, 0, 0, 2, 0)], 0, 0), (7, []))]
def kd_X10_liveLine_da101c_2 : List (Nat × sf_D × sf_M) := [(56, ([(1, 10, 0), (0, 0, 0), (0, 0, 0), (0, 0, 0), (0, 0, 0)], [(0, 0, 0)], [(1, 4, 0, 3, 3, 0), (1, 7, 0, 0, 7, 0), (1, 10, 0, 0, 250, 0), (1, 13, 0, 0, 2, 0), (1, 0, 0, 0, 2, 0), (2, 0, 13, 1, 0, 0)], 0, 0), (6, [])),
  (59, ([(1, 10, 0), (0, 0, 0), (0, 0, 0), (0, 0, 0), (0, 0, 0)], [], [(1, 4, 0, 3, 3, 0), (1, 7, 0, 0, 7, 0), (1, 10, 0, 0, 250, 0), (1, 13, 0, 0, 0, 0)], 0, 0), (2, [])),
  (60, ([(1, 10, 0), (0, 0, 0), (0, 0, 0), (0, 0, 0), (0, 0, 0)], [(0, 0, 0)], [(1, 4, 0, 3, 3, 0), (1, 7, 0, 0, 7, 0), (1, 10, 0, 0, 250, 0), (1, 13, 0, 0, 0, 0), (1, 0, 0, 0, 0, 0)], 0, 0), (1, [])),
  (63, ([(1, 10, 0), (0, 0, 0), (0, 0, 0), (0, 0, 0), (0, 0, 0)], [], [(1, 4, 0, 3, 3, 0), (1, 7, 0, 0, 7, 0), (1, 10, 0, 0, 250, 0), (1, 13, 0, 1, 2, 0)], 0, 0), (5, [])),
  (65, ([(1, 10, 0), (0, 0, 0), (0, 0, 0), (0, 0, 0), (0, 0, 0)], [(0, 0, 0)], [(1, 4, 0, 3, 3, 0), (1, 7, 0, 0, 7, 0), (1, 10, 0, 0, 250, 0), (1, 13, 0, 1, 2, 0), (1, 0, 0, 10, 10, 0)], 0, 0), (4, []))]
def kd_X10_liveLine_da101c_3 : List (Nat × sf_D × sf_M) := [(66, ([(1, 10, 0), (0, 0, 0), (0, 0, 0), (0, 0, 0), (0, 0, 0)], [(0, 0, 0), (0, 0, 0)], [(1, 4, 0, 3, 3, 0), (1, 7, 0, 0, 7, 0), (1, 10, 0, 0, 250, 0), (1, 13, 0, 1, 2, 0), (1, 0, 0, 10, 10, 0), (1, 3, 0, 3, 3, 0), (2, 3, 4, 1, 0, 0)], 0, 0), (3, [])),
  (67, ([(1, 10, 0), (0, 0, 0), (0, 0, 0), (0, 0, 0), (0, 0, 0)], [(0, 0, 0)], [(1, 4, 0, 3, 3, 0), (1, 7, 0, 0, 7, 0), (1, 10, 0, 0, 250, 0), (1, 13, 0, 1, 2, 0), (1, 0, 0, 30, 30, 0), (2, 0, 4, 10, 0, 0)], 0, 0), (2, [])),
  (69, ([(1, 10, 0), (0, 0, 0), (0, 0, 0), (0, 0, 0), (0, 0, 0)], [(0, 0, 0), (0, 0, 0)], [(1, 4, 0, 3, 3, 0), (1, 7, 0, 0, 7, 0), (1, 10, 0, 0, 250, 0), (1, 13, 0, 1, 2, 0), (1, 0, 0, 30, 30, 0), (1, 3, 0, 1, 2, 0), (2, 0, 4, 10, 0, 0), (2, 3, 13, 1, 0, 0)], 0, 0), (1, [])),
  (70, ([(1, 10, 0), (0, 0, 0), (0, 0, 0), (0, 0, 0), (0, 0, 0)], [(0, 0, 0)], [(1, 4, 0, 3, 3, 0), (1, 7, 0, 0, 7, 0), (1, 10, 0, 0, 250, 0), (1, 13, 0, 0, 2, 0), (1, 0, 0, 0, 32, 0), (3, 0, 13, 1, 2, 0)], 0, 0), (0, []))]
def kd_X10_liveLine_da101c : List (Nat × sf_D × sf_M) := kd_X10_liveLine_da101c_0 ++ (kd_X10_liveLine_da101c_1 ++ (kd_X10_liveLine_da101c_2 ++ (kd_X10_liveLine_da101c_3)))
set_option maxRecDepth 100000 in
theorem kt_X10_liveLine_da101c : sf_chk [kq_X6_attempt_13e] kq_X10_liveLine_da101c 5 kc_X10_liveLine_da101c kd_X10_liveLine_da101c = true := by decide +kernel
set_option maxRecDepth 100000 in
theorem kl_X10_liveLine_da101c : (kc_X10_liveLine_da101c).map (fun c => (c.1, sf_den ([Z_X6_attempt, Z_X1_passDays] : List sf_X) c.2)) = L_X10_liveLine Z_X1_passDays Z_X6_attempt := rfl
theorem ct_X10_liveLine_da101c : sf_ct kq_X10_liveLine_da101c Z_X10_liveLine := by
  have h := sf_meth (K := [kq_X6_attempt_13e]) (E := [Z_X6_attempt, Z_X1_passDays]) (k := kq_X10_liveLine_da101c) (nL := 5) (C := kc_X10_liveLine_da101c) (D := kd_X10_liveLine_da101c) (fun m k hk => match m, hk with
    | 0, hk => (Option.some.inj hk) ▸ ct_X6_attempt_13e
    | _ + 1, hk => (by cases hk)) kt_X10_liveLine_da101c
  rw [kl_X10_liveLine_da101c] at h
  exact h
def kq_X10_liveLine_82ef28 : sf_Q := ([(1, 10, 0), (0, 0, 0), (0, 0, 0), (0, 0, 0)], [(1, 3, 0, 4, 4, 0), (1, 6, 0, 0, 11, 0), (1, 9, 0, 0, 250, 0)], some (0, 0, 0), [(1, 0, 0, 0, 41, 0)], [(1, 2, 3), (13, 7, 9), (100, 0, 5), (101, 0, 5), (156, 0, 11), (158, 0, 11), (159, 0, 11), (160, 0, 7), (161, 0, 7), (162, 0, 63)])
def kc_X10_liveLine_82ef28 : List (Nat × sf_I) := [(0, 2, [1, 1]),
  (1, 0, [2, 4]),
  (2, 21, [5, 42, 1]),
  (5, 0, [8, 400]),
  (8, 4, [9, 0]),
  (9, 23, [12, 10, 5]),
  (12, 23, [15, 6, 7]),
  (15, 9, [16, 1]),
  (16, 2, [17, 3]),
  (17, 21, [20, 23, 5]),
  (20, 0, [22, 41]),
  (22, 35, [0, 0]),
  (23, 4, [24, 0]),
  (24, 23, [27, 10, 2]),
  (27, 4, [28, 0]),
  (28, 23, [31, 10, 13]),
  (31, 4, [32, 0]),
  (32, 23, [35, 10, 5]),
  (35, 2, [36, 3]),
  (36, 32, [39, 0, 4, 1, 0, 0, 0, 0]),
  (39, 19, [40]),
  (40, 0, [41, 0]),
  (41, 35, [0, 0]),
  (42, 4, [43, 0]),
  (43, 23, [46, 10, 5]),
  (46, 2, [47, 1]),
  (47, 2, [48, 2]),
  (48, 2, [49, 3]),
  (49, 32, [52, 1, 4, 6, 0, 0, 0, 0]),
  (52, 5, [54, 4]),
  (54, 2, [56, 4]),
  (56, 20, [59, 63, 1]),
  (59, 0, [60, 0]),
  (60, 22, [70]),
  (63, 0, [65, 10]),
  (65, 2, [66, 1]),
  (66, 9, [67, 2]),
  (67, 2, [69, 4]),
  (69, 9, [70, 0]),
  (70, 35, [0, 0])]
def kd_X10_liveLine_82ef28_0 : List (Nat × sf_D × sf_M) := [(0, ([(1, 10, 0), (0, 0, 0), (0, 0, 0), (0, 0, 0), (8, 0, 0)], [], [(1, 4, 0, 4, 4, 0), (1, 7, 0, 0, 11, 0), (1, 10, 0, 0, 250, 0)], 0, 0), (20, [])),
  (1, ([(1, 10, 0), (0, 0, 0), (0, 0, 0), (0, 0, 0), (8, 0, 0)], [(0, 0, 0)], [(1, 4, 0, 4, 4, 0), (1, 7, 0, 0, 11, 0), (1, 10, 0, 0, 250, 0), (1, 0, 0, 4, 4, 0), (2, 0, 4, 1, 0, 0)], 0, 0), (19, [])),
  (2, ([(1, 10, 0), (0, 0, 0), (0, 0, 0), (0, 0, 0), (8, 0, 0)], [(0, 0, 0), (0, 0, 0)], [(1, 4, 0, 4, 4, 0), (1, 7, 0, 0, 11, 0), (1, 10, 0, 0, 250, 0), (1, 0, 0, 4, 4, 0), (1, 3, 0, 4, 4, 0), (2, 0, 4, 1, 0, 0)], 0, 0), (18, [])),
  (5, ([(1, 10, 0), (0, 0, 0), (0, 0, 0), (0, 0, 0), (8, 0, 0)], [], [(1, 4, 0, 4, 4, 0), (1, 7, 0, 0, 11, 0), (1, 10, 0, 0, 250, 0)], 0, 0), (17, [])),
  (8, ([(1, 10, 0), (0, 0, 0), (0, 0, 0), (0, 0, 0), (8, 0, 0)], [(0, 0, 0)], [(1, 4, 0, 4, 4, 0), (1, 7, 0, 0, 11, 0), (1, 10, 0, 0, 250, 0), (1, 0, 0, 400, 400, 0)], 0, 0), (16, [])),
  (9, ([(1, 10, 0), (0, 0, 0), (0, 0, 0), (0, 0, 0), (8, 0, 0)], [(1, 10, 0), (0, 0, 0)], [(1, 4, 0, 4, 4, 0), (1, 7, 0, 0, 11, 0), (1, 10, 0, 0, 250, 0), (1, 0, 0, 400, 400, 0)], 0, 0), (15, []))]
def kd_X10_liveLine_82ef28_1 : List (Nat × sf_D × sf_M) := [(12, ([(1, 10, 0), (0, 0, 0), (0, 0, 0), (0, 0, 0), (8, 0, 0)], [(1, 13, 0), (0, 0, 0)], [(1, 4, 0, 4, 4, 0), (1, 7, 0, 0, 11, 0), (1, 10, 0, 0, 250, 0), (1, 0, 0, 400, 400, 0)], 0, 0), (14, [])),
  (15, ([(1, 10, 0), (0, 0, 0), (0, 0, 0), (0, 0, 0), (8, 0, 0)], [(0, 0, 400), (0, 0, 0)], [(1, 4, 0, 4, 4, 0), (1, 7, 0, 0, 11, 0), (1, 10, 0, 0, 250, 0), (1, 0, 0, 400, 400, 0), (1, 3, 0, 0, 400, 0), (1, 42023, 0, -2147483648, 2147483647, 0), (2, 3, 42023, 1, 0, 0)], 0, 0), (13, [])),
  (16, ([(1, 10, 0), (0, 0, 0), (0, 0, 0), (0, 0, 0), (8, 0, 0)], [(0, 0, 0)], [(1, 4, 0, 4, 4, 0), (1, 7, 0, 0, 11, 0), (1, 10, 0, 0, 250, 0), (1, 42023, 0, -2147483648, 2147483647, 0), (1, 0, 0, 0, 400, 0)], 0, 0), (12, [])),
  (17, ([(1, 10, 0), (0, 0, 0), (0, 0, 0), (0, 0, 0), (8, 0, 0)], [(0, 0, 0), (0, 0, 0)], [(1, 4, 0, 4, 4, 0), (1, 7, 0, 0, 11, 0), (1, 10, 0, 0, 250, 0), (1, 42023, 0, -2147483648, 2147483647, 0), (1, 0, 0, 0, 400, 0), (1, 3, 0, 0, 250, 0), (2, 3, 10, 1, 0, 0)], 0, 0), (11, [])),
  (20, ([(1, 10, 0), (0, 0, 0), (0, 0, 0), (0, 0, 0), (8, 0, 0)], [], [(1, 4, 0, 4, 4, 0), (1, 7, 0, 0, 11, 0), (1, 10, 0, 1, 250, 0), (1, 42023, 0, -2147483648, 2147483647, 0)], 0, 0), (1, []))]
def kd_X10_liveLine_82ef28_2 : List (Nat × sf_D × sf_M) := [(22, ([(1, 10, 0), (0, 0, 0), (0, 0, 0), (0, 0, 0), (8, 0, 0)], [(0, 0, 0)], [(1, 4, 0, 4, 4, 0), (1, 7, 0, 0, 11, 0), (1, 10, 0, 1, 250, 0), (1, 42023, 0, -2147483648, 2147483647, 0), (1, 0, 0, 41, 41, 0)], 0, 0), (0, [])),
  (23, ([(1, 10, 0), (0, 0, 0), (0, 0, 0), (0, 0, 0), (8, 0, 0)], [], [(1, 4, 0, 4, 4, 0), (1, 7, 0, 0, 11, 0), (1, 10, 0, 0, 250, 0), (1, 42023, 0, -2147483648, 2147483647, 0)], 0, 0), (10, [])),
  (24, ([(1, 10, 0), (0, 0, 0), (0, 0, 0), (0, 0, 0), (8, 0, 0)], [(1, 10, 0)], [(1, 4, 0, 4, 4, 0), (1, 7, 0, 0, 11, 0), (1, 10, 0, 0, 250, 0), (1, 42023, 0, -2147483648, 2147483647, 0)], 0, 0), (9, [])),
  (27, ([(1, 10, 0), (0, 0, 0), (0, 0, 0), (0, 0, 0), (8, 0, 0)], [(1, 1, 0)], [(1, 4, 0, 4, 4, 0), (1, 7, 0, 0, 11, 0), (1, 10, 0, 0, 250, 0), (1, 42023, 0, -2147483648, 2147483647, 0)], 0, 0), (8, [])),
  (28, ([(1, 10, 0), (0, 0, 0), (0, 0, 0), (0, 0, 0), (8, 0, 0)], [(1, 10, 0), (1, 1, 0)], [(1, 4, 0, 4, 4, 0), (1, 7, 0, 0, 11, 0), (1, 10, 0, 0, 250, 0), (1, 42023, 0, -2147483648, 2147483647, 0)], 0, 0), (7, [])),
  (31, ([(1, 10, 0), (0, 0, 0), (0, 0, 0), (0, 0, 0), (8, 0, 0)], [(1, 7, 0), (1, 1, 0)], [(1, 4, 0, 4, 4, 0), (1, 7, 0, 0, 11, 0), (1, 10, 0, 0, 250, 0), (1, 42023, 0, -2147483648, 2147483647, 0)], 0, 0), (6, []))]
def kd_X10_liveLine_82ef28_3 : List (Nat × sf_D × sf_M) := [(32, ([(1, 10, 0), (0, 0, 0), (0, 0, 0), (0, 0, 0), (8, 0, 0)], [(1, 10, 0), (1, 7, 0), (1, 1, 0)], [(1, 4, 0, 4, 4, 0), (1, 7, 0, 0, 11, 0), (1, 10, 0, 0, 250, 0), (1, 42023, 0, -2147483648, 2147483647, 0)], 0, 0), (5, [])),
  (35, ([(1, 10, 0), (0, 0, 0), (0, 0, 0), (0, 0, 0), (8, 0, 0)], [(1, 13, 0), (1, 7, 0), (1, 1, 0)], [(1, 4, 0, 4, 4, 0), (1, 7, 0, 0, 11, 0), (1, 10, 0, 0, 250, 0), (1, 42023, 0, -2147483648, 2147483647, 0)], 0, 0), (4, [])),
  (36, ([(1, 10, 0), (0, 0, 0), (0, 0, 0), (0, 0, 0), (8, 0, 0)], [(0, 0, 0), (1, 13, 0), (1, 7, 0), (1, 1, 0)], [(1, 4, 0, 4, 4, 0), (1, 7, 0, 0, 11, 0), (1, 10, 0, 0, 250, 0), (1, 42023, 0, -2147483648, 2147483647, 0), (1, 9, 0, 0, 250, 0), (2, 9, 10, 1, 0, 0)], 0, 0), (3, [])),
  (39, ([(1, 10, 0), (0, 0, 0), (0, 0, 0), (0, 0, 0), (8, 0, 0)], [(0, 0, 0)], [(1, 4, 0, 4, 4, 0), (1, 7, 0, 0, 11, 0), (1, 10, 0, 0, 250, 0), (1, 0, 0, -400, 400, 0)], 0, 0), (2, [])),
  (40, ([(1, 10, 0), (0, 0, 0), (0, 0, 0), (0, 0, 0), (8, 0, 0)], [], [(1, 4, 0, 4, 4, 0), (1, 7, 0, 0, 11, 0), (1, 10, 0, 0, 250, 0)], 0, 0), (1, [])),
  (41, ([(1, 10, 0), (0, 0, 0), (0, 0, 0), (0, 0, 0), (8, 0, 0)], [(0, 0, 0)], [(1, 4, 0, 4, 4, 0), (1, 7, 0, 0, 11, 0), (1, 10, 0, 0, 250, 0), (1, 0, 0, 0, 0, 0)], 0, 0), (0, []))]
def kd_X10_liveLine_82ef28 : List (Nat × sf_D × sf_M) := kd_X10_liveLine_82ef28_0 ++ (kd_X10_liveLine_82ef28_1 ++ (kd_X10_liveLine_82ef28_2 ++ (kd_X10_liveLine_82ef28_3)))
set_option maxRecDepth 100000 in
theorem kt_X10_liveLine_82ef28 : sf_chk [kq_X1_passDays_13] kq_X10_liveLine_82ef28 5 kc_X10_liveLine_82ef28 kd_X10_liveLine_82ef28 = true := by decide +kernel
set_option maxRecDepth 100000 in
theorem kl_X10_liveLine_82ef28 : (kc_X10_liveLine_82ef28).map (fun c => (c.1, sf_den ([Z_X1_passDays, Z_X6_attempt] : List sf_X) c.2)) = L_X10_liveLine Z_X1_passDays Z_X6_attempt := rfl
theorem ct_X10_liveLine_82ef28 : sf_ct kq_X10_liveLine_82ef28 Z_X10_liveLine := by
  have h := sf_meth (K := [kq_X1_passDays_13]) (E := [Z_X1_passDays, Z_X6_attempt]) (k := kq_X10_liveLine_82ef28) (nL := 5) (C := kc_X10_liveLine_82ef28) (D := kd_X10_liveLine_82ef28) (fun m k hk => match m, hk with
    | 0, hk => (Option.some.inj hk) ▸ ct_X1_passDays_13
    | _ + 1, hk => (by cases hk)) kt_X10_liveLine_82ef28
  rw [kl_X10_liveLine_82ef28] at h
  exact h
def kq_X10_judgeLog_h : sf_Q := ([(1, 10, 0)], [], some (0, 0, 0), [(1, 0, 0, -1, 40, 0)], [(1, 2, 3), (13, 7, 9), (100, 0, 5), (101, 0, 5), (130, 0, 3), (156, 0, 11), (157, 0, 11), (158, 0, 11), (159, 0, 11), (160, 0, 7), (161, 0, 7), (162, 0, 63)])
set_option maxRecDepth 100000 in
set_option maxHeartbeats 4000000 in
theorem ct_X10_judgeLog_h : sf_ct kq_X10_judgeLog_h Z_X10_judgeLog := by
  intro t hp as H hl hj hpre
  match as, hl with
  | [v0], _ =>
    obtain ⟨a0, rfl, ra0⟩ := bs_aR (hj 0 _ rfl)
    obtain rfl := ra0.eq H (p := 0) rfl
    clear hpre hj
    have F0 : sf_fr [(1, 2, 3), (13, 7, 9), (100, 0, 5), (101, 0, 5), (130, 0, 3), (156, 0, 11), (157, 0, 11), (158, 0, 11), (159, 0, 11), (160, 0, 7), (161, 0, 7), (162, 0, 63)] t hp t hp := sf_fr_rf
    refine bs_fin (K := kq_X10_judgeLog_h) (L := (L_X10_judgeLog Z_X10_liveLine)) (nL := 3) (Nat.le_of_ble_eq_true rfl) ?_
    obtain ⟨Q, hQ⟩ : ∃ Q : ab_O → Prop, Q = (fun o => ∃ t', sf_h t' o.2 ∧ sf_fr (kq_X10_judgeLog_h).2.2.2.2 t hp t' o.2 ∧ sf_an t' o.2.1 (kq_X10_judgeLog_h).2.2.1 o.1 ∧ sf_S (sf_v1 o.1 [.ref 0] o.2) (kq_X10_judgeLog_h).2.2.2.1) := ⟨_, rfl⟩
    rw [← hQ]
    refine (show Ev (ab_T (L_X10_judgeLog Z_X10_liveLine)) 0 ([some (.ref 0), none, none], [], (0, 0), hp) Q from ?_)
    refine bs_lit (k := 0) rfl rfl fun z1 hz1 => ?_
    refine Ev.step (j := 2) (s' := ([some (.ref 0), some (.int z1), none], [], (0, 0), hp)) rfl rfl ?_
    exact by
     refine bs_loop (ι := Int32 × (Option Value) × ab_H × (Nat → Nat)) (fun ⟨k2, o5, hp3, t4⟩ => ([some (.ref 0), some (.int k2), o5], [], (0, 0), hp3)) (fun ⟨k2, o5, hp3, t4⟩ => (sf_h t4 hp3) ∧ (sf_fr [(1, 2, 3), (13, 7, 9), (100, 0, 5), (101, 0, 5), (130, 0, 3), (156, 0, 11), (157, 0, 11), (158, 0, 11), (159, 0, 11), (160, 0, 7), (161, 0, 7), (162, 0, 63)] t hp t4 hp3) ∧ (0 ≤ k2.toInt ∧ k2.toInt ≤ 40)) (fun ⟨k2, o5, hp3, t4⟩ => (40 - k2.toInt).toNat) ?_ (z1, none, hp, t) ⟨H, F0, (by first | omega | assumption)⟩
     rintro ⟨k2, o5, hp3, t4⟩ ⟨Hhp3, Fhp3, i7⟩ ih6
     refine (show Ev _ 2 ([some (.ref 0), some (.int k2), o5], [], (0, 0), hp3) _ from ?_)
     refine Ev.step (j := 3) (s' := ([some (.ref 0), some (.int k2), o5], [.int k2], (0, 0), hp3)) rfl rfl ?_
     refine Ev.step (j := 4) (s' := ([some (.ref 0), some (.int k2), o5], [.ref 0, .int k2], (0, 0), hp3)) rfl rfl ?_
     refine bs_getU (g := 10) (g1 := 4) rfl rfl Hhp3 (bs_R.uq Hhp3 (g := 10) rfl) (by decide) rfl rfl ?_
     refine bs_getI 4 rfl rfl rfl Hhp3 (bs_R.uq Hhp3 (g := 4) rfl) (by decide) rfl fun z8 hz8 lz8 gz8 => ?_
     refine bs_ge rfl (fun c9 => ?_) (fun c9 => ?_)
     · skip
       refine Ev.step (j := 72) (s' := ([some (.ref 0), some (.int k2), o5], [.ref 0], (0, 0), hp3)) rfl rfl ?_
       exact by
        refine bs_getU (g := 10) (g1 := 130) rfl rfl Hhp3 (bs_R.uq Hhp3 (g := 10) rfl) (by decide) rfl rfl ?_
        refine bs_lit (k := 0) rfl rfl fun z10 hz10 => ?_
        refine bs_lit (k := 0) rfl rfl fun z11 hz11 => ?_
        refine bs_st (W := [(130, 0, 3)]) (g := 130) 0 3 (-2147483648, 2147483647) rfl Hhp3 (bs_R.uq Hhp3 (g := 130) rfl) (by decide) rfl rfl (by decide) rfl rfl (by omega) (by omega) (by dsimp only; omega) (by dsimp only; omega) fun hp12 Hhp12 fhp12 rhp12 ehp12 qhp12 nhp12 => ?_
        replace rhp12 := bs_at rhp12 (show z10.toInt.toNat = 0 by omega)
        have Fhp12 := sf_fr_tr Fhp3 (sf_fr_wider (W := [(1, 2, 3), (13, 7, 9), (100, 0, 5), (101, 0, 5), (130, 0, 3), (156, 0, 11), (157, 0, 11), (158, 0, 11), (159, 0, 11), (160, 0, 7), (161, 0, 7), (162, 0, 63)]) rfl fhp12)
        have h13 : sf_rd hp12 36 3 = some z8.toInt := (ehp12 _ _ (Or.inl (by decide))).trans hz8
        refine Ev.step (j := 79) (s' := ([some (.ref 0), some (.int k2), o5], [.ref 0], (0, 0), hp12)) rfl rfl ?_
        exact by
         refine bs_getU (g := 10) (g1 := 130) rfl rfl Hhp12 (bs_R.uq Hhp12 (g := 10) rfl) (by decide) rfl rfl ?_
         refine bs_lit (k := 1) rfl rfl fun z14 hz14 => ?_
         refine Ev.step (j := 84) (s' := ([some (.ref 0), some (.int k2), o5], [.ref 0, .int z14, .ref 44], (0, 0), hp12)) rfl rfl ?_
         refine bs_getU (g := 10) (g1 := 4) rfl rfl Hhp12 (bs_R.uq Hhp12 (g := 10) rfl) (by decide) rfl rfl ?_
         refine bs_getI 4 rfl rfl rfl Hhp12 (bs_R.uq Hhp12 (g := 4) rfl) (by decide) rfl fun z15 hz15 lz15 gz15 => ?_
         have e16 : z15.toInt = z8.toInt := Option.some.inj (hz15.symm.trans h13)
         refine bs_st (W := [(130, 0, 3)]) (g := 130) 0 3 (-2147483648, 2147483647) rfl Hhp12 (bs_R.uq Hhp12 (g := 130) rfl) (by decide) rfl rfl (by decide) rfl rfl (by omega) (by omega) (by dsimp only; omega) (by dsimp only; omega) fun hp17 Hhp17 fhp17 rhp17 ehp17 qhp17 nhp17 => ?_
         replace rhp17 := bs_at rhp17 (show z14.toInt.toNat = 1 by omega)
         have Fhp17 := sf_fr_tr Fhp12 (sf_fr_wider (W := [(1, 2, 3), (13, 7, 9), (100, 0, 5), (101, 0, 5), (130, 0, 3), (156, 0, 11), (157, 0, 11), (158, 0, 11), (159, 0, 11), (160, 0, 7), (161, 0, 7), (162, 0, 63)]) rfl fhp17)
         have h18 : sf_rd hp17 36 3 = some z8.toInt := (ehp17 _ _ (Or.inl (by decide))).trans h13
         have h19 : sf_rd hp17 44 0 = some z11.toInt := (ehp17 _ _ (Or.inr (by omega))).trans rhp12
         refine bs_lit (k := -1) rfl rfl fun z20 hz20 => ?_
         exact Ev.ret rfl rfl (by rw [hQ]; exact ⟨t4, Hhp17, Fhp17, bs_an0, sf_S_cons (sf_s1 (x := z20.toInt) rfl (by omega) (by omega)) (sf_S_nil)⟩)
     · skip
       refine Ev.step (j := 14) (s' := ([some (.ref 0), some (.int k2), o5], [.ref 0], (0, 0), hp3)) rfl rfl ?_
       exact by
        refine Ev.step (j := 15) (s' := ([some (.ref 0), some (.int k2), o5], [.ref 0, .ref 0], (0, 0), hp3)) rfl rfl ?_
        refine bs_getU (g := 10) (g1 := 4) rfl rfl Hhp3 (bs_R.uq Hhp3 (g := 10) rfl) (by decide) rfl rfl ?_
        refine bs_getU (g := 4) (g1 := 103) rfl rfl Hhp3 (bs_R.uq Hhp3 (g := 4) rfl) (by decide) rfl rfl ?_
        refine Ev.step (j := 22) (s' := ([some (.ref 0), some (.int k2), o5], [.int k2, .ref 37, .ref 0], (0, 0), hp3)) rfl rfl ?_
        refine bs_ld (g := 103) 0 39 (0, 4) rfl Hhp3 (bs_R.uq Hhp3 (g := 103) rfl) (by decide) rfl (by decide) (by decide) rfl (by decide) (by omega) (by omega) fun z21 hz21 lz21 gz21 => ?_
        dsimp only at lz21 gz21
        refine Ev.step (j := 24) (s' := ([some (.ref 0), some (.int k2), o5], [.ref 0, .int z21, .ref 0], (0, 0), hp3)) rfl rfl ?_
        refine bs_getU (g := 10) (g1 := 4) rfl rfl Hhp3 (bs_R.uq Hhp3 (g := 10) rfl) (by decide) rfl rfl ?_
        refine bs_getU (g := 4) (g1 := 104) rfl rfl Hhp3 (bs_R.uq Hhp3 (g := 4) rfl) (by decide) rfl rfl ?_
        exact by
         refine Ev.step (j := 31) (s' := ([some (.ref 0), some (.int k2), o5], [.int k2, .ref 38, .int z21, .ref 0], (0, 0), hp3)) rfl rfl ?_
         refine bs_ld (g := 104) 0 39 (0, 11) rfl Hhp3 (bs_R.uq Hhp3 (g := 104) rfl) (by decide) rfl (by decide) (by decide) rfl (by decide) (by omega) (by omega) fun z22 hz22 lz22 gz22 => ?_
         dsimp only at lz22 gz22
         refine Ev.step (j := 33) (s' := ([some (.ref 0), some (.int k2), o5], [.ref 0, .int z22, .int z21, .ref 0], (0, 0), hp3)) rfl rfl ?_
         refine bs_getU (g := 10) (g1 := 4) rfl rfl Hhp3 (bs_R.uq Hhp3 (g := 10) rfl) (by decide) rfl rfl ?_
         refine bs_getU (g := 4) (g1 := 105) rfl rfl Hhp3 (bs_R.uq Hhp3 (g := 4) rfl) (by decide) rfl rfl ?_
         refine Ev.step (j := 40) (s' := ([some (.ref 0), some (.int k2), o5], [.int k2, .ref 39, .int z22, .int z21, .ref 0], (0, 0), hp3)) rfl rfl ?_
         refine bs_ld (g := 105) 0 39 (0, 250) rfl Hhp3 (bs_R.uq Hhp3 (g := 105) rfl) (by decide) rfl (by decide) (by decide) rfl (by decide) (by omega) (by omega) fun z23 hz23 lz23 gz23 => ?_
         dsimp only at lz23 gz23
         have j2 : z21.toInt = 3 → z22.toInt ≤ 7 := fun h => bs_I2 Hhp3 (i := k2.toInt.toNat) (by omega) hz21 h hz22
         rcases (show (0 ≤ z21.toInt ∧ z21.toInt ≤ 2) ∨ (z21.toInt = 3) ∨ (z21.toInt = 4) by omega) with c24 | c24 | c24
         · skip
           have j2 : z21.toInt = 3 → z22.toInt ≤ 7 := fun h => bs_I2 Hhp3 (i := k2.toInt.toNat) (by omega) hz21 h hz22
           refine bs_call (K := kq_X10_liveLine_5822f8) [.ref 0, .int z21, .int z22, .int z23] [] rfl ct_X10_liveLine_5822f8 Hhp3 rfl rfl rfl (bs_rcv (g := 10) Hhp3 (bs_R.uq Hhp3 (g := 10) rfl) (by decide) rfl) rfl ?_ (sf_S_cons (sf_s1 (x := z21.toInt) rfl (by omega) (by omega)) (sf_S_cons (sf_s1 (x := z22.toInt) rfl (by omega) (by omega)) (sf_S_cons (sf_s1 (x := z23.toInt) rfl (by omega) (by omega)) (sf_S_nil)))) fun r25 hp26 thp26 Hhp26 fhp26 ahp26 php26 => ?_
           · intro q k h
             match q, h with
             | 0, h => cases h; exact bs_jR (bs_R.uq Hhp3 (g := 10) rfl)
             | 1, h => cases h; exact sf_j0
             | 2, h => cases h; exact sf_j0
             | 3, h => cases h; exact sf_j0
             | q + 4, h => cases h
           obtain ⟨z27, rfl⟩ := bs_anI ahp26
           have rgz27 := n_range z27
           have Fhp26 := sf_fr_tr Fhp3 (sf_fr_wider (W := [(1, 2, 3), (13, 7, 9), (100, 0, 5), (101, 0, 5), (130, 0, 3), (156, 0, 11), (157, 0, 11), (158, 0, 11), (159, 0, 11), (160, 0, 7), (161, 0, 7), (162, 0, 63)]) rfl fhp26)
           have h28 : sf_rd hp26 36 3 = some z8.toInt := (fhp26.2.2.1 _ (bs_R.uq Hhp3 (g := 4) (p := 36) rfl).1 _ (by rw [(bs_R.uq Hhp3 (g := 4) (p := 36) rfl).2]; rfl)).trans hz8
           have h29 : sf_rd hp26 37 k2.toInt.toNat = some z21.toInt := (fhp26.2.2.1 _ (bs_R.uq Hhp3 (g := 103) (p := 37) rfl).1 _ (by rw [(bs_R.uq Hhp3 (g := 103) (p := 37) rfl).2]; rfl)).trans hz21
           have h30 : sf_rd hp26 38 k2.toInt.toNat = some z22.toInt := (fhp26.2.2.1 _ (bs_R.uq Hhp3 (g := 104) (p := 38) rfl).1 _ (by rw [(bs_R.uq Hhp3 (g := 104) (p := 38) rfl).2]; rfl)).trans hz22
           have h31 : sf_rd hp26 39 k2.toInt.toNat = some z23.toInt := (fhp26.2.2.1 _ (bs_R.uq Hhp3 (g := 105) (p := 39) rfl).1 _ (by rw [(bs_R.uq Hhp3 (g := 105) (p := 39) rfl).2]; rfl)).trans hz23
           obtain ⟨uz27, vz27⟩ := bs_s1 (x := z27.toInt) rfl (php26 _ (List.mem_of_getElem? (i := 0) rfl))
           refine (show Ev _ 44 ([some (.ref 0), some (.int k2), o5], [.int z27], (0, 0), hp26) _ from ?_)
           exact by
            refine Ev.step (j := 45) (s' := ([some (.ref 0), some (.int k2), some (.int z27)], [], (0, 0), hp26)) rfl rfl ?_
            refine Ev.step (j := 46) (s' := ([some (.ref 0), some (.int k2), some (.int z27)], [.int z27], (0, 0), hp26)) rfl rfl ?_
            refine bs_ifeq rfl (fun c32 => ?_) (fun c32 => ?_)
            · skip
              have c33 : z27.toInt = 0 := by omega
              refine bs_iinc (1) rfl rfl rfl rfl (by omega) (by omega) fun z34 hz34 => ?_
              refine (show Ev _ 68 ([some (.ref 0), some (.int z34), some (.int z27)], [], (0, 0), hp26) _ from ?_)
              refine Ev.step (j := 2) (s' := ([some (.ref 0), some (.int z34), some (.int z27)], [], (0, 0), hp26)) rfl rfl ?_
              refine ih6 (z34, (some (.int z27)), hp26, thp26) ⟨Hhp26, Fhp26, (by first | omega | assumption)⟩ ?_
              show (40 - z34.toInt).toNat < (40 - k2.toInt).toNat
              omega
            · skip
              refine Ev.step (j := 50) (s' := ([some (.ref 0), some (.int k2), some (.int z27)], [.ref 0], (0, 0), hp26)) rfl rfl ?_
              exact by
               refine bs_getU (g := 10) (g1 := 130) rfl rfl Hhp26 (bs_R.uq Hhp26 (g := 10) rfl) (by decide) rfl rfl ?_
               refine bs_lit (k := 0) rfl rfl fun z35 hz35 => ?_
               refine Ev.step (j := 55) (s' := ([some (.ref 0), some (.int k2), some (.int z27)], [.int z27, .int z35, .ref 44], (0, 0), hp26)) rfl rfl ?_
               refine bs_st (W := [(130, 0, 3)]) (g := 130) 0 3 (-2147483648, 2147483647) rfl Hhp26 (bs_R.uq Hhp26 (g := 130) rfl) (by decide) rfl rfl (by decide) rfl rfl (by omega) (by omega) (by dsimp only; omega) (by dsimp only; omega) fun hp36 Hhp36 fhp36 rhp36 ehp36 qhp36 nhp36 => ?_
               replace rhp36 := bs_at rhp36 (show z35.toInt.toNat = 0 by omega)
               have Fhp36 := sf_fr_tr Fhp26 (sf_fr_wider (W := [(1, 2, 3), (13, 7, 9), (100, 0, 5), (101, 0, 5), (130, 0, 3), (156, 0, 11), (157, 0, 11), (158, 0, 11), (159, 0, 11), (160, 0, 7), (161, 0, 7), (162, 0, 63)]) rfl fhp36)
               have h37 : sf_rd hp36 36 3 = some z8.toInt := (ehp36 _ _ (Or.inl (by decide))).trans h28
               have h38 : sf_rd hp36 37 k2.toInt.toNat = some z21.toInt := (ehp36 _ _ (Or.inl (by decide))).trans h29
               have h39 : sf_rd hp36 38 k2.toInt.toNat = some z22.toInt := (ehp36 _ _ (Or.inl (by decide))).trans h30
               have h40 : sf_rd hp36 39 k2.toInt.toNat = some z23.toInt := (ehp36 _ _ (Or.inl (by decide))).trans h31
               refine Ev.step (j := 57) (s' := ([some (.ref 0), some (.int k2), some (.int z27)], [.ref 0], (0, 0), hp36)) rfl rfl ?_
               exact by
                refine bs_getU (g := 10) (g1 := 130) rfl rfl Hhp36 (bs_R.uq Hhp36 (g := 10) rfl) (by decide) rfl rfl ?_
                refine bs_lit (k := 1) rfl rfl fun z41 hz41 => ?_
                refine Ev.step (j := 62) (s' := ([some (.ref 0), some (.int k2), some (.int z27)], [.int k2, .int z41, .ref 44], (0, 0), hp36)) rfl rfl ?_
                refine bs_st (W := [(130, 0, 3)]) (g := 130) 0 3 (-2147483648, 2147483647) rfl Hhp36 (bs_R.uq Hhp36 (g := 130) rfl) (by decide) rfl rfl (by decide) rfl rfl (by omega) (by omega) (by dsimp only; omega) (by dsimp only; omega) fun hp42 Hhp42 fhp42 rhp42 ehp42 qhp42 nhp42 => ?_
                replace rhp42 := bs_at rhp42 (show z41.toInt.toNat = 1 by omega)
                have Fhp42 := sf_fr_tr Fhp36 (sf_fr_wider (W := [(1, 2, 3), (13, 7, 9), (100, 0, 5), (101, 0, 5), (130, 0, 3), (156, 0, 11), (157, 0, 11), (158, 0, 11), (159, 0, 11), (160, 0, 7), (161, 0, 7), (162, 0, 63)]) rfl fhp42)
                have h43 : sf_rd hp42 36 3 = some z8.toInt := (ehp42 _ _ (Or.inl (by decide))).trans h37
                have h44 : sf_rd hp42 37 k2.toInt.toNat = some z21.toInt := (ehp42 _ _ (Or.inl (by decide))).trans h38
                have h45 : sf_rd hp42 38 k2.toInt.toNat = some z22.toInt := (ehp42 _ _ (Or.inl (by decide))).trans h39
                have h46 : sf_rd hp42 39 k2.toInt.toNat = some z23.toInt := (ehp42 _ _ (Or.inl (by decide))).trans h40
                have h47 : sf_rd hp42 44 0 = some z27.toInt := (ehp42 _ _ (Or.inr (by omega))).trans rhp36
                refine Ev.step (j := 64) (s' := ([some (.ref 0), some (.int k2), some (.int z27)], [.int k2], (0, 0), hp42)) rfl rfl ?_
                exact Ev.ret rfl rfl (by rw [hQ]; exact ⟨thp26, Hhp42, Fhp42, bs_an0, sf_S_cons (sf_s1 (x := k2.toInt) rfl (by omega) (by omega)) (sf_S_nil)⟩)
         · skip
           have j2 : z21.toInt = 3 → z22.toInt ≤ 7 := fun h => bs_I2 Hhp3 (i := k2.toInt.toNat) (by omega) hz21 h hz22
           refine bs_call (K := kq_X10_liveLine_da101c) [.ref 0, .int z21, .int z22, .int z23] [] rfl ct_X10_liveLine_da101c Hhp3 rfl rfl rfl (bs_rcv (g := 10) Hhp3 (bs_R.uq Hhp3 (g := 10) rfl) (by decide) rfl) rfl ?_ (sf_S_cons (sf_s1 (x := z21.toInt) rfl (by omega) (by omega)) (sf_S_cons (sf_s1 (x := z22.toInt) rfl (by omega) (by omega)) (sf_S_cons (sf_s1 (x := z23.toInt) rfl (by omega) (by omega)) (sf_S_nil)))) fun r48 hp49 thp49 Hhp49 fhp49 ahp49 php49 => ?_
           · intro q k h
             match q, h with
             | 0, h => cases h; exact bs_jR (bs_R.uq Hhp3 (g := 10) rfl)
             | 1, h => cases h; exact sf_j0
             | 2, h => cases h; exact sf_j0
             | 3, h => cases h; exact sf_j0
             | q + 4, h => cases h
           obtain ⟨z50, rfl⟩ := bs_anI ahp49
           have rgz50 := n_range z50
           have Fhp49 := sf_fr_tr Fhp3 (sf_fr_wider (W := [(1, 2, 3), (13, 7, 9), (100, 0, 5), (101, 0, 5), (130, 0, 3), (156, 0, 11), (157, 0, 11), (158, 0, 11), (159, 0, 11), (160, 0, 7), (161, 0, 7), (162, 0, 63)]) rfl fhp49)
           have h51 : sf_rd hp49 36 3 = some z8.toInt := (fhp49.2.2.1 _ (bs_R.uq Hhp3 (g := 4) (p := 36) rfl).1 _ (by rw [(bs_R.uq Hhp3 (g := 4) (p := 36) rfl).2]; rfl)).trans hz8
           have h52 : sf_rd hp49 37 k2.toInt.toNat = some z21.toInt := (fhp49.2.2.1 _ (bs_R.uq Hhp3 (g := 103) (p := 37) rfl).1 _ (by rw [(bs_R.uq Hhp3 (g := 103) (p := 37) rfl).2]; rfl)).trans hz21
           have h53 : sf_rd hp49 38 k2.toInt.toNat = some z22.toInt := (fhp49.2.2.1 _ (bs_R.uq Hhp3 (g := 104) (p := 38) rfl).1 _ (by rw [(bs_R.uq Hhp3 (g := 104) (p := 38) rfl).2]; rfl)).trans hz22
           have h54 : sf_rd hp49 39 k2.toInt.toNat = some z23.toInt := (fhp49.2.2.1 _ (bs_R.uq Hhp3 (g := 105) (p := 39) rfl).1 _ (by rw [(bs_R.uq Hhp3 (g := 105) (p := 39) rfl).2]; rfl)).trans hz23
           obtain ⟨uz50, vz50⟩ := bs_s1 (x := z50.toInt) rfl (php49 _ (List.mem_of_getElem? (i := 0) rfl))
           refine (show Ev _ 44 ([some (.ref 0), some (.int k2), o5], [.int z50], (0, 0), hp49) _ from ?_)
           exact by
            refine Ev.step (j := 45) (s' := ([some (.ref 0), some (.int k2), some (.int z50)], [], (0, 0), hp49)) rfl rfl ?_
            refine Ev.step (j := 46) (s' := ([some (.ref 0), some (.int k2), some (.int z50)], [.int z50], (0, 0), hp49)) rfl rfl ?_
            refine bs_ifeq rfl (fun c55 => ?_) (fun c55 => ?_)
            · skip
              have c56 : z50.toInt = 0 := by omega
              refine bs_iinc (1) rfl rfl rfl rfl (by omega) (by omega) fun z57 hz57 => ?_
              refine (show Ev _ 68 ([some (.ref 0), some (.int z57), some (.int z50)], [], (0, 0), hp49) _ from ?_)
              refine Ev.step (j := 2) (s' := ([some (.ref 0), some (.int z57), some (.int z50)], [], (0, 0), hp49)) rfl rfl ?_
              refine ih6 (z57, (some (.int z50)), hp49, thp49) ⟨Hhp49, Fhp49, (by first | omega | assumption)⟩ ?_
              show (40 - z57.toInt).toNat < (40 - k2.toInt).toNat
              omega
            · skip
              refine Ev.step (j := 50) (s' := ([some (.ref 0), some (.int k2), some (.int z50)], [.ref 0], (0, 0), hp49)) rfl rfl ?_
              exact by
               refine bs_getU (g := 10) (g1 := 130) rfl rfl Hhp49 (bs_R.uq Hhp49 (g := 10) rfl) (by decide) rfl rfl ?_
               refine bs_lit (k := 0) rfl rfl fun z58 hz58 => ?_
               refine Ev.step (j := 55) (s' := ([some (.ref 0), some (.int k2), some (.int z50)], [.int z50, .int z58, .ref 44], (0, 0), hp49)) rfl rfl ?_
               refine bs_st (W := [(130, 0, 3)]) (g := 130) 0 3 (-2147483648, 2147483647) rfl Hhp49 (bs_R.uq Hhp49 (g := 130) rfl) (by decide) rfl rfl (by decide) rfl rfl (by omega) (by omega) (by dsimp only; omega) (by dsimp only; omega) fun hp59 Hhp59 fhp59 rhp59 ehp59 qhp59 nhp59 => ?_
               replace rhp59 := bs_at rhp59 (show z58.toInt.toNat = 0 by omega)
               have Fhp59 := sf_fr_tr Fhp49 (sf_fr_wider (W := [(1, 2, 3), (13, 7, 9), (100, 0, 5), (101, 0, 5), (130, 0, 3), (156, 0, 11), (157, 0, 11), (158, 0, 11), (159, 0, 11), (160, 0, 7), (161, 0, 7), (162, 0, 63)]) rfl fhp59)
               have h60 : sf_rd hp59 36 3 = some z8.toInt := (ehp59 _ _ (Or.inl (by decide))).trans h51
               have h61 : sf_rd hp59 37 k2.toInt.toNat = some z21.toInt := (ehp59 _ _ (Or.inl (by decide))).trans h52
               have h62 : sf_rd hp59 38 k2.toInt.toNat = some z22.toInt := (ehp59 _ _ (Or.inl (by decide))).trans h53
               have h63 : sf_rd hp59 39 k2.toInt.toNat = some z23.toInt := (ehp59 _ _ (Or.inl (by decide))).trans h54
               refine Ev.step (j := 57) (s' := ([some (.ref 0), some (.int k2), some (.int z50)], [.ref 0], (0, 0), hp59)) rfl rfl ?_
               exact by
                refine bs_getU (g := 10) (g1 := 130) rfl rfl Hhp59 (bs_R.uq Hhp59 (g := 10) rfl) (by decide) rfl rfl ?_
                refine bs_lit (k := 1) rfl rfl fun z64 hz64 => ?_
                refine Ev.step (j := 62) (s' := ([some (.ref 0), some (.int k2), some (.int z50)], [.int k2, .int z64, .ref 44], (0, 0), hp59)) rfl rfl ?_
                refine bs_st (W := [(130, 0, 3)]) (g := 130) 0 3 (-2147483648, 2147483647) rfl Hhp59 (bs_R.uq Hhp59 (g := 130) rfl) (by decide) rfl rfl (by decide) rfl rfl (by omega) (by omega) (by dsimp only; omega) (by dsimp only; omega) fun hp65 Hhp65 fhp65 rhp65 ehp65 qhp65 nhp65 => ?_
                replace rhp65 := bs_at rhp65 (show z64.toInt.toNat = 1 by omega)
                have Fhp65 := sf_fr_tr Fhp59 (sf_fr_wider (W := [(1, 2, 3), (13, 7, 9), (100, 0, 5), (101, 0, 5), (130, 0, 3), (156, 0, 11), (157, 0, 11), (158, 0, 11), (159, 0, 11), (160, 0, 7), (161, 0, 7), (162, 0, 63)]) rfl fhp65)
                have h66 : sf_rd hp65 36 3 = some z8.toInt := (ehp65 _ _ (Or.inl (by decide))).trans h60
                have h67 : sf_rd hp65 37 k2.toInt.toNat = some z21.toInt := (ehp65 _ _ (Or.inl (by decide))).trans h61
                have h68 : sf_rd hp65 38 k2.toInt.toNat = some z22.toInt := (ehp65 _ _ (Or.inl (by decide))).trans h62
                have h69 : sf_rd hp65 39 k2.toInt.toNat = some z23.toInt := (ehp65 _ _ (Or.inl (by decide))).trans h63
                have h70 : sf_rd hp65 44 0 = some z50.toInt := (ehp65 _ _ (Or.inr (by omega))).trans rhp59
                refine Ev.step (j := 64) (s' := ([some (.ref 0), some (.int k2), some (.int z50)], [.int k2], (0, 0), hp65)) rfl rfl ?_
                exact Ev.ret rfl rfl (by rw [hQ]; exact ⟨thp49, Hhp65, Fhp65, bs_an0, sf_S_cons (sf_s1 (x := k2.toInt) rfl (by omega) (by omega)) (sf_S_nil)⟩)
         · skip
           have j2 : z21.toInt = 3 → z22.toInt ≤ 7 := fun h => bs_I2 Hhp3 (i := k2.toInt.toNat) (by omega) hz21 h hz22
           refine bs_call (K := kq_X10_liveLine_82ef28) [.ref 0, .int z21, .int z22, .int z23] [] rfl ct_X10_liveLine_82ef28 Hhp3 rfl rfl rfl (bs_rcv (g := 10) Hhp3 (bs_R.uq Hhp3 (g := 10) rfl) (by decide) rfl) rfl ?_ (sf_S_cons (sf_s1 (x := z21.toInt) rfl (by omega) (by omega)) (sf_S_cons (sf_s1 (x := z22.toInt) rfl (by omega) (by omega)) (sf_S_cons (sf_s1 (x := z23.toInt) rfl (by omega) (by omega)) (sf_S_nil)))) fun r71 hp72 thp72 Hhp72 fhp72 ahp72 php72 => ?_
           · intro q k h
             match q, h with
             | 0, h => cases h; exact bs_jR (bs_R.uq Hhp3 (g := 10) rfl)
             | 1, h => cases h; exact sf_j0
             | 2, h => cases h; exact sf_j0
             | 3, h => cases h; exact sf_j0
             | q + 4, h => cases h
           obtain ⟨z73, rfl⟩ := bs_anI ahp72
           have rgz73 := n_range z73
           have Fhp72 := sf_fr_tr Fhp3 (sf_fr_wider (W := [(1, 2, 3), (13, 7, 9), (100, 0, 5), (101, 0, 5), (130, 0, 3), (156, 0, 11), (157, 0, 11), (158, 0, 11), (159, 0, 11), (160, 0, 7), (161, 0, 7), (162, 0, 63)]) rfl fhp72)
           have h74 : sf_rd hp72 36 3 = some z8.toInt := (fhp72.2.2.1 _ (bs_R.uq Hhp3 (g := 4) (p := 36) rfl).1 _ (by rw [(bs_R.uq Hhp3 (g := 4) (p := 36) rfl).2]; rfl)).trans hz8
           have h75 : sf_rd hp72 37 k2.toInt.toNat = some z21.toInt := (fhp72.2.2.1 _ (bs_R.uq Hhp3 (g := 103) (p := 37) rfl).1 _ (by rw [(bs_R.uq Hhp3 (g := 103) (p := 37) rfl).2]; rfl)).trans hz21
           have h76 : sf_rd hp72 38 k2.toInt.toNat = some z22.toInt := (fhp72.2.2.1 _ (bs_R.uq Hhp3 (g := 104) (p := 38) rfl).1 _ (by rw [(bs_R.uq Hhp3 (g := 104) (p := 38) rfl).2]; rfl)).trans hz22
           have h77 : sf_rd hp72 39 k2.toInt.toNat = some z23.toInt := (fhp72.2.2.1 _ (bs_R.uq Hhp3 (g := 105) (p := 39) rfl).1 _ (by rw [(bs_R.uq Hhp3 (g := 105) (p := 39) rfl).2]; rfl)).trans hz23
           obtain ⟨uz73, vz73⟩ := bs_s1 (x := z73.toInt) rfl (php72 _ (List.mem_of_getElem? (i := 0) rfl))
           refine (show Ev _ 44 ([some (.ref 0), some (.int k2), o5], [.int z73], (0, 0), hp72) _ from ?_)
           exact by
            refine Ev.step (j := 45) (s' := ([some (.ref 0), some (.int k2), some (.int z73)], [], (0, 0), hp72)) rfl rfl ?_
            refine Ev.step (j := 46) (s' := ([some (.ref 0), some (.int k2), some (.int z73)], [.int z73], (0, 0), hp72)) rfl rfl ?_
            refine bs_ifeq rfl (fun c78 => ?_) (fun c78 => ?_)
            · skip
              have c79 : z73.toInt = 0 := by omega
              refine bs_iinc (1) rfl rfl rfl rfl (by omega) (by omega) fun z80 hz80 => ?_
              refine (show Ev _ 68 ([some (.ref 0), some (.int z80), some (.int z73)], [], (0, 0), hp72) _ from ?_)
              refine Ev.step (j := 2) (s' := ([some (.ref 0), some (.int z80), some (.int z73)], [], (0, 0), hp72)) rfl rfl ?_
              refine ih6 (z80, (some (.int z73)), hp72, thp72) ⟨Hhp72, Fhp72, (by first | omega | assumption)⟩ ?_
              show (40 - z80.toInt).toNat < (40 - k2.toInt).toNat
              omega
            · skip
              refine Ev.step (j := 50) (s' := ([some (.ref 0), some (.int k2), some (.int z73)], [.ref 0], (0, 0), hp72)) rfl rfl ?_
              exact by
               refine bs_getU (g := 10) (g1 := 130) rfl rfl Hhp72 (bs_R.uq Hhp72 (g := 10) rfl) (by decide) rfl rfl ?_
               refine bs_lit (k := 0) rfl rfl fun z81 hz81 => ?_
               refine Ev.step (j := 55) (s' := ([some (.ref 0), some (.int k2), some (.int z73)], [.int z73, .int z81, .ref 44], (0, 0), hp72)) rfl rfl ?_
               refine bs_st (W := [(130, 0, 3)]) (g := 130) 0 3 (-2147483648, 2147483647) rfl Hhp72 (bs_R.uq Hhp72 (g := 130) rfl) (by decide) rfl rfl (by decide) rfl rfl (by omega) (by omega) (by dsimp only; omega) (by dsimp only; omega) fun hp82 Hhp82 fhp82 rhp82 ehp82 qhp82 nhp82 => ?_
               replace rhp82 := bs_at rhp82 (show z81.toInt.toNat = 0 by omega)
               have Fhp82 := sf_fr_tr Fhp72 (sf_fr_wider (W := [(1, 2, 3), (13, 7, 9), (100, 0, 5), (101, 0, 5), (130, 0, 3), (156, 0, 11), (157, 0, 11), (158, 0, 11), (159, 0, 11), (160, 0, 7), (161, 0, 7), (162, 0, 63)]) rfl fhp82)
               have h83 : sf_rd hp82 36 3 = some z8.toInt := (ehp82 _ _ (Or.inl (by decide))).trans h74
               have h84 : sf_rd hp82 37 k2.toInt.toNat = some z21.toInt := (ehp82 _ _ (Or.inl (by decide))).trans h75
               have h85 : sf_rd hp82 38 k2.toInt.toNat = some z22.toInt := (ehp82 _ _ (Or.inl (by decide))).trans h76
               have h86 : sf_rd hp82 39 k2.toInt.toNat = some z23.toInt := (ehp82 _ _ (Or.inl (by decide))).trans h77
               refine Ev.step (j := 57) (s' := ([some (.ref 0), some (.int k2), some (.int z73)], [.ref 0], (0, 0), hp82)) rfl rfl ?_
               exact by
                refine bs_getU (g := 10) (g1 := 130) rfl rfl Hhp82 (bs_R.uq Hhp82 (g := 10) rfl) (by decide) rfl rfl ?_
                refine bs_lit (k := 1) rfl rfl fun z87 hz87 => ?_
                refine Ev.step (j := 62) (s' := ([some (.ref 0), some (.int k2), some (.int z73)], [.int k2, .int z87, .ref 44], (0, 0), hp82)) rfl rfl ?_
                refine bs_st (W := [(130, 0, 3)]) (g := 130) 0 3 (-2147483648, 2147483647) rfl Hhp82 (bs_R.uq Hhp82 (g := 130) rfl) (by decide) rfl rfl (by decide) rfl rfl (by omega) (by omega) (by dsimp only; omega) (by dsimp only; omega) fun hp88 Hhp88 fhp88 rhp88 ehp88 qhp88 nhp88 => ?_
                replace rhp88 := bs_at rhp88 (show z87.toInt.toNat = 1 by omega)
                have Fhp88 := sf_fr_tr Fhp82 (sf_fr_wider (W := [(1, 2, 3), (13, 7, 9), (100, 0, 5), (101, 0, 5), (130, 0, 3), (156, 0, 11), (157, 0, 11), (158, 0, 11), (159, 0, 11), (160, 0, 7), (161, 0, 7), (162, 0, 63)]) rfl fhp88)
                have h89 : sf_rd hp88 36 3 = some z8.toInt := (ehp88 _ _ (Or.inl (by decide))).trans h83
                have h90 : sf_rd hp88 37 k2.toInt.toNat = some z21.toInt := (ehp88 _ _ (Or.inl (by decide))).trans h84
                have h91 : sf_rd hp88 38 k2.toInt.toNat = some z22.toInt := (ehp88 _ _ (Or.inl (by decide))).trans h85
                have h92 : sf_rd hp88 39 k2.toInt.toNat = some z23.toInt := (ehp88 _ _ (Or.inl (by decide))).trans h86
                have h93 : sf_rd hp88 44 0 = some z73.toInt := (ehp88 _ _ (Or.inr (by omega))).trans rhp82
                refine Ev.step (j := 64) (s' := ([some (.ref 0), some (.int k2), some (.int z73)], [.int k2], (0, 0), hp88)) rfl rfl ?_
                exact Ev.ret rfl rfl (by rw [hQ]; exact ⟨thp72, Hhp88, Fhp88, bs_an0, sf_S_cons (sf_s1 (x := k2.toInt) rfl (by omega) (by omega)) (sf_S_nil)⟩)
end
-- 63.b03a.new.lean.txt
section
/-! ===== new cells ===== -/
theorem sf_ext {t t' : Nat → Nat} {hp hp' : ab_H} (H : sf_h t hp) (hn : hp.1 ≤ hp'.1) (hs : ∀ j, j < hp.1 → hp'.2 j = hp.2 j) (ht : ∀ j, j < hp.1 → t' j = t j) (hc : ∀ j, hp.1 ≤ j → j < hp'.1 → sf_c t' hp'.1 (t' j) (hp'.2 j) ∧ sf_P (t' j) = none)
    (h5 : ∀ j, hp.1 ≤ j → j < hp'.1 → t' j = 5 → j + 2 < hp'.1 ∧ t' (j + 1) = 106 ∧ t' (j + 2) = 107 ∧ sf_rr hp' j 0 = some (j + 1) ∧ sf_rr hp' j 1 = some (j + 2) ∧ ∀ i, i < 40 → ∀ x, sf_rd hp' (j + 1) i = some x → x ≤ 84 → ∃ y, sf_rd hp' (j + 2) i = some y ∧ 0 ≤ y ∧ y ≤ 1) : sf_h t' hp' ∧ sf_fr [] t hp t' hp' := by
  have h88 : 88 ≤ hp.1 := (H.2.2.1 148 87 rfl).1
  have hrd : ∀ j i, j < hp.1 → sf_rd hp' j i = sf_rd hp j i := fun j i hj => by
    unfold sf_rd
    rw [hs j hj]
  have hrr : ∀ j i, j < hp.1 → sf_rr hp' j i = sf_rr hp j i := fun j i hj => by
    unfold sf_rr
    rw [hs j hj]
  refine ⟨⟨fun j hj => ?_, fun j q hj hq => ?_, fun g q hq => ?_, ?_⟩, hn, ht, fun a ha i _ => hrd a i ha, fun a ha _ => hs a ha, fun _ => ?_⟩
  · by_cases c : j < hp.1
    · rw [hs j c, ht j c]
      exact sf_c_mono (H.1 j c) hn ht
    · exact (hc j (by omega) hj).1
  · by_cases c : j < hp.1
    · rw [ht j c] at hq
      exact H.2.1 j q c hq
    · rw [(hc j (by omega) hj).2] at hq
      cases hq
  · obtain ⟨h1, h2⟩ := H.2.2.1 g q hq
    exact ⟨by omega, (ht q h1).trans h2⟩
  · obtain ⟨i1, i2, i3, i4, i5⟩ := H.2.2.2
    refine ⟨fun a ha h5' => ?_, fun i hi hx => ?_, ?_, ?_, ?_⟩
    · by_cases c : a < hp.1
      · rw [ht a c] at h5'
        obtain ⟨q1, q2, q3, q4, q5, q6⟩ := i1 a c h5'
        have l1 : a + 1 < hp.1 := by omega
        refine ⟨by omega, (ht _ l1).trans q2, (ht _ q1).trans q3, (hrr a 0 c).trans q4, (hrr a 1 c).trans q5, fun i hi x hx hx2 => ?_⟩
        rw [hrd _ i l1] at hx
        rw [hrd _ i q1]
        exact q6 i hi x hx hx2
      · exact h5 a (by omega) ha h5'
    · rw [hrd 37 i (by omega)] at hx
      rw [hrd 38 i (by omega)]
      exact i2 i hi hx
    · have e : sf_cd hp' 71 253 = sf_cd hp 71 253 := funext fun j => by
        unfold sf_cd
        rw [hrd 71 _ (by omega)]
      rw [e]
      exact i3
    · have e : sf_cd hp' 84 253 = sf_cd hp 84 253 := funext fun j => by
        unfold sf_cd
        rw [hrd 84 _ (by omega)]
      rw [e]
      exact i4
    · have e : sf_cd hp' 84 687 = sf_cd hp 84 687 := funext fun j => by
        unfold sf_cd
        rw [hrd 84 _ (by omega)]
      rw [e]
      exact i5
  · unfold sf_psi
    rw [hrd 69 4 (by omega), hrd 69 11 (by omega)]
    exact Int.le_refl _
/-- the heap with some cells more -/
def al_L (hp : ab_H) (cs : List ab_E) : ab_H := (hp.1 + cs.length, fun j => if j < hp.1 then hp.2 j else (cs[j - hp.1]?).getD (hp.2 j))
def al_t (t : Nat → Nat) (n : Nat) (gs : List Nat) (j : Nat) : Nat := if j < n then t j else gs.getD (j - n) 0
theorem al_tk {t : Nat → Nat} {n d : Nat} {gs : List Nat} : al_t t n gs (n + d) = gs.getD d 0 := by
  unfold al_t
  rw [if_neg (by omega), Nat.add_sub_cancel_left]
theorem al_at {hp : ab_H} {cs : List ab_E} {d : Nat} {c : ab_E} (h : cs[d]? = some c) : (al_L hp cs).2 (hp.1 + d) = c := by
  show (if hp.1 + d < hp.1 then _ else (cs[hp.1 + d - hp.1]?).getD _) = c
  rw [if_neg (by omega), Nat.add_sub_cancel_left, h]
  rfl
theorem al_new {hp : ab_H} {c : ab_E} : ab_push hp c = al_L hp [c] := by
  refine Prod.ext rfl (funext fun j => ?_)
  show (if j = hp.1 then c else hp.2 j) = (if j < hp.1 then hp.2 j else ([c][j - hp.1]?).getD (hp.2 j))
  by_cases e : j = hp.1
  · rw [if_pos e, if_neg (by omega), show j - hp.1 = 0 by omega]
    rfl
  · rw [if_neg e]
    by_cases e2 : j < hp.1
    · rw [if_pos e2]
    · rw [if_neg e2, List.getElem?_eq_none (by show 1 ≤ _; omega)]
      rfl
theorem al_push {hp : ab_H} {cs : List ab_E} {c : ab_E} : ab_push (al_L hp cs) c = al_L hp (cs ++ [c]) := by
  refine Prod.ext (by show hp.1 + cs.length + 1 = hp.1 + (cs ++ [c]).length; rw [List.length_append]; rfl) (funext fun j => ?_)
  show (if j = hp.1 + cs.length then c else (if j < hp.1 then hp.2 j else (cs[j - hp.1]?).getD (hp.2 j))) = (if j < hp.1 then hp.2 j else ((cs ++ [c])[j - hp.1]?).getD (hp.2 j))
  by_cases e : j = hp.1 + cs.length
  · rw [if_pos e, if_neg (by omega), show j - hp.1 = cs.length by omega, List.getElem?_append_right (Nat.le_refl _), Nat.sub_self]
    rfl
  · rw [if_neg e]
    by_cases e2 : j < hp.1
    · rw [if_pos e2, if_pos e2]
    · rw [if_neg e2, if_neg e2]
      by_cases e3 : j - hp.1 < cs.length
      · rw [List.getElem?_append_left e3]
      · rw [List.getElem?_eq_none (by omega), List.getElem?_eq_none (by rw [List.length_append]; show cs.length + 1 ≤ _; omega)]
theorem al_up {hp : ab_H} {cs : List ab_E} {k : Nat} {c : ab_E} (hk : k < cs.length) : ab_up (al_L hp cs) (hp.1 + k) c = al_L hp (cs.set k c) := by
  refine Prod.ext (by show hp.1 + cs.length = hp.1 + (cs.set k c).length; rw [List.length_set]) (funext fun j => ?_)
  show (if j = hp.1 + k then c else (if j < hp.1 then hp.2 j else (cs[j - hp.1]?).getD (hp.2 j))) = (if j < hp.1 then hp.2 j else ((cs.set k c)[j - hp.1]?).getD (hp.2 j))
  by_cases e : j = hp.1 + k
  · rw [if_pos e, if_neg (by omega), show j - hp.1 = k by omega, List.getElem?_set_self hk]
    rfl
  · rw [if_neg e]
    by_cases e2 : j < hp.1
    · rw [if_pos e2, if_pos e2]
    · rw [if_neg e2, if_neg e2, List.getElem?_set_ne (by omega)]
theorem al_nest {hp : ab_H} {cs ds : List ab_E} : al_L (al_L hp cs) ds = al_L hp (cs ++ ds) := by
  refine Prod.ext (by show hp.1 + cs.length + ds.length = hp.1 + (cs ++ ds).length; rw [List.length_append]; omega) (funext fun j => ?_)
  show (if j < hp.1 + cs.length then (if j < hp.1 then hp.2 j else (cs[j - hp.1]?).getD (hp.2 j)) else (ds[j - (hp.1 + cs.length)]?).getD (if j < hp.1 then hp.2 j else (cs[j - hp.1]?).getD (hp.2 j))) = (if j < hp.1 then hp.2 j else ((cs ++ ds)[j - hp.1]?).getD (hp.2 j))
  by_cases e2 : j < hp.1
  · rw [if_pos e2, if_pos e2, if_pos (by omega)]
  · rw [if_neg e2, if_neg e2]
    by_cases e3 : j < hp.1 + cs.length
    · rw [if_pos e3, List.getElem?_append_left (by omega)]
    · rw [if_neg e3, List.getElem?_append_right (by omega), show j - hp.1 - cs.length = j - (hp.1 + cs.length) by omega, List.getElem?_eq_none (show cs.length ≤ j - hp.1 by omega)]
      rfl
abbrev al_i (n : Nat) : ab_E := .inl (1, n, .inl (fun _ => 0))
abbrev al_l (n : Nat) : ab_E := .inl (2, n, .inr (.inl (fun _ => 0)))
theorem al_e0 {t : Nat → Nat} {n g m : Nat} {l h : Int} {j : Nat} (he : (sf_A g).2.2 = [(m, (0, l, h))]) (hl : l ≤ 0) (hh : 0 ≤ h) (hj : j < m) : sf_v t n (sf_e (sf_A g).2.2 j) (.int 0) := by
  rw [he]
  show sf_v t n (cond (decide (j < m)) (0, l, h) _) _
  rw [decide_eq_true hj]
  exact ⟨rfl, hl, hh⟩
/-- one array more, put into a field -/
theorem al_step {T : Nat → Option ab_A} {p0 p1 p2 p3 p4 : Nat} {u : Nat × Nat} {hp : ab_H} {Q : ab_O → Prop} {ci k t0 MC MS len : Nat} {fs : List Value} {cs : List ab_E} {v : Int32} {a0 : Nat → vp_A} (h0 : T p0 = some (ab_nx p1 (ab_aload 0))) (h1 : T p1 = some (ab_nx p2 (ab_lit (.int v)))) (h2 : T p2 = some (ab_nx p3 (ab_newa t0 a0 MC MS))) (h3 : T p3 = some (ab_nx p4 (ab_putf ci k 2)))
    (hv : v.toNatClampNeg = len) (hb : (!(decide (v < 0)) && decide (v.toNatClampNeg ≤ 1000000) && decide (u.1 + 1 ≤ MC) && decide (u.2 + v.toNatClampNeg ≤ MS)) = true) (hk : k < fs.length) (h : Ev T p4 ([some (.ref hp.1)], [], (u.1 + 1, u.2 + len), al_L hp (.inr (ci, fs.set k (.ref (hp.1 + (cs.length + 1)))) :: (cs ++ [.inl (t0, a0 len)]))) Q) : Ev T p0 ([some (.ref hp.1)], [], u, al_L hp (.inr (ci, fs) :: cs)) Q := by
  subst hv
  refine Ev.step h0 rfl ?_
  refine Ev.step h1 rfl ?_
  refine Ev.nx (s' := ([some (.ref hp.1)], [.ref (al_L hp (.inr (ci, fs) :: cs)).1, .ref hp.1], (u.1 + 1, u.2 + v.toNatClampNeg), ab_push (al_L hp (.inr (ci, fs) :: cs)) (.inl (t0, a0 v.toNatClampNeg)))) h2 ?_ ?_
  · unfold ab_newa
    dsimp only
    rw [hb]
    rfl
  · rw [al_push]
    refine Ev.putf (fs := fs) h3 (show hp.1 < hp.1 + _ by rw [List.length_append]; show hp.1 < hp.1 + (cs.length + 1 + 1); omega) (al_at (d := 0) rfl) hk rfl ?_
    have e := al_up (hp := hp) (cs := .inr (ci, fs) :: cs ++ [.inl (t0, a0 v.toNatClampNeg)]) (k := 0) (c := .inr (ci, fs.set k (.ref (al_L hp (.inr (ci, fs) :: cs)).1))) (by show 0 < _ + 1; omega)
    rw [show hp.1 + 0 = hp.1 from rfl] at e
    rw [e]
    exact h
theorem al_putf {T : Nat → Option ab_A} {p0 p1 : Nat} {u : Nat × Nat} {hp : ab_H} {Q : ab_O → Prop} {ci k kd : Nat} {fs : List Value} {cs : List ab_E} {v : Value} {lo : List (Option Value)} {st : List Value} (h0 : T p0 = some (ab_nx p1 (ab_putf ci k kd))) (hk : k < fs.length) (hf : ab_fit kd v = true) (h : Ev T p1 (lo, st, u, al_L hp (.inr (ci, fs.set k v) :: cs)) Q) : Ev T p0 (lo, v :: .ref hp.1 :: st, u, al_L hp (.inr (ci, fs) :: cs)) Q := by
  refine Ev.putf (fs := fs) h0 (show hp.1 < hp.1 + (cs.length + 1) by omega) (al_at (d := 0) rfl) hk hf ?_
  have e := al_up (hp := hp) (cs := .inr (ci, fs) :: cs) (k := 0) (c := .inr (ci, fs.set k v)) (by show 0 < _ + 1; omega)
  rw [show hp.1 + 0 = hp.1 from rfl] at e
  rw [e]
  exact h
/-- new, dup, init -/
theorem al_call {T : Nat → Option ab_A} {p0 p1 p2 p3 MC MS ci N mc ms : Nat} {X : List Value → ab_H → Option ab_O} {fs : List Value} {lo : List (Option Value)} {st : List Value} {u : Nat × Nat} {hp : ab_H} {cs ds : List ab_E} {Q : ab_O → Prop} (h0 : T p0 = some (ab_nx p1 (ab_new ci N fs MC MS))) (h1 : T p1 = some (ab_nx p2 ab_dup)) (h2 : T p2 = some (ab_nx p3 (ab_call 1 X mc ms MC MS))) (hu : (decide (u.1 + 1 ≤ MC) && decide (u.2 + N ≤ MS)) = true) (hu2 : (decide (1 ≤ st.length + 1 + 1) && decide (ab_cats (.ref (al_L hp cs).1 :: st) ≤ 8) && decide (u.1 + 1 + mc ≤ MC) && decide (u.2 + N + ms ≤ MS)) = true) (hn : X [.ref (al_L hp cs).1] (ab_push (al_L hp cs) (.inr (ci, fs))) = some (none, al_L (al_L hp cs) ds)) (h : Ev T p3 (lo, .ref (hp.1 + cs.length) :: st, (u.1 + 1 + mc, u.2 + N + ms), al_L hp (cs ++ ds)) Q) : Ev T p0 (lo, st, u, al_L hp cs) Q := by
  refine Ev.nx h0 (s' := (lo, .ref (al_L hp cs).1 :: st, (u.1 + 1, u.2 + N), ab_push (al_L hp cs) (.inr (ci, fs)))) (by unfold ab_new; dsimp only; rw [hu]; rfl) ?_
  refine Ev.step h1 rfl ?_
  refine Ev.call h2 hu2 hn ?_
  rw [al_nest]
  exact h
/-- cells of their kinds -/
theorem al_ok {t : Nat → Nat} {hp : ab_H} {gs : List Nat} {cs : List ab_E} (H : sf_h t hp) (hl : gs.length = cs.length) (hc : ∀ (d : Nat) (c : ab_E) (g : Nat), cs[d]? = some c → gs[d]? = some g → sf_c (al_t t hp.1 gs) (hp.1 + cs.length) g c ∧ sf_P g = none)
    (h5 : ∀ d : Nat, gs[d]? = some 5 → d + 2 < cs.length ∧ gs[d + 1]? = some 106 ∧ gs[d + 2]? = some 107 ∧ (∃ r q, cs[d]? = some (.inr (r, .ref (hp.1 + (d + 1)) :: .ref (hp.1 + (d + 2)) :: q)) ∧ r = r ∧ q = q) ∧ (∃ r q, cs[d + 1]? = some (.inl (r, q, .inl (fun _ => 0)))) ∧ (∃ r, cs[d + 2]? = some (.inl (r, 40, .inl (fun _ => 0))))) : sf_h (al_t t hp.1 gs) (al_L hp cs) ∧ sf_fr [] t hp (al_t t hp.1 gs) (al_L hp cs) := by
  refine sf_ext H (Nat.le_add_right _ _) (fun j hj => if_pos hj) (fun j hj => if_pos hj) (fun j h1 h2 => ?_) (fun j h1 h2 h3 => ?_)
  · obtain ⟨d, rfl⟩ : ∃ d, j = hp.1 + d := ⟨j - hp.1, by omega⟩
    have hd : d < cs.length := by
      have : hp.1 + d < hp.1 + cs.length := h2
      omega
    rw [al_tk, al_at (List.getElem?_eq_getElem hd)]
    have e : gs.getD d 0 = gs[d]'(by omega) := by rw [List.getD_eq_getElem?_getD, List.getElem?_eq_getElem (by omega)]; rfl
    rw [e]
    exact hc d _ _ (List.getElem?_eq_getElem hd) (List.getElem?_eq_getElem (by omega))
  · obtain ⟨d, rfl⟩ : ∃ d, j = hp.1 + d := ⟨j - hp.1, by omega⟩
    have hd : d < cs.length := by
      have : hp.1 + d < hp.1 + cs.length := h2
      omega
    rw [al_tk] at h3
    have e : gs[d]? = some 5 := by
      rw [List.getElem?_eq_getElem (by omega)]
      rw [List.getD_eq_getElem?_getD, List.getElem?_eq_getElem (by omega)] at h3
      exact congrArg some h3
    obtain ⟨q1, q2, q3, ⟨r, q, q4, -, -⟩, ⟨r1, r2, q5⟩, ⟨r3, q6⟩⟩ := h5 d e
    refine ⟨by show hp.1 + d + 2 < hp.1 + cs.length; omega, ?_, ?_, ?_, ?_, fun i hi x hx hx2 => ⟨0, ?_, Int.le_refl _, by decide⟩⟩
    · rw [Nat.add_assoc, al_tk, List.getD_eq_getElem?_getD, q2]
      rfl
    · rw [Nat.add_assoc, al_tk, List.getD_eq_getElem?_getD, q3]
      rfl
    · unfold sf_rr
      rw [al_at q4]
      rfl
    · unfold sf_rr
      rw [al_at q4]
      rfl
    · unfold sf_rd
      rw [Nat.add_assoc, al_at q6]
      show cond (decide (i < 40)) _ none = _
      rw [decide_eq_true hi]
      rfl
section BS
variable {T : Nat → Option ab_A} {i j : Nat} {lo : List (Option Value)} {st : List Value} {u : Nat × Nat} {hp : ab_H} {Q : ab_O → Prop} {t : Nat → Nat} {x y : Int32}
theorem bs_aald {a g g1 k : Nat} (hT : T i = some (ab_nx j (ab_aald (k + 4)))) (H : sf_h t hp) (hR : bs_R t hp a g) (hg : 100 ≤ g) (hk : (sf_A g).1 = k + 4) (he : (sf_A g).2.2 = [((sf_A g).2.1, (1, (g1 : Int), 1))]) (x0 : 0 ≤ x.toInt) (x1 : x.toInt < ((sf_A g).2.1 : Int)) (h0 : Ev T j (lo, .null :: st, u, hp) Q) (h1 : ∀ b, bs_R t hp b g1 → Ev T j (lo, .ref b :: st, u, hp) Q) : Ev T i (lo, .int x :: .ref a :: st, u, hp) Q := by
  obtain ⟨f, e1, e2, e3⟩ := sf_rarr H hR.1 hR.2 hg (by rw [hk]; omega)
  have en : x.toNatClampNeg = x.toInt.toNat := by
    have := n_idx x0
    omega
  have e4 := e3 x.toInt.toNat (by omega)
  rw [he] at e4
  have e5 : sf_v t hp.1 (1, (g1 : Int), 1) (ab_rf (f x.toInt.toNat)) := by
    have e6 : sf_v t hp.1 (cond (decide (x.toInt.toNat < (sf_A g).2.1)) (1, (g1 : Int), 1) (9, 0, 0)) (ab_rf (f x.toInt.toNat)) := e4
    rw [decide_eq_true (show x.toInt.toNat < (sf_A g).2.1 by omega)] at e6
    exact e6
  rw [hk] at e1
  refine Ev.nx hT (s' := (lo, ab_rf (f x.toInt.toNat) :: st, u, hp)) ?_ ?_
  · rw [← en]
    unfold ab_aald
    dsimp only
    rw [decide_eq_true hR.1, e1]
    dsimp only
    rw [n_in x0 x1, beq_self_eq_true]
    rfl
  · cases hf : f x.toInt.toNat with
    | none => exact h0
    | some b =>
      rw [hf] at e5
      exact h1 b ⟨e5.2.1, Int.ofNat.inj e5.2.2⟩
theorem bs_aast {W : List (Nat × Nat × Nat)} {a g gv v k ci : Nat} (hT : T i = some (ab_nx j (ab_aast (k + 4) ci))) (H : sf_h t hp) (hR : bs_R t hp a g) (hV : bs_R t hp v gv) (hg : 100 ≤ g) (hk : (sf_A g).1 = k + 4) (he : (sf_A g).2.2 = [((sf_A g).2.1, (1, (gv : Int), 1))]) (hci : sf_o gv = ci) (hW : sf_cv W g 0 0 = true) (hsp : sf_sp g 0 = false) (hgv : gv < 100) (x0 : 0 ≤ x.toInt) (x1 : x.toInt < ((sf_A g).2.1 : Int))
    (h : ∀ hp', sf_h t hp' → sf_fr W t hp t hp' → (∀ b q, sf_rd hp' b q = sf_rd hp b q) → (∀ b q, sf_rr hp' b q = sf_rr hp b q) → Ev T j (lo, st, u, hp') Q) : Ev T i (lo, .ref v :: .int x :: .ref a :: st, u, hp) Q := by
  obtain ⟨f, e1, e2, e3⟩ := sf_rarr H hR.1 hR.2 hg (by rw [hk]; omega)
  obtain ⟨cv1, cv2⟩ := sf_cv_ok hW
  have en : x.toNatClampNeg = x.toInt.toNat := by
    have := n_idx x0
    omega
  have e1' : hp.2 a = .inl (k + 4, (sf_A g).2.1, .inr (.inr (.inr (.inr f)))) := by rw [e1, hk]
  have hr : ∀ b q, sf_rd (ab_up hp a (.inl (k + 4, (sf_A g).2.1, .inr (.inr (.inr (.inr (va_up f x.toInt.toNat (some v)))))))) b q = sf_rd hp b q := by
    intro b q
    by_cases e : b = a
    · subst e
      unfold sf_rd
      rw [ab_up_eq, e1']
    · exact sf_rd_up_ne e
  have hrr : ∀ b q, sf_rr (ab_up hp a (.inl (k + 4, (sf_A g).2.1, .inr (.inr (.inr (.inr (va_up f x.toInt.toNat (some v)))))))) b q = sf_rr hp b q := by
    intro b q
    by_cases e : b = a
    · subst e
      unfold sf_rr
      rw [ab_up_eq, e1']
    · exact sf_rr_up_ne e
  have hI := sf_I_up H (i0 := 0) (i1 := 0) (c := .inl (k + 4, (sf_A g).2.1, .inr (.inr (.inr (.inr (va_up f x.toInt.toNat (some v))))))) (by rw [hR.2]; exact hsp) (fun q _ => hr a q) (fun h5 => absurd (hR.2.symm.trans h5) (by omega))
  have H' : sf_h t (ab_up hp a (.inl (k + 4, (sf_A g).2.1, .inr (.inr (.inr (.inr (va_up f x.toInt.toNat (some v)))))))) := by
    have := sf_rarr_put H hR.1 hR.2 hg (by rw [hk]; omega) e2 (f := va_up f x.toInt.toNat (some v)) (fun q hq => by
      by_cases e : q = x.toInt.toNat
      · have e7 : va_up f x.toInt.toNat (some v) q = some v := if_pos e
        rw [e7, he]
        show sf_v t hp.1 (cond (decide (q < (sf_A g).2.1)) (1, (gv : Int), 1) (9, 0, 0)) (.ref v)
        rw [decide_eq_true hq]
        exact ⟨rfl, hV.1, congrArg Int.ofNat hV.2⟩
      · have e7 : va_up f x.toInt.toNat (some v) q = f q := if_neg e
        rw [e7]
        exact e3 q hq) (by rw [hk]; exact hI)
    rw [hk] at this
    exact this
  have hcell := H.1 v hV.1
  rw [hV.2] at hcell
  have hvc : ∃ fs, hp.2 v = .inr (ci, fs) := by
    cases hc : hp.2 v with
    | inl z =>
      rw [hc] at hcell
      exact absurd hcell.1 (by omega)
    | inr o =>
      rw [hc] at hcell
      obtain ⟨o1, o2⟩ := o
      have : o1 = sf_o gv := hcell.1
      subst this
      exact ⟨o2, by rw [hci]⟩
  obtain ⟨fs, hvc⟩ := hvc
  refine Ev.nx hT (s' := (lo, st, u, ab_up hp a (.inl (k + 4, (sf_A g).2.1, .inr (.inr (.inr (.inr (va_up f x.toInt.toNat (some v))))))))) ?_ (h _ H' (sf_fr_up (i0 := 0) (i1 := 0) (by rw [hR.2]; exact cv1) cv2 (fun q _ => hr a q) (Or.inr (Or.inl (sf_n69 H hR.2 hg)))) hr hrr)
  rw [← en]
  unfold ab_aast
  dsimp only
  rw [decide_eq_true hR.1, decide_eq_true hV.1, e1', hvc]
  dsimp only
  rw [n_in x0 x1, beq_self_eq_true, beq_self_eq_true]
  rfl
end BS
abbrev al_c6 (hp : ab_H) : List ab_E := [.inr (6, [.ref (hp.1 + 1), .ref (hp.1 + 2), .ref (hp.1 + 3), .ref (hp.1 + 4), .ref (hp.1 + 5), .ref (hp.1 + 6), .ref (hp.1 + 7), .int 0, .int 0, .int 0]), al_i 12, al_i 12, al_i 12, al_i 12, al_i 8, al_i 8, al_i 64]
theorem run6 {hp : ab_H} : Z_X6_init [.ref hp.1] (ab_push hp (.inr (6, [.null, .null, .null, .null, .null, .null, .null, .int 0, .int 0, .int 0]))) = some (none, al_L hp (al_c6 hp)) := by
  rw [al_new]
  obtain ⟨hp', e, h⟩ := xX (L := L_X6_init) (nL := 1) (as := [.ref hp.1]) (hp0 := al_L hp [.inr (6, [.null, .null, .null, .null, .null, .null, .null, .int 0, .int 0, .int 0])]) (v := none) (P := fun x => x = al_L hp (al_c6 hp)) (Nat.le_of_ble_eq_true rfl) (by
    refine Ev.step rfl rfl ?_
    refine Ev.step rfl rfl ?_
    refine al_step (len := 12) rfl rfl rfl rfl rfl rfl (Nat.le_of_ble_eq_true rfl) ?_
    refine al_step (len := 12) rfl rfl rfl rfl rfl rfl (Nat.le_of_ble_eq_true rfl) ?_
    refine al_step (len := 12) rfl rfl rfl rfl rfl rfl (Nat.le_of_ble_eq_true rfl) ?_
    refine al_step (len := 12) rfl rfl rfl rfl rfl rfl (Nat.le_of_ble_eq_true rfl) ?_
    refine al_step (len := 8) rfl rfl rfl rfl rfl rfl (Nat.le_of_ble_eq_true rfl) ?_
    exact by
     refine al_step (len := 8) rfl rfl rfl rfl rfl rfl (Nat.le_of_ble_eq_true rfl) ?_
     refine al_step (len := 64) rfl rfl rfl rfl rfl rfl (Nat.le_of_ble_eq_true rfl) ?_
     exact Ev.ret rfl rfl ⟨rfl, rfl⟩)
  subst h
  exact e
theorem kd6 {hp : ab_H} {t : Nat → Nat} : ∀ (d : Nat) (c : ab_E) (g : Nat), (al_c6 hp)[d]? = some c → ([15, 109, 110, 111, 112, 113, 114, 115] : List Nat)[d]? = some g → sf_c (al_t t hp.1 [15, 109, 110, 111, 112, 113, 114, 115]) (hp.1 + 8) g c ∧ sf_P g = none := fun d c g hc hg => by
  match d, hc, hg with
  | 0, hc, hg =>
    cases hc; cases hg
    refine ⟨⟨rfl, by decide, fun i k hk => ?_⟩, rfl⟩
    match i, hk with
    | 0, hk => cases hk; exact ⟨_, rfl, rfl, (show hp.1 + 1 < hp.1 + 8 by omega), congrArg Int.ofNat (al_tk (d := 1))⟩
    | 1, hk => cases hk; exact ⟨_, rfl, rfl, (show hp.1 + 2 < hp.1 + 8 by omega), congrArg Int.ofNat (al_tk (d := 2))⟩
    | 2, hk => cases hk; exact ⟨_, rfl, rfl, (show hp.1 + 3 < hp.1 + 8 by omega), congrArg Int.ofNat (al_tk (d := 3))⟩
    | 3, hk => cases hk; exact ⟨_, rfl, rfl, (show hp.1 + 4 < hp.1 + 8 by omega), congrArg Int.ofNat (al_tk (d := 4))⟩
    | 4, hk => cases hk; exact ⟨_, rfl, rfl, (show hp.1 + 5 < hp.1 + 8 by omega), congrArg Int.ofNat (al_tk (d := 5))⟩
    | 5, hk => cases hk; exact ⟨_, rfl, rfl, (show hp.1 + 6 < hp.1 + 8 by omega), congrArg Int.ofNat (al_tk (d := 6))⟩
    | 6, hk => cases hk; exact ⟨_, rfl, rfl, (show hp.1 + 7 < hp.1 + 8 by omega), congrArg Int.ofNat (al_tk (d := 7))⟩
    | 7, hk => cases hk; exact ⟨_, rfl, rfl, by decide, by decide⟩
    | 8, hk => cases hk; exact ⟨_, rfl, rfl, by decide, by decide⟩
    | 9, hk => cases hk; exact ⟨_, rfl, rfl, by decide, by decide⟩
    | i + 10, hk => cases hk
  | 1, hc, hg =>
    cases hc; cases hg
    exact ⟨⟨by decide, rfl, rfl, by decide, by decide, fun j hj => al_e0 rfl (by decide) (by decide) hj⟩, rfl⟩
  | 2, hc, hg =>
    cases hc; cases hg
    exact ⟨⟨by decide, rfl, rfl, by decide, by decide, fun j hj => al_e0 rfl (by decide) (by decide) hj⟩, rfl⟩
  | 3, hc, hg =>
    cases hc; cases hg
    exact ⟨⟨by decide, rfl, rfl, by decide, by decide, fun j hj => al_e0 rfl (by decide) (by decide) hj⟩, rfl⟩
  | 4, hc, hg =>
    cases hc; cases hg
    exact ⟨⟨by decide, rfl, rfl, by decide, by decide, fun j hj => al_e0 rfl (by decide) (by decide) hj⟩, rfl⟩
  | 5, hc, hg =>
    cases hc; cases hg
    exact ⟨⟨by decide, rfl, rfl, by decide, by decide, fun j hj => al_e0 rfl (by decide) (by decide) hj⟩, rfl⟩
  | 6, hc, hg =>
    cases hc; cases hg
    exact ⟨⟨by decide, rfl, rfl, by decide, by decide, fun j hj => al_e0 rfl (by decide) (by decide) hj⟩, rfl⟩
  | 7, hc, hg =>
    cases hc; cases hg
    exact ⟨⟨by decide, rfl, rfl, by decide, by decide, fun j hj => al_e0 rfl (by decide) (by decide) hj⟩, rfl⟩
  | d + 8, hc, hg => cases hc
theorem nw6 {t : Nat → Nat} {hp : ab_H} (H : sf_h t hp) : ∃ hp' t' b, (b = hp.1 ∧ Z_X6_init [.ref hp.1] (ab_push hp (.inr (6, [.null, .null, .null, .null, .null, .null, .null, .int 0, .int 0, .int 0]))) = some (none, hp')) ∧ sf_h t' hp' ∧ sf_fr [] t hp t' hp' ∧ bs_R t' hp' b 15 := by
  have h := al_ok (gs := [15, 109, 110, 111, 112, 113, 114, 115]) (cs := al_c6 hp) H rfl kd6 (fun d hd => by match d, hd with | 0, hd => cases hd | 1, hd => cases hd | 2, hd => cases hd | 3, hd => cases hd | 4, hd => cases hd | 5, hd => cases hd | 6, hd => cases hd | 7, hd => cases hd | d + 8, hd => cases hd)
  exact ⟨_, _, _, ⟨rfl, run6⟩, h.1, h.2, (show hp.1 < hp.1 + 8 by omega), al_tk (d := 0)⟩
theorem nw6_ev {T : Nat → Option ab_A} {p0 p1 p2 p3 MC MS b : Nat} {lo : List (Option Value)} {st : List Value} {u : Nat × Nat} {hp hp' : ab_H} {Q : ab_O → Prop} (h0 : T p0 = some (ab_nx p1 (ab_new 6 10 [.null, .null, .null, .null, .null, .null, .null, .int 0, .int 0, .int 0] MC MS))) (h1 : T p1 = some (ab_nx p2 ab_dup)) (h2 : T p2 = some (ab_nx p3 (ab_call 1 Z_X6_init 7 128 MC MS))) (hu : (decide (u.1 + 1 ≤ MC) && decide (u.2 + 10 ≤ MS) && decide (ab_cats (.ref hp.1 :: st) ≤ 8) && decide (u.1 + 1 + 7 ≤ MC) && decide (u.2 + 10 + 128 ≤ MS)) = true) (hn : b = hp.1 ∧ Z_X6_init [.ref hp.1] (ab_push hp (.inr (6, [.null, .null, .null, .null, .null, .null, .null, .int 0, .int 0, .int 0]))) = some (none, hp')) (h : Ev T p3 (lo, .ref b :: st, (u.1 + 1 + 7, u.2 + 10 + 128), hp') Q) : Ev T p0 (lo, st, u, hp) Q := by
  obtain ⟨rfl, hn⟩ := hn
  rw [Bool.and_eq_true, Bool.and_eq_true, Bool.and_eq_true, Bool.and_eq_true] at hu
  obtain ⟨⟨⟨⟨u1, u2⟩, u3⟩, u4⟩, u5⟩ := hu
  refine Ev.nx h0 (s' := (lo, .ref hp.1 :: st, (u.1 + 1, u.2 + 10), ab_push hp _)) (by unfold ab_new; dsimp only; rw [u1, u2]; rfl) ?_
  refine Ev.step h1 rfl ?_
  refine Ev.call h2 ?_ hn h
  show (decide (1 ≤ st.length + 1 + 1) && decide (ab_cats (.ref hp.1 :: st) ≤ 8) && decide (u.1 + 1 + 7 ≤ MC) && decide (u.2 + 10 + 128 ≤ MS)) = true
  rw [u3, u4, u5, decide_eq_true (by omega)]
  rfl
abbrev al_c7 (hp : ab_H) : List ab_E := [.inr (7, [.ref (hp.1 + 1), .ref (hp.1 + 2), .ref (hp.1 + 3), .ref (hp.1 + 4), .ref (hp.1 + 5), .ref (hp.1 + 6), .ref (hp.1 + 7), .int 10, .int 0, .int 0, .int 0, .int 0, .long 0]), al_l 6, al_l 8, al_i 8, al_i 48, al_i 20, al_i 20, al_i 20]
theorem run7 {hp : ab_H} : Z_X7_init [.ref hp.1] (ab_push hp (.inr (7, [.null, .null, .null, .null, .null, .null, .null, .int 0, .int 0, .int 0, .int 0, .int 0, .long 0]))) = some (none, al_L hp (al_c7 hp)) := by
  rw [al_new]
  obtain ⟨hp', e, h⟩ := xX (L := L_X7_init) (nL := 1) (as := [.ref hp.1]) (hp0 := al_L hp [.inr (7, [.null, .null, .null, .null, .null, .null, .null, .int 0, .int 0, .int 0, .int 0, .int 0, .long 0])]) (v := none) (P := fun x => x = al_L hp (al_c7 hp)) (Nat.le_of_ble_eq_true rfl) (by
    refine Ev.step rfl rfl ?_
    refine Ev.step rfl rfl ?_
    refine al_step (len := 6) rfl rfl rfl rfl rfl rfl (Nat.le_of_ble_eq_true rfl) ?_
    refine al_step (len := 8) rfl rfl rfl rfl rfl rfl (Nat.le_of_ble_eq_true rfl) ?_
    refine al_step (len := 8) rfl rfl rfl rfl rfl rfl (Nat.le_of_ble_eq_true rfl) ?_
    refine al_step (len := 48) rfl rfl rfl rfl rfl rfl (Nat.le_of_ble_eq_true rfl) ?_
    refine al_step (len := 20) rfl rfl rfl rfl rfl rfl (Nat.le_of_ble_eq_true rfl) ?_
    exact by
     refine al_step (len := 20) rfl rfl rfl rfl rfl rfl (Nat.le_of_ble_eq_true rfl) ?_
     refine al_step (len := 20) rfl rfl rfl rfl rfl rfl (Nat.le_of_ble_eq_true rfl) ?_
     refine Ev.step rfl rfl ?_
     refine Ev.step rfl rfl ?_
     refine al_putf rfl (Nat.le_of_ble_eq_true rfl) rfl ?_
     exact Ev.ret rfl rfl ⟨rfl, rfl⟩)
  subst h
  exact e
abbrev al_c5 (hp : ab_H) : List ab_E := [.inr (5, [.ref (hp.1 + 1), .ref (hp.1 + 2), .ref (hp.1 + 3), .int 0, .int 0, .int 0]), al_i 40, al_i 40, al_i 40]
theorem run5 {hp : ab_H} : Z_X5_init [.ref hp.1] (ab_push hp (.inr (5, [.null, .null, .null, .int 0, .int 0, .int 0]))) = some (none, al_L hp (al_c5 hp)) := by
  rw [al_new]
  obtain ⟨hp', e, h⟩ := xX (L := L_X5_init) (nL := 1) (as := [.ref hp.1]) (hp0 := al_L hp [.inr (5, [.null, .null, .null, .int 0, .int 0, .int 0])]) (v := none) (P := fun x => x = al_L hp (al_c5 hp)) (Nat.le_of_ble_eq_true rfl) (by
    refine Ev.step rfl rfl ?_
    refine Ev.step rfl rfl ?_
    refine al_step (len := 40) rfl rfl rfl rfl rfl rfl (Nat.le_of_ble_eq_true rfl) ?_
    refine al_step (len := 40) rfl rfl rfl rfl rfl rfl (Nat.le_of_ble_eq_true rfl) ?_
    refine al_step (len := 40) rfl rfl rfl rfl rfl rfl (Nat.le_of_ble_eq_true rfl) ?_
    exact Ev.ret rfl rfl ⟨rfl, rfl⟩)
  subst h
  exact e
abbrev al_c3 (hp : ab_H) : List ab_E := [.inr (3, [.ref (hp.1 + 1), .ref (hp.1 + 9), .ref (hp.1 + 17)]), .inr (7, [.ref (hp.1 + 2), .ref (hp.1 + 3), .ref (hp.1 + 4), .ref (hp.1 + 5), .ref (hp.1 + 6), .ref (hp.1 + 7), .ref (hp.1 + 8), .int 10, .int 0, .int 0, .int 0, .int 0, .long 0]), al_l 6, al_l 8, al_i 8, al_i 48, al_i 20, al_i 20, al_i 20, .inr (6, [.ref (hp.1 + 10), .ref (hp.1 + 11), .ref (hp.1 + 12), .ref (hp.1 + 13), .ref (hp.1 + 14), .ref (hp.1 + 15), .ref (hp.1 + 16), .int 0, .int 0, .int 0]), al_i 12, al_i 12, al_i 12, al_i 12, al_i 8, al_i 8, al_i 64, .inr (5, [.ref (hp.1 + 18), .ref (hp.1 + 19), .ref (hp.1 + 20), .int 0, .int 0, .int 0]), al_i 40, al_i 40, al_i 40]
theorem run3 {hp : ab_H} : Z_X3_init [.ref hp.1] (ab_push hp (.inr (3, [.null, .null, .null]))) = some (none, al_L hp (al_c3 hp)) := by
  rw [al_new]
  obtain ⟨hp', e, h⟩ := xX (L := L_X3_init Z_X7_init Z_X6_init Z_X5_init) (nL := 1) (as := [.ref hp.1]) (hp0 := al_L hp [.inr (3, [.null, .null, .null])]) (v := none) (P := fun x => x = al_L hp (al_c3 hp)) (Nat.le_of_ble_eq_true rfl) (by
    refine Ev.step rfl rfl ?_
    refine Ev.step rfl rfl ?_
    refine Ev.step rfl rfl ?_
    refine al_call (ds := al_c7 _) rfl rfl rfl rfl rfl run7 ?_
    refine al_putf rfl (Nat.le_of_ble_eq_true rfl) rfl ?_
    refine Ev.step rfl rfl ?_
    refine al_call (ds := al_c6 _) rfl rfl rfl rfl rfl run6 ?_
    exact by
     refine al_putf rfl (Nat.le_of_ble_eq_true rfl) rfl ?_
     refine Ev.step rfl rfl ?_
     refine al_call (ds := al_c5 _) rfl rfl rfl rfl rfl run5 ?_
     refine al_putf rfl (Nat.le_of_ble_eq_true rfl) rfl ?_
     exact Ev.ret rfl rfl ⟨rfl, rfl⟩)
  subst h
  exact e
theorem kd3 {hp : ab_H} {t : Nat → Nat} : ∀ (d : Nat) (c : ab_E) (g : Nat), (al_c3 hp)[d]? = some c → ([3, 7, 116, 117, 118, 119, 120, 121, 122, 15, 109, 110, 111, 112, 113, 114, 115, 5, 106, 107, 108] : List Nat)[d]? = some g → sf_c (al_t t hp.1 [3, 7, 116, 117, 118, 119, 120, 121, 122, 15, 109, 110, 111, 112, 113, 114, 115, 5, 106, 107, 108]) (hp.1 + 21) g c ∧ sf_P g = none := fun d c g hc hg => by
  match d, hc, hg with
  | 0, hc, hg =>
    cases hc; cases hg
    refine ⟨⟨rfl, by decide, fun i k hk => ?_⟩, rfl⟩
    match i, hk with
    | 0, hk => cases hk; exact ⟨_, rfl, rfl, (show hp.1 + 1 < hp.1 + 21 by omega), congrArg Int.ofNat (al_tk (d := 1))⟩
    | 1, hk => cases hk; exact ⟨_, rfl, rfl, (show hp.1 + 9 < hp.1 + 21 by omega), congrArg Int.ofNat (al_tk (d := 9))⟩
    | 2, hk => cases hk; exact ⟨_, rfl, rfl, (show hp.1 + 17 < hp.1 + 21 by omega), congrArg Int.ofNat (al_tk (d := 17))⟩
    | i + 3, hk => cases hk
  | 1, hc, hg =>
    cases hc; cases hg
    refine ⟨⟨rfl, by decide, fun i k hk => ?_⟩, rfl⟩
    match i, hk with
    | 0, hk => cases hk; exact ⟨_, rfl, rfl, (show hp.1 + 2 < hp.1 + 21 by omega), congrArg Int.ofNat (al_tk (d := 2))⟩
    | 1, hk => cases hk; exact ⟨_, rfl, rfl, (show hp.1 + 3 < hp.1 + 21 by omega), congrArg Int.ofNat (al_tk (d := 3))⟩
    | 2, hk => cases hk; exact ⟨_, rfl, rfl, (show hp.1 + 4 < hp.1 + 21 by omega), congrArg Int.ofNat (al_tk (d := 4))⟩
    | 3, hk => cases hk; exact ⟨_, rfl, rfl, (show hp.1 + 5 < hp.1 + 21 by omega), congrArg Int.ofNat (al_tk (d := 5))⟩
    | 4, hk => cases hk; exact ⟨_, rfl, rfl, (show hp.1 + 6 < hp.1 + 21 by omega), congrArg Int.ofNat (al_tk (d := 6))⟩
    | 5, hk => cases hk; exact ⟨_, rfl, rfl, (show hp.1 + 7 < hp.1 + 21 by omega), congrArg Int.ofNat (al_tk (d := 7))⟩
    | 6, hk => cases hk; exact ⟨_, rfl, rfl, (show hp.1 + 8 < hp.1 + 21 by omega), congrArg Int.ofNat (al_tk (d := 8))⟩
    | 7, hk => cases hk; exact ⟨_, rfl, rfl, by decide, by decide⟩
    | 8, hk => cases hk; exact ⟨_, rfl, rfl, by decide, by decide⟩
    | 9, hk => cases hk; exact ⟨_, rfl, rfl, by decide, by decide⟩
    | 10, hk => cases hk; exact ⟨_, rfl, rfl, by decide, by decide⟩
    | 11, hk => cases hk; exact ⟨_, rfl, rfl, by decide, by decide⟩
    | 12, hk => cases hk; exact ⟨_, rfl, rfl⟩
    | i + 13, hk => cases hk
  | 2, hc, hg =>
    cases hc; cases hg
    exact ⟨⟨by decide, rfl, rfl, rfl⟩, rfl⟩
  | 3, hc, hg =>
    cases hc; cases hg
    exact ⟨⟨by decide, rfl, rfl, rfl⟩, rfl⟩
  | 4, hc, hg =>
    cases hc; cases hg
    exact ⟨⟨by decide, rfl, rfl, by decide, by decide, fun j hj => al_e0 rfl (by decide) (by decide) hj⟩, rfl⟩
  | 5, hc, hg =>
    cases hc; cases hg
    exact ⟨⟨by decide, rfl, rfl, by decide, by decide, fun j hj => al_e0 rfl (by decide) (by decide) hj⟩, rfl⟩
  | 6, hc, hg =>
    cases hc; cases hg
    exact ⟨⟨by decide, rfl, rfl, by decide, by decide, fun j hj => al_e0 rfl (by decide) (by decide) hj⟩, rfl⟩
  | 7, hc, hg =>
    cases hc; cases hg
    exact ⟨⟨by decide, rfl, rfl, by decide, by decide, fun j hj => al_e0 rfl (by decide) (by decide) hj⟩, rfl⟩
  | 8, hc, hg =>
    cases hc; cases hg
    exact ⟨⟨by decide, rfl, rfl, by decide, by decide, fun j hj => al_e0 rfl (by decide) (by decide) hj⟩, rfl⟩
  | 9, hc, hg =>
    cases hc; cases hg
    refine ⟨⟨rfl, by decide, fun i k hk => ?_⟩, rfl⟩
    match i, hk with
    | 0, hk => cases hk; exact ⟨_, rfl, rfl, (show hp.1 + 10 < hp.1 + 21 by omega), congrArg Int.ofNat (al_tk (d := 10))⟩
    | 1, hk => cases hk; exact ⟨_, rfl, rfl, (show hp.1 + 11 < hp.1 + 21 by omega), congrArg Int.ofNat (al_tk (d := 11))⟩
    | 2, hk => cases hk; exact ⟨_, rfl, rfl, (show hp.1 + 12 < hp.1 + 21 by omega), congrArg Int.ofNat (al_tk (d := 12))⟩
    | 3, hk => cases hk; exact ⟨_, rfl, rfl, (show hp.1 + 13 < hp.1 + 21 by omega), congrArg Int.ofNat (al_tk (d := 13))⟩
    | 4, hk => cases hk; exact ⟨_, rfl, rfl, (show hp.1 + 14 < hp.1 + 21 by omega), congrArg Int.ofNat (al_tk (d := 14))⟩
    | 5, hk => cases hk; exact ⟨_, rfl, rfl, (show hp.1 + 15 < hp.1 + 21 by omega), congrArg Int.ofNat (al_tk (d := 15))⟩
    | 6, hk => cases hk; exact ⟨_, rfl, rfl, (show hp.1 + 16 < hp.1 + 21 by omega), congrArg Int.ofNat (al_tk (d := 16))⟩
    | 7, hk => cases hk; exact ⟨_, rfl, rfl, by decide, by decide⟩
    | 8, hk => cases hk; exact ⟨_, rfl, rfl, by decide, by decide⟩
    | 9, hk => cases hk; exact ⟨_, rfl, rfl, by decide, by decide⟩
    | i + 10, hk => cases hk
  | 10, hc, hg =>
    cases hc; cases hg
    exact ⟨⟨by decide, rfl, rfl, by decide, by decide, fun j hj => al_e0 rfl (by decide) (by decide) hj⟩, rfl⟩
  | 11, hc, hg =>
    cases hc; cases hg
    exact ⟨⟨by decide, rfl, rfl, by decide, by decide, fun j hj => al_e0 rfl (by decide) (by decide) hj⟩, rfl⟩
  | 12, hc, hg =>
    cases hc; cases hg
    exact ⟨⟨by decide, rfl, rfl, by decide, by decide, fun j hj => al_e0 rfl (by decide) (by decide) hj⟩, rfl⟩
  | 13, hc, hg =>
    cases hc; cases hg
    exact ⟨⟨by decide, rfl, rfl, by decide, by decide, fun j hj => al_e0 rfl (by decide) (by decide) hj⟩, rfl⟩
  | 14, hc, hg =>
    cases hc; cases hg
    exact ⟨⟨by decide, rfl, rfl, by decide, by decide, fun j hj => al_e0 rfl (by decide) (by decide) hj⟩, rfl⟩
  | 15, hc, hg =>
    cases hc; cases hg
    exact ⟨⟨by decide, rfl, rfl, by decide, by decide, fun j hj => al_e0 rfl (by decide) (by decide) hj⟩, rfl⟩
  | 16, hc, hg =>
    cases hc; cases hg
    exact ⟨⟨by decide, rfl, rfl, by decide, by decide, fun j hj => al_e0 rfl (by decide) (by decide) hj⟩, rfl⟩
  | 17, hc, hg =>
    cases hc; cases hg
    refine ⟨⟨rfl, by decide, fun i k hk => ?_⟩, rfl⟩
    match i, hk with
    | 0, hk => cases hk; exact ⟨_, rfl, rfl, (show hp.1 + 18 < hp.1 + 21 by omega), congrArg Int.ofNat (al_tk (d := 18))⟩
    | 1, hk => cases hk; exact ⟨_, rfl, rfl, (show hp.1 + 19 < hp.1 + 21 by omega), congrArg Int.ofNat (al_tk (d := 19))⟩
    | 2, hk => cases hk; exact ⟨_, rfl, rfl, (show hp.1 + 20 < hp.1 + 21 by omega), congrArg Int.ofNat (al_tk (d := 20))⟩
    | 3, hk => cases hk; exact ⟨_, rfl, rfl, by decide, by decide⟩
    | 4, hk => cases hk; exact ⟨_, rfl, rfl, by decide, by decide⟩
    | 5, hk => cases hk; exact ⟨_, rfl, rfl, by decide, by decide⟩
    | i + 6, hk => cases hk
  | 18, hc, hg =>
    cases hc; cases hg
    exact ⟨⟨by decide, rfl, rfl, by decide, by decide, fun j hj => al_e0 rfl (by decide) (by decide) hj⟩, rfl⟩
  | 19, hc, hg =>
    cases hc; cases hg
    exact ⟨⟨by decide, rfl, rfl, by decide, by decide, fun j hj => al_e0 rfl (by decide) (by decide) hj⟩, rfl⟩
  | 20, hc, hg =>
    cases hc; cases hg
    exact ⟨⟨by decide, rfl, rfl, by decide, by decide, fun j hj => al_e0 rfl (by decide) (by decide) hj⟩, rfl⟩
  | d + 21, hc, hg => cases hc
theorem nw3 {t : Nat → Nat} {hp : ab_H} (H : sf_h t hp) : ∃ hp' t' b, (b = hp.1 ∧ Z_X3_init [.ref hp.1] (ab_push hp (.inr (3, [.null, .null, .null]))) = some (none, hp')) ∧ sf_h t' hp' ∧ sf_fr [] t hp t' hp' ∧ bs_R t' hp' b 3 := by
  have h := al_ok (gs := [3, 7, 116, 117, 118, 119, 120, 121, 122, 15, 109, 110, 111, 112, 113, 114, 115, 5, 106, 107, 108]) (cs := al_c3 hp) H rfl kd3 (fun d hd => by match d, hd with | 0, hd => cases hd | 1, hd => cases hd | 2, hd => cases hd | 3, hd => cases hd | 4, hd => cases hd | 5, hd => cases hd | 6, hd => cases hd | 7, hd => cases hd | 8, hd => cases hd | 9, hd => cases hd | 10, hd => cases hd | 11, hd => cases hd | 12, hd => cases hd | 13, hd => cases hd | 14, hd => cases hd | 15, hd => cases hd | 16, hd => cases hd | 17, hd => exact ⟨by show 17 + 2 < 21; decide, rfl, rfl, ⟨_, _, rfl, rfl, rfl⟩, ⟨_, _, rfl⟩, ⟨_, rfl⟩⟩ | 18, hd => cases hd | 19, hd => cases hd | 20, hd => cases hd | d + 21, hd => cases hd)
  exact ⟨_, _, _, ⟨rfl, run3⟩, h.1, h.2, (show hp.1 < hp.1 + 21 by omega), al_tk (d := 0)⟩
theorem nw3_ev {T : Nat → Option ab_A} {p0 p1 p2 p3 MC MS b : Nat} {lo : List (Option Value)} {st : List Value} {u : Nat × Nat} {hp hp' : ab_H} {Q : ab_O → Prop} (h0 : T p0 = some (ab_nx p1 (ab_new 3 3 [.null, .null, .null] MC MS))) (h1 : T p1 = some (ab_nx p2 ab_dup)) (h2 : T p2 = some (ab_nx p3 (ab_call 1 Z_X3_init 20 407 MC MS))) (hu : (decide (u.1 + 1 ≤ MC) && decide (u.2 + 3 ≤ MS) && decide (ab_cats (.ref hp.1 :: st) ≤ 8) && decide (u.1 + 1 + 20 ≤ MC) && decide (u.2 + 3 + 407 ≤ MS)) = true) (hn : b = hp.1 ∧ Z_X3_init [.ref hp.1] (ab_push hp (.inr (3, [.null, .null, .null]))) = some (none, hp')) (h : Ev T p3 (lo, .ref b :: st, (u.1 + 1 + 20, u.2 + 3 + 407), hp') Q) : Ev T p0 (lo, st, u, hp) Q := by
  obtain ⟨rfl, hn⟩ := hn
  rw [Bool.and_eq_true, Bool.and_eq_true, Bool.and_eq_true, Bool.and_eq_true] at hu
  obtain ⟨⟨⟨⟨u1, u2⟩, u3⟩, u4⟩, u5⟩ := hu
  refine Ev.nx h0 (s' := (lo, .ref hp.1 :: st, (u.1 + 1, u.2 + 3), ab_push hp _)) (by unfold ab_new; dsimp only; rw [u1, u2]; rfl) ?_
  refine Ev.step h1 rfl ?_
  refine Ev.call h2 ?_ hn h
  show (decide (1 ≤ st.length + 1 + 1) && decide (ab_cats (.ref hp.1 :: st) ≤ 8) && decide (u.1 + 1 + 20 ≤ MC) && decide (u.2 + 3 + 407 ≤ MS)) = true
  rw [u3, u4, u5, decide_eq_true (by omega)]
  rfl
end
-- 63.b03b.two.lean.txt
section
/-! ===== two cells at once: a Sentence's ops, a LogText's lines ===== -/
theorem tw_rd {hp : ab_H} {a n i : Nat} {f : Nat → Int32} (e : hp.2 a = .inl (1, n, .inl f)) (h : i < n) : sf_rd hp a i = some (f i).toInt := by
  unfold sf_rd
  rw [e]
  dsimp only
  rw [decide_eq_true h]
  rfl
theorem tw_h {t : Nat → Nat} {hp : ab_H} (H : sf_h t hp) {a b : Nat} {c d : ab_E} (hc : sf_c t hp.1 (t a) c) (hd : sf_c t hp.1 (t b) d) (hI : sf_IV t (ab_up (ab_up hp a c) b d)) : sf_h t (ab_up (ab_up hp a c) b d) := by
  refine ⟨fun q hq => ?_, H.2.1, H.2.2.1, hI⟩
  show sf_c t hp.1 (t q) (if q = b then d else (if q = a then c else hp.2 q))
  by_cases e : q = b
  · rw [if_pos e, e]
    exact hd
  · rw [if_neg e]
    by_cases e2 : q = a
    · rw [if_pos e2, e2]
      exact hc
    · rw [if_neg e2]
      exact H.1 q hq
theorem tw_any {t : Nat → Nat} {n g m : Nat} {f : Nat → Int32} {l h : Int} (hg : 100 ≤ g) (e1 : (sf_A g).1 = 1) (e2 : (sf_A g).2.1 = m) (e3 : (sf_A g).2.2 = [(m, (0, l, h))]) (hf : ∀ j, j < m → l ≤ (f j).toInt ∧ (f j).toInt ≤ h) : sf_c t n g (.inl (1, m, .inl f)) := by
  refine ⟨hg, e1.symm, e2.symm, (by decide : (1 : Nat) ≠ 2), (by decide : (1 : Nat) < 4), fun j hj => ?_⟩
  have hj' : j < m := hj
  rw [e3]
  show sf_v t n (cond (decide (j < m)) (0, l, h) _) _
  rw [decide_eq_true hj']
  exact ⟨rfl, (hf j hj').1, (hf j hj').2⟩
theorem tw_fr {t : Nat → Nat} {hp : ab_H} {a b g1 g2 m : Nat} {f f' d d' : Nat → Int32} (ta : t a = g1) (tb : t b = g2) (hne : b ≠ a) (ea : hp.2 a = .inl (1, m, .inl f')) (eb : hp.2 b = .inl (1, m, .inl d')) (hm : 0 < m) (na : a ≠ 69) (nb : b ≠ 69) : sf_fr [(g1, 0, m - 1), (g2, 0, m - 1)] t hp t (ab_up (ab_up hp a (.inl (1, m, .inl f))) b (.inl (1, m, .inl d))) := by
  have out : ∀ {h0 : ab_H} {c i : Nat} {k k' : Nat → Int32}, h0.2 c = .inl (1, m, .inl k') → ¬ (0 ≤ i ∧ i ≤ m - 1) → sf_rd (ab_up h0 c (.inl (1, m, .inl k))) c i = sf_rd h0 c i := fun {h0 c i k k'} e hi => by
    have hge : ¬ i < m := by omega
    rw [sf_rd_up_arr, decide_eq_false hge, cond_false]
    unfold sf_rd
    rw [e]
    dsimp only
    rw [decide_eq_false hge, cond_false]
  refine sf_fr_tr (t' := t) (hp' := ab_up hp a (.inl (1, m, .inl f))) (sf_fr_up (i0 := 0) (i1 := m - 1) (fun i h1 h2 => ?_) (Nat.zero_le _) (fun i hi => out ea hi) (Or.inr (Or.inl na))) (sf_fr_up (i0 := 0) (i1 := m - 1) (fun i h1 h2 => ?_) (Nat.zero_le _) (fun i hi => out ((ab_up_ne hne).trans eb) hi) (Or.inr (Or.inl nb)))
  · rw [ta]
    exact bs_in (g1, 0, m - 1) (List.mem_cons_self) rfl h1 h2
  · rw [tb]
    exact bs_in (g2, 0, m - 1) (List.mem_cons_of_mem _ List.mem_cons_self) rfl h1 h2
theorem x5_cell {t : Nat → Nat} {hp : ab_H} (H : sf_h t hp) {a : Nat} (ra : bs_R t hp a 5) : a + 2 < hp.1 ∧ t (a + 1) = 106 ∧ t (a + 2) = 107 ∧ ∃ fs A B, hp.2 a = .inr (5, fs) ∧ fs[0]? = some (.ref (a + 1)) ∧ fs[1]? = some (.ref (a + 2)) ∧ hp.2 (a + 1) = .inl (1, 40, .inl A) ∧ hp.2 (a + 2) = .inl (1, 40, .inl B) ∧ ∀ i, i < 40 → (A i).toInt ≤ 84 → 0 ≤ (B i).toInt ∧ (B i).toInt ≤ 1 := by
  obtain ⟨q1, q2, q3, q4, q5, q6⟩ := H.2.2.2.1 a ra.1 ra.2
  have l1 : a + 1 < hp.1 := by omega
  obtain ⟨fs, v, e1, e2, e3⟩ := sf_get H ra.1 ra.2 (by decide) (i := 0) (k := (1, 106, 0)) rfl
  obtain ⟨fs', v', e1', e2', e3'⟩ := sf_get H ra.1 ra.2 (by decide) (i := 1) (k := (1, 107, 0)) rfl
  have ef : fs' = fs := by
    rw [e1] at e1'
    cases e1'
    rfl
  subst ef
  obtain ⟨A, eA, -⟩ := sf_arr H l1 q2 (by decide) (by decide) (by decide)
  obtain ⟨B, eB, -⟩ := sf_arr H q1 q3 (by decide) (by decide) (by decide)
  have eA' : hp.2 (a + 1) = .inl (1, 40, .inl A) := eA
  have eB' : hp.2 (a + 2) = .inl (1, 40, .inl B) := eB
  unfold sf_rr at q4 q5
  rw [e1] at q4 q5
  dsimp only at q4 q5
  rw [e2] at q4
  rw [e2'] at q5
  refine ⟨q1, q2, q3, fs', A, B, e1, ?_, ?_, eA', eB', fun i hi hx => ?_⟩
  · cases v with
    | ref z =>
      have q : some z = some (a + 1) := q4
      rw [e2, Option.some.inj q]
    | int z => exact absurd (show (1 : Nat) = 0 from e3.1) (by decide)
    | long z => exact absurd (show (1 : Nat) = 2 from e3) (by decide)
    | null => exact absurd (show (0 : Int) = 1 from e3.2) (by decide)
    | _ => exact e3.elim
  · cases v' with
    | ref z =>
      have q : some z = some (a + 2) := q5
      rw [e2', Option.some.inj q]
    | int z => exact absurd (show (1 : Nat) = 0 from e3'.1) (by decide)
    | long z => exact absurd (show (1 : Nat) = 2 from e3') (by decide)
    | null => exact absurd (show (0 : Int) = 1 from e3'.2) (by decide)
    | _ => exact e3'.elim
  · obtain ⟨y, h1, h2, h3⟩ := q6 i hi _ (tw_rd eA' hi) hx
    rw [tw_rd eB' hi] at h1
    cases h1
    exact ⟨h2, h3⟩
theorem x5_two {t : Nat → Nat} {hp : ab_H} (H : sf_h t hp) {a : Nat} (ra : bs_R t hp a 5) {f1 f2 : Nat → Int32} (hf : ∀ i, i < 40 → (f1 i).toInt ≤ 84 → 0 ≤ (f2 i).toInt ∧ (f2 i).toInt ≤ 1) : sf_h t (ab_up (ab_up hp (a + 1) (.inl (1, 40, .inl f1))) (a + 2) (.inl (1, 40, .inl f2))) ∧ sf_fr [(106, 0, 39), (107, 0, 39)] t hp t (ab_up (ab_up hp (a + 1) (.inl (1, 40, .inl f1))) (a + 2) (.inl (1, 40, .inl f2))) := by
  obtain ⟨p1, p2, p3, fs, A, B, e1, e2, e3, e4, e5, -⟩ := x5_cell H ra
  obtain ⟨i1, i2, i3, i4, i5⟩ := H.2.2.2
  have h88 : 88 ≤ hp.1 := (H.2.2.1 148 87 rfl).1
  have u37 : t 37 = 103 := (H.2.2.1 103 37 rfl).2
  have u38 : t 38 = 104 := (H.2.2.1 104 38 rfl).2
  have u71 : t 71 = 132 := (H.2.2.1 132 71 rfl).2
  have u84 : t 84 = 145 := (H.2.2.1 145 84 rfl).2
  have u69 : t 69 = 11 := (H.2.2.1 11 69 rfl).2
  have ne : ∀ q, t q ≠ 106 → t q ≠ 107 → q ≠ a + 1 ∧ q ≠ a + 2 := fun q h1 h2 => ⟨fun e => h1 (e ▸ p2), fun e => h2 (e ▸ p3)⟩
  have rd : ∀ q i, q ≠ a + 1 → q ≠ a + 2 → sf_rd (ab_up (ab_up hp (a + 1) (.inl (1, 40, .inl f1))) (a + 2) (.inl (1, 40, .inl f2))) q i = sf_rd hp q i := fun q i h1 h2 => (sf_rd_up_ne h2).trans (sf_rd_up_ne h1)
  have rr : ∀ q i, q ≠ a + 1 → q ≠ a + 2 → sf_rr (ab_up (ab_up hp (a + 1) (.inl (1, 40, .inl f1))) (a + 2) (.inl (1, 40, .inl f2))) q i = sf_rr hp q i := fun q i h1 h2 => (sf_rr_up_ne h2).trans (sf_rr_up_ne h1)
  have c1 : (ab_up (ab_up hp (a + 1) (.inl (1, 40, .inl f1))) (a + 2) (.inl (1, 40, .inl f2))).2 (a + 1) = .inl (1, 40, .inl f1) := (ab_up_ne (by omega)).trans (ab_up_eq _ _ _)
  have c2 : (ab_up (ab_up hp (a + 1) (.inl (1, 40, .inl f1))) (a + 2) (.inl (1, 40, .inl f2))).2 (a + 2) = .inl (1, 40, .inl f2) := ab_up_eq _ _ _
  refine ⟨tw_h H (by rw [p2]; exact tw_any (by decide) rfl rfl rfl (fun j _ => n_range _)) (by rw [p3]; exact tw_any (by decide) rfl rfl rfl (fun j _ => n_range _)) ⟨fun q hq h5 => ?_, fun i hi hx => ?_, ?_, ?_, ?_⟩, tw_fr p2 p3 (by omega) e4 e5 (by decide) (fun e => by rw [e, u69] at p2; exact absurd p2 (by decide)) (fun e => by rw [e, u69] at p3; exact absurd p3 (by decide))⟩
  · obtain ⟨q1, q2, q3, q4, q5, q6⟩ := i1 q hq h5
    have nq := ne q (by rw [h5]; decide) (by rw [h5]; decide)
    refine ⟨q1, q2, q3, (rr q 0 nq.1 nq.2).trans q4, (rr q 1 nq.1 nq.2).trans q5, fun i hi x hx hx2 => ?_⟩
    by_cases e : q = a
    · subst e
      rw [tw_rd c1 hi] at hx
      cases hx
      exact ⟨_, tw_rd c2 hi, (hf i hi hx2).1, (hf i hi hx2).2⟩
    · have n1 : q + 1 ≠ a + 1 := by omega
      have n2 : q + 1 ≠ a + 2 := fun e => by
        rw [e, p3] at q2
        exact absurd q2 (by decide)
      have n3 : q + 2 ≠ a + 1 := fun e => by
        rw [e, p2] at q3
        exact absurd q3 (by decide)
      rw [rd _ i n1 n2] at hx
      rw [rd _ i n3 (by omega)]
      exact q6 i hi x hx hx2
  · have n1 := ne 37 (by rw [u37]; decide) (by rw [u37]; decide)
    have n2 := ne 38 (by rw [u38]; decide) (by rw [u38]; decide)
    rw [rd 37 i n1.1 n1.2] at hx
    rw [rd 38 i n2.1 n2.2]
    exact i2 i hi hx
  · have n1 := ne 71 (by rw [u71]; decide) (by rw [u71]; decide)
    have e : sf_cd (ab_up (ab_up hp (a + 1) (.inl (1, 40, .inl f1))) (a + 2) (.inl (1, 40, .inl f2))) 71 253 = sf_cd hp 71 253 := funext fun j => by
      unfold sf_cd
      rw [rd 71 _ n1.1 n1.2]
    rw [e]
    exact i3
  · have n1 := ne 84 (by rw [u84]; decide) (by rw [u84]; decide)
    have e : sf_cd (ab_up (ab_up hp (a + 1) (.inl (1, 40, .inl f1))) (a + 2) (.inl (1, 40, .inl f2))) 84 253 = sf_cd hp 84 253 := funext fun j => by
      unfold sf_cd
      rw [rd 84 _ n1.1 n1.2]
    rw [e]
    exact i4
  · have n1 := ne 84 (by rw [u84]; decide) (by rw [u84]; decide)
    have e : sf_cd (ab_up (ab_up hp (a + 1) (.inl (1, 40, .inl f1))) (a + 2) (.inl (1, 40, .inl f2))) 84 687 = sf_cd hp 84 687 := funext fun j => by
      unfold sf_cd
      rw [rd 84 _ n1.1 n1.2]
    rw [e]
    exact i5
theorem tw_cpy {f g : Nat → Int32} {i n : Nat} (h : i < n) : va_cpy f g 0 0 n i = f i := by
  unfold va_cpy
  rw [if_pos ⟨Nat.zero_le _, by rw [Nat.zero_add]; exact h⟩, Nat.zero_add, Nat.sub_zero]
/-- the first two copies of Sentence.copyFrom -/
theorem x5_cp {t : Nat → Nat} {hp : ab_H} {a b : Nat} {Q : ab_O → Prop} (H : sf_h t hp) (ra : bs_R t hp a 5) (rb : bs_R t hp b 5) (h : ∀ hp', sf_h t hp' → sf_fr [(106, 0, 39), (107, 0, 39)] t hp t hp' → Ev (ab_T L_X5_copyFrom) 30 ([some (.ref a), some (.ref b)], [], (0, 0), hp') Q) : Ev (ab_T L_X5_copyFrom) 0 ([some (.ref a), some (.ref b)], [], (0, 0), hp) Q := by
  obtain ⟨a1, a2, a3, fa, A, B, e1, e2, e3, e4, e5, -⟩ := x5_cell H ra
  obtain ⟨b1, b2, b3, fb, C, D, g1, g2, g3, g4, g5, g6⟩ := x5_cell H rb
  have na : a ≠ a + 1 := by omega
  have nb : b ≠ a + 1 := fun e => by
    have := rb.2
    rw [e, a2] at this
    exact absurd this (by decide)
  have nd : b + 2 ≠ a + 1 := fun e => by
    rw [e, a2] at b3
    exact absurd b3 (by decide)
  refine Ev.step (j := 1) (s' := ([some (.ref a), some (.ref b)], [.ref b], (0, 0), hp)) rfl rfl ?_
  refine Ev.getf rfl rb.1 g1 g2 ?_
  exact by
   refine Ev.step (j := 5) (s' := ([some (.ref a), some (.ref b)], [.int 0, .ref (b + 1)], (0, 0), hp)) rfl rfl ?_
   refine Ev.step (j := 6) (s' := ([some (.ref a), some (.ref b)], [.ref a, .int 0, .ref (b + 1)], (0, 0), hp)) rfl rfl ?_
   refine Ev.getf rfl ra.1 e1 e2 ?_
   refine Ev.step (j := 10) (s' := ([some (.ref a), some (.ref b)], [.int 0, .ref (a + 1), .int 0, .ref (b + 1)], (0, 0), hp)) rfl rfl ?_
   refine Ev.step (j := 12) (s' := ([some (.ref a), some (.ref b)], [.int 40, .int 0, .ref (a + 1), .int 0, .ref (b + 1)], (0, 0), hp)) rfl rfl ?_
   refine Ev.nx (j := 15) rfl (cp_i (len := 40) (show a + 1 < hp.1 by omega) (show b + 1 < hp.1 by omega) (by decide) (by decide) (by decide) (by decide) rfl g4 e4 rfl rfl rfl) ?_
   refine Ev.step (j := 16) (s' := ([some (.ref a), some (.ref b)], [.ref b], (0, 0), _)) rfl rfl ?_
   refine Ev.getf (fs := fb) rfl rb.1 ((ab_up_ne nb).trans g1) g3 ?_
   exact by
    refine Ev.step (j := 20) (s' := ([some (.ref a), some (.ref b)], [.int 0, .ref (b + 2)], (0, 0), _)) rfl rfl ?_
    refine Ev.step (j := 21) (s' := ([some (.ref a), some (.ref b)], [.ref a, .int 0, .ref (b + 2)], (0, 0), _)) rfl rfl ?_
    refine Ev.getf (fs := fa) rfl ra.1 ((ab_up_ne na).trans e1) e3 ?_
    refine Ev.step (j := 25) (s' := ([some (.ref a), some (.ref b)], [.int 0, .ref (a + 2), .int 0, .ref (b + 2)], (0, 0), _)) rfl rfl ?_
    refine Ev.step (j := 27) (s' := ([some (.ref a), some (.ref b)], [.int 40, .int 0, .ref (a + 2), .int 0, .ref (b + 2)], (0, 0), _)) rfl rfl ?_
    refine Ev.nx (j := 30) rfl (cp_i (len := 40) (f := D) (f' := B) (show a + 2 < hp.1 from a1) (show b + 2 < hp.1 from b1) (by decide) (by decide) (by decide) (by decide) rfl ((ab_up_ne nd).trans g5) ((ab_up_ne (by omega)).trans e5) rfl rfl rfl) ?_
    have k := x5_two H ra (f1 := va_cpy C A 0 0 40) (f2 := va_cpy D B 0 0 40) (fun i hi hx => by
      rw [tw_cpy hi] at hx
      rw [tw_cpy hi]
      exact g6 i hi hx)
    exact h _ k.1 k.2
section BS
variable {T : Nat → Option ab_A} {i j : Nat} {lo : List (Option Value)} {st : List Value} {u : Nat × Nat} {hp : ab_H} {Q : ab_O → Prop} {t : Nat → Nat} {x y : Int32}
/-- a whole array of ints copied -/
theorem bs_copyI {W : List (Nat × Nat × Nat)} {a b g : Nat} {c dp sp : Int32} (hT : T i = some (ab_nx j ab_copy)) (H : sf_h t hp) (ra : bs_R t hp a g) (rb : bs_R t hp b g) (hg : 100 ≤ g) (hk : (sf_A g).1 = 1) (hW : sf_cv W g 0 ((sf_A g).2.1 - 1) = true) (hspc : sf_sp g ((sf_A g).2.1 - 1) = false) (hcat : ab_cats st ≤ 8) (hu : u.1 = 0) (hc : c.toInt = ((sf_A g).2.1 : Int)) (hd : dp.toInt = 0) (hs : sp.toInt = 0) (h : ∀ hp', sf_h t hp' → sf_fr W t hp t hp' → Ev T j (lo, st, u, hp') Q) : Ev T i (lo, .int c :: .int dp :: .ref a :: .int sp :: .ref b :: st, u, hp) Q := by
  obtain ⟨f, e1, e2⟩ := sf_arr H rb.1 rb.2 hg (by rw [hk]; decide) (by rw [hk]; decide)
  obtain ⟨f', e3, -⟩ := sf_arr H ra.1 ra.2 hg (by rw [hk]; decide) (by rw [hk]; decide)
  rw [hk] at e1 e3
  obtain ⟨cv1, cv2⟩ := sf_cv_ok hW
  have hr := cp_rd (f := f) (t := t) ra.2 e3
  have H' := cp_put H ra.1 ra.2 hg hk (f' := f') e2 (sf_I_up H (by rw [ra.2]; exact hspc) (fun q hq => hr a q ra.1 (fun _ => hq)) (fun h5 => absurd (ra.2.symm.trans h5) (by omega)))
  have hcc : c.toNatClampNeg = (sf_A g).2.1 := by
    have := n_idx (x := c) (by omega)
    omega
  refine Ev.nx hT (cp_i ra.1 rb.1 hcat (n_nn (by omega)) (n_nn (by omega)) (n_nn (by omega)) hu e1 e3 (n_z hs) (n_z hd) hcc) (h _ H' (sf_fr_up (by rw [ra.2]; exact cv1) cv2 (fun q hq => hr a q ra.1 (fun _ => hq)) (Or.inr (Or.inl (sf_n69 H ra.2 hg)))))
end BS
/-- the first two stores of Sentence.addOp -/
theorem x5_add {t : Nat → Nat} {hp : ab_H} {a : Nat} {x1 x2 x3 z : Int32} {Q : ab_O → Prop} (H : sf_h t hp) (ra : bs_R t hp a 5) (hz : sf_rd hp a 3 = some z.toInt) (z0 : 0 ≤ z.toInt) (z1 : z.toInt < 40) (hx : x1.toInt ≤ 84 → 0 ≤ x2.toInt ∧ x2.toInt ≤ 1) (h : ∀ hp', sf_h t hp' → sf_fr [(106, 0, 39), (107, 0, 39)] t hp t hp' → Ev (ab_T L_X5_addOp) 31 ([some (.ref a), some (.int x1), some (.int x2), some (.int x3)], [], (0, 0), hp') Q) : Ev (ab_T L_X5_addOp) 11 ([some (.ref a), some (.int x1), some (.int x2), some (.int x3)], [], (0, 0), hp) Q := by
  obtain ⟨a1, a2, a3, fa, A, B, e1, e2, e3, e4, e5, e6⟩ := x5_cell H ra
  have na : a ≠ a + 1 := by omega
  have hv : fa[3]? = some (.int z) := by
    unfold sf_rd at hz
    rw [e1] at hz
    have hz' : sf_iv fa[3]? = some z.toInt := hz
    cases hq : fa[3]? with
    | none =>
      rw [hq] at hz'
      cases hz'
    | some v =>
      rw [hq] at hz'
      cases v with
      | int w =>
        have q : some w.toInt = some z.toInt := hz'
        rw [Int32.toInt_inj.mp (Option.some.inj q)]
      | _ => cases hz'
  have hin : ab_in z 40 = true := n_in z0 (by omega)
  have en : z.toNatClampNeg = z.toInt.toNat := by
    have := n_idx z0
    omega
  refine Ev.step (j := 12) (s' := ([some (.ref a), some (.int x1), some (.int x2), some (.int x3)], [.ref a], (0, 0), hp)) rfl rfl ?_
  exact by
   refine Ev.getf rfl ra.1 e1 e2 ?_
   refine Ev.step (j := 16) (s' := ([some (.ref a), some (.int x1), some (.int x2), some (.int x3)], [.ref a, .ref (a + 1)], (0, 0), hp)) rfl rfl ?_
   refine Ev.getf rfl ra.1 e1 hv ?_
   refine Ev.step (j := 20) (s' := ([some (.ref a), some (.int x1), some (.int x2), some (.int x3)], [.int x1, .int z, .ref (a + 1)], (0, 0), hp)) rfl rfl ?_
   refine Ev.ast rfl (show a + 1 < hp.1 by omega) e4 hin ?_
   refine Ev.step (j := 22) (s' := ([some (.ref a), some (.int x1), some (.int x2), some (.int x3)], [.ref a], (0, 0), _)) rfl rfl ?_
   refine Ev.getf (fs := fa) rfl ra.1 ((ab_up_ne na).trans e1) e3 ?_
   refine Ev.step (j := 26) (s' := ([some (.ref a), some (.int x1), some (.int x2), some (.int x3)], [.ref a, .ref (a + 2)], (0, 0), _)) rfl rfl ?_
   exact by
    refine Ev.getf (fs := fa) rfl ra.1 ((ab_up_ne na).trans e1) hv ?_
    refine Ev.step (j := 30) (s' := ([some (.ref a), some (.int x1), some (.int x2), some (.int x3)], [.int x2, .int z, .ref (a + 2)], (0, 0), _)) rfl rfl ?_
    refine Ev.ast (f := B) rfl a1 ((ab_up_ne (by omega)).trans e5) hin ?_
    have k := x5_two H ra (f1 := upd A z.toNatClampNeg x1) (f2 := upd B z.toNatClampNeg x2) (fun q hq hx2 => by
      by_cases e : q = z.toNatClampNeg
      · have k1 : upd A z.toNatClampNeg x1 q = x1 := if_pos e
        have k2 : upd B z.toNatClampNeg x2 q = x2 := if_pos e
        rw [k1] at hx2
        rw [k2]
        exact hx hx2
      · have k1 : upd A z.toNatClampNeg x1 q = A q := if_neg e
        have k2 : upd B z.toNatClampNeg x2 q = B q := if_neg e
        rw [k1] at hx2
        rw [k2]
        exact e6 q hq hx2)
    exact h _ k.1 k.2
theorem x4_cell {t : Nat → Nat} {hp : ab_H} (H : sf_h t hp) : 88 ≤ hp.1 ∧ t 37 = 103 ∧ t 38 = 104 ∧ ∃ fs A B, hp.2 36 = .inr (4, fs) ∧ fs[0]? = some (.ref 37) ∧ fs[1]? = some (.ref 38) ∧ hp.2 37 = .inl (1, 40, .inl A) ∧ hp.2 38 = .inl (1, 40, .inl B) ∧ (∀ i, i < 40 → (A i).toInt = 3 → (B i).toInt ≤ 7) ∧ (∀ i, i < 40 → 0 ≤ (A i).toInt ∧ (A i).toInt ≤ 4) ∧ (∀ i, i < 40 → 0 ≤ (B i).toInt ∧ (B i).toInt ≤ 11) := by
  have h88 : 88 ≤ hp.1 := (H.2.2.1 148 87 rfl).1
  obtain ⟨l36, u36⟩ := H.2.2.1 4 36 rfl
  obtain ⟨l37, u37⟩ := H.2.2.1 103 37 rfl
  obtain ⟨l38, u38⟩ := H.2.2.1 104 38 rfl
  obtain ⟨fs, v, e1, e2, e3⟩ := sf_get H l36 u36 (by decide) (i := 0) (k := (1, 103, 0)) rfl
  obtain ⟨fs', v', e1', e2', e3'⟩ := sf_get H l36 u36 (by decide) (i := 1) (k := (1, 104, 0)) rfl
  have ef : fs' = fs := by
    rw [e1] at e1'
    cases e1'
    rfl
  subst ef
  obtain ⟨A, eA, kA⟩ := sf_arr H l37 u37 (by decide) (by decide) (by decide)
  obtain ⟨B, eB, kB⟩ := sf_arr H l38 u38 (by decide) (by decide) (by decide)
  have eA' : hp.2 37 = .inl (1, 40, .inl A) := eA
  have eB' : hp.2 38 = .inl (1, 40, .inl B) := eB
  refine ⟨h88, u37, u38, fs', A, B, e1, ?_, ?_, eA', eB', fun i hi hx => ?_, fun i hi => ?_, fun i hi => ?_⟩
  · cases v with
    | ref z => rw [e2, H.2.1 z 37 e3.2.1 (by rw [Int.ofNat.inj e3.2.2]; rfl)]
    | int z => exact absurd (show (1 : Nat) = 0 from e3.1) (by decide)
    | long z => exact absurd (show (1 : Nat) = 2 from e3) (by decide)
    | null => exact absurd (show (0 : Int) = 1 from e3.2) (by decide)
    | _ => exact e3.elim
  · cases v' with
    | ref z => rw [e2', H.2.1 z 38 e3'.2.1 (by rw [Int.ofNat.inj e3'.2.2]; rfl)]
    | int z => exact absurd (show (1 : Nat) = 0 from e3'.1) (by decide)
    | long z => exact absurd (show (1 : Nat) = 2 from e3') (by decide)
    | null => exact absurd (show (0 : Int) = 1 from e3'.2) (by decide)
    | _ => exact e3'.elim
  · obtain ⟨y, h1, h2⟩ := H.2.2.2.2.1 i hi (by rw [tw_rd eA' hi, hx])
    rw [tw_rd eB' hi] at h1
    cases h1
    exact h2
  · have k : sf_v t hp.1 (cond (decide (i < 40)) (0, 0, 4) (9, 0, 0)) (.int (A i)) := kA i hi
    rw [decide_eq_true hi] at k
    exact ⟨k.2.1, k.2.2⟩
  · have k : sf_v t hp.1 (cond (decide (i < 40)) (0, 0, 11) (9, 0, 0)) (.int (B i)) := kB i hi
    rw [decide_eq_true hi] at k
    exact ⟨k.2.1, k.2.2⟩
theorem x4_two {t : Nat → Nat} {hp : ab_H} (H : sf_h t hp) {f1 f2 : Nat → Int32} (hf : ∀ i, i < 40 → (f1 i).toInt = 3 → (f2 i).toInt ≤ 7) (k1 : ∀ i, i < 40 → 0 ≤ (f1 i).toInt ∧ (f1 i).toInt ≤ 4) (k2 : ∀ i, i < 40 → 0 ≤ (f2 i).toInt ∧ (f2 i).toInt ≤ 11) : sf_h t (ab_up (ab_up hp 37 (.inl (1, 40, .inl f1))) 38 (.inl (1, 40, .inl f2))) ∧ sf_fr [(103, 0, 39), (104, 0, 39)] t hp t (ab_up (ab_up hp 37 (.inl (1, 40, .inl f1))) 38 (.inl (1, 40, .inl f2))) := by
  obtain ⟨h88, u37, u38, fs, A, B, e1, e2, e3, e4, e5, -⟩ := x4_cell H
  obtain ⟨i1, i2, i3, i4, i5⟩ := H.2.2.2
  have rd : ∀ q i, q ≠ 37 → q ≠ 38 → sf_rd (ab_up (ab_up hp 37 (.inl (1, 40, .inl f1))) 38 (.inl (1, 40, .inl f2))) q i = sf_rd hp q i := fun q i h1 h2 => (sf_rd_up_ne h2).trans (sf_rd_up_ne h1)
  have rr : ∀ q i, q ≠ 37 → q ≠ 38 → sf_rr (ab_up (ab_up hp 37 (.inl (1, 40, .inl f1))) 38 (.inl (1, 40, .inl f2))) q i = sf_rr hp q i := fun q i h1 h2 => (sf_rr_up_ne h2).trans (sf_rr_up_ne h1)
  have c1 : (ab_up (ab_up hp 37 (.inl (1, 40, .inl f1))) 38 (.inl (1, 40, .inl f2))).2 37 = .inl (1, 40, .inl f1) := (ab_up_ne (by decide)).trans (ab_up_eq _ _ _)
  have c2 : (ab_up (ab_up hp 37 (.inl (1, 40, .inl f1))) 38 (.inl (1, 40, .inl f2))).2 38 = .inl (1, 40, .inl f2) := ab_up_eq _ _ _
  refine ⟨tw_h H (by rw [u37]; exact tw_any (by decide) rfl rfl rfl k1) (by rw [u38]; exact tw_any (by decide) rfl rfl rfl k2) ⟨fun q hq h5 => ?_, fun i hi hx => ?_, ?_, ?_, ?_⟩, tw_fr u37 u38 (by decide) e4 e5 (by decide) (by decide) (by decide)⟩
  · obtain ⟨q1, q2, q3, q4, q5, q6⟩ := i1 q hq h5
    have nq : ∀ w g, t w = g → g ≠ 103 → g ≠ 104 → w ≠ 37 ∧ w ≠ 38 := fun w g hw g1 g2 => ⟨fun e => g1 (by rw [← hw, e, u37]), fun e => g2 (by rw [← hw, e, u38])⟩
    have n0 := nq q 5 h5 (by decide) (by decide)
    have n1 := nq (q + 1) 106 q2 (by decide) (by decide)
    have n2 := nq (q + 2) 107 q3 (by decide) (by decide)
    refine ⟨q1, q2, q3, (rr q 0 n0.1 n0.2).trans q4, (rr q 1 n0.1 n0.2).trans q5, fun i hi x hx hx2 => ?_⟩
    rw [rd _ i n1.1 n1.2] at hx
    rw [rd _ i n2.1 n2.2]
    exact q6 i hi x hx hx2
  · rw [tw_rd c1 hi] at hx
    exact ⟨_, tw_rd c2 hi, hf i hi (Option.some.inj hx)⟩
  · have e : sf_cd (ab_up (ab_up hp 37 (.inl (1, 40, .inl f1))) 38 (.inl (1, 40, .inl f2))) 71 253 = sf_cd hp 71 253 := funext fun j => by
      unfold sf_cd
      rw [rd 71 _ (by decide) (by decide)]
    rw [e]
    exact i3
  · have e : sf_cd (ab_up (ab_up hp 37 (.inl (1, 40, .inl f1))) 38 (.inl (1, 40, .inl f2))) 84 253 = sf_cd hp 84 253 := funext fun j => by
      unfold sf_cd
      rw [rd 84 _ (by decide) (by decide)]
    rw [e]
    exact i4
  · have e : sf_cd (ab_up (ab_up hp 37 (.inl (1, 40, .inl f1))) 38 (.inl (1, 40, .inl f2))) 84 687 = sf_cd hp 84 687 := funext fun j => by
      unfold sf_cd
      rw [rd 84 _ (by decide) (by decide)]
    rw [e]
    exact i5
/-- the first two stores of LogText.addLine -/
theorem x4_add {t : Nat → Nat} {hp : ab_H} {x1 x2 x3 : Int32} {zi : Int} {Q : ab_O → Prop} (H : sf_h t hp) (hz : sf_rd hp 36 3 = some zi) (z0 : 0 ≤ zi) (z1 : zi < 40) (hx : x1.toInt = 3 → x2.toInt ≤ 7) (y1 : 0 ≤ x1.toInt ∧ x1.toInt ≤ 4) (y2 : 0 ≤ x2.toInt ∧ x2.toInt ≤ 11) (h : ∀ hp', sf_h t hp' → sf_fr [(103, 0, 39), (104, 0, 39)] t hp t hp' → Ev (ab_T L_X4_addLine) 20 ([some (.ref 36), some (.int x1), some (.int x2), some (.int x3)], [], (0, 0), hp') Q) : Ev (ab_T L_X4_addLine) 0 ([some (.ref 36), some (.int x1), some (.int x2), some (.int x3)], [], (0, 0), hp) Q := by
  obtain ⟨h88, u37, u38, fs, A, B, e1, e2, e3, e4, e5, e6, e7, e8⟩ := x4_cell H
  have hv : ∃ z : Int32, fs[3]? = some (.int z) ∧ z.toInt = zi := by
    unfold sf_rd at hz
    rw [e1] at hz
    have hz' : sf_iv fs[3]? = some zi := hz
    cases hq : fs[3]? with
    | none =>
      rw [hq] at hz'
      cases hz'
    | some v =>
      rw [hq] at hz'
      cases v with
      | int w =>
        have q : some w.toInt = some zi := hz'
        exact ⟨w, rfl, Option.some.inj q⟩
      | _ => cases hz'
  obtain ⟨z, hv, rfl⟩ := hv
  have hin : ab_in z 40 = true := n_in z0 (by omega)
  refine Ev.step (j := 1) (s' := ([some (.ref 36), some (.int x1), some (.int x2), some (.int x3)], [.ref 36], (0, 0), hp)) rfl rfl ?_
  refine Ev.getf rfl (show 36 < hp.1 by omega) e1 e2 ?_
  exact by
   refine Ev.step (j := 5) (s' := ([some (.ref 36), some (.int x1), some (.int x2), some (.int x3)], [.ref 36, .ref 37], (0, 0), hp)) rfl rfl ?_
   refine Ev.getf rfl (show 36 < hp.1 by omega) e1 hv ?_
   refine Ev.step (j := 9) (s' := ([some (.ref 36), some (.int x1), some (.int x2), some (.int x3)], [.int x1, .int z, .ref 37], (0, 0), hp)) rfl rfl ?_
   refine Ev.ast rfl (show 37 < hp.1 by omega) e4 hin ?_
   refine Ev.step (j := 11) (s' := ([some (.ref 36), some (.int x1), some (.int x2), some (.int x3)], [.ref 36], (0, 0), _)) rfl rfl ?_
   refine Ev.getf (fs := fs) rfl (show 36 < hp.1 by omega) ((ab_up_ne (by decide)).trans e1) e3 ?_
   refine Ev.step (j := 15) (s' := ([some (.ref 36), some (.int x1), some (.int x2), some (.int x3)], [.ref 36, .ref 38], (0, 0), _)) rfl rfl ?_
   refine Ev.getf (fs := fs) rfl (show 36 < hp.1 by omega) ((ab_up_ne (by decide)).trans e1) hv ?_
   exact by
    refine Ev.step (j := 19) (s' := ([some (.ref 36), some (.int x1), some (.int x2), some (.int x3)], [.int x2, .int z, .ref 38], (0, 0), _)) rfl rfl ?_
    refine Ev.ast (f := B) rfl (show 38 < hp.1 by omega) ((ab_up_ne (by decide)).trans e5) hin ?_
    have up : ∀ {f : Nat → Int32} {y : Int32} {q : Nat}, (q = z.toNatClampNeg ∧ upd f z.toNatClampNeg y q = y) ∨ (q ≠ z.toNatClampNeg ∧ upd f z.toNatClampNeg y q = f q) := fun {f y q} => by
      by_cases e : q = z.toNatClampNeg
      · exact Or.inl ⟨e, if_pos e⟩
      · exact Or.inr ⟨e, if_neg e⟩
    have k := x4_two H (f1 := upd A z.toNatClampNeg x1) (f2 := upd B z.toNatClampNeg x2) (fun q hq hx2 => by
      rcases up (f := A) (y := x1) (q := q) with ⟨k0, k1⟩ | ⟨k0, k1⟩
      · rcases up (f := B) (y := x2) (q := q) with ⟨k2, k3⟩ | ⟨k2, k3⟩
        · rw [k1] at hx2
          rw [k3]
          exact hx hx2
        · exact absurd k0 k2
      · rcases up (f := B) (y := x2) (q := q) with ⟨k2, k3⟩ | ⟨k2, k3⟩
        · exact absurd k2 k0
        · rw [k1] at hx2
          rw [k3]
          exact e6 q hq hx2) (fun q hq => by
      rcases up (f := A) (y := x1) (q := q) with ⟨k0, k1⟩ | ⟨k0, k1⟩
      · rw [k1]
        exact y1
      · rw [k1]
        exact e7 q hq) (fun q hq => by
      rcases up (f := B) (y := x2) (q := q) with ⟨k0, k1⟩ | ⟨k0, k1⟩
      · rw [k1]
        exact y2
      · rw [k1]
        exact e8 q hq)
    exact h _ k.1 k.2
end
-- 63.b03c.pk.lean.txt
section
/-! ===== the reference's peek: a value of the heap; the way left to read ===== -/
def pkR (hp : ab_H) (z : Int32) : Prop := ∃ p l : Int, sf_rd hp 69 4 = some p ∧ sf_rd hp 69 3 = some l ∧ ((l ≤ p ∧ z.toInt = -1) ∨ (p < l ∧ ∃ b c : Int32, sf_rd hp 70 p.toNat = some b.toInt ∧ c.toInt = 255 ∧ z = b &&& c))
theorem pkR.same {hp : ab_H} {z z' : Int32} (h : pkR hp z) (h' : pkR hp z') : z.toInt = z'.toInt := by
  obtain ⟨p, l, h1, h2, h3⟩ := h
  obtain ⟨p', l', h1', h2', h3'⟩ := h'
  have e1 : p = p' := Option.some.inj (h1.symm.trans h1')
  have e2 : l = l' := Option.some.inj (h2.symm.trans h2')
  subst e1 e2
  rcases h3 with ⟨a, b⟩ | ⟨a, b, c, d1, d2, d3⟩
  · rcases h3' with ⟨a', b'⟩ | ⟨a', -⟩
    · omega
    · omega
  · rcases h3' with ⟨a', -⟩ | ⟨a', b', c', d1', d2', d3'⟩
    · omega
    · exact and_same d3 d3' (Option.some.inj (d1.symm.trans d1')) (by omega)
theorem pkR.mv {hp hp' : ab_H} {z : Int32} (h : pkR hp z) (h4 : sf_rd hp' 69 4 = sf_rd hp 69 4) (h3 : sf_rd hp' 69 3 = sf_rd hp 69 3) (h70 : ∀ q, sf_rd hp' 70 q = sf_rd hp 70 q) : pkR hp' z := by
  obtain ⟨p, l, a, b, c⟩ := h
  refine ⟨p, l, h4.trans a, h3.trans b, ?_⟩
  rcases c with c | ⟨c, d, e, f, g⟩
  · exact Or.inl c
  · exact Or.inr ⟨c, d, e, (h70 _).trans f, g⟩
theorem pk_ev {T : Nat → Option ab_A} {i j MC MS : Nat} {lo : List (Option Value)} {st : List Value} {u : Nat × Nat} {hp : ab_H} {Q : ab_O → Prop} {t : Nat → Nat} (hT : T i = some (ab_nx j (ab_callV 1 11 Z_X11_peek 0 0 MC MS))) (H : sf_h t hp) (hc : (decide (1 ≤ st.length + 1) && decide (ab_cats st ≤ 8) && decide (u.1 + 0 ≤ MC) && decide (u.2 + 0 ≤ MS)) = true) (h : ∀ z : Int32, pkR hp z → (z.toInt = -1 ∨ (0 ≤ z.toInt ∧ z.toInt ≤ 255)) → (∀ p, sf_rd hp 69 4 = some p → z.toInt = -1 ∨ p ≤ 939) → Ev T j (lo, .int z :: st, u, hp) Q) : Ev T i (lo, .ref 69 :: st, u, hp) Q := by
  refine Ev.inl (L := L_X11_peek) (nL := 1) hT (bs_rcv (g := 11) H (bs_R.uq H (g := 11) rfl) (by decide) rfl) hc (Nat.le_of_ble_eq_true rfl) ?_
  refine (show Ev (ab_T L_X11_peek) 0 ([some (.ref 69)], [], (0, 0), hp) (fun o => Ev T j (lo, o.1.toList ++ st, u, o.2) Q) from ?_)
  refine Ev.step (j := 1) (s' := ([some (.ref 69)], [.ref 69], (0, 0), hp)) rfl rfl ?_
  refine bs_getI 11 rfl rfl rfl H (bs_R.uq H (g := 11) rfl) (by decide) rfl fun z1 hz1 lz1 gz1 => ?_
  refine Ev.step (j := 5) (s' := ([some (.ref 69)], [.ref 69, .int z1], (0, 0), hp)) rfl rfl ?_
  refine bs_getI 11 rfl rfl rfl H (bs_R.uq H (g := 11) rfl) (by decide) rfl fun z2 hz2 lz2 gz2 => ?_
  refine bs_ge rfl (fun c3 => ?_) (fun c3 => ?_)
  · skip
    refine bs_lit (k := -1) rfl rfl fun z4 hz4 => ?_
    exact Ev.ret (o := (some (.int z4), hp)) rfl rfl (h z4 ⟨z1.toInt, z2.toInt, hz1, hz2, Or.inl ⟨c3, hz4⟩⟩ (Or.inl hz4) (fun _ _ => Or.inl hz4))
  · skip
    refine Ev.step (j := 12) (s' := ([some (.ref 69)], [.ref 69], (0, 0), hp)) rfl rfl ?_
    exact by
     refine bs_getU (g := 11) (g1 := 131) rfl rfl H (bs_R.uq H (g := 11) rfl) (by decide) rfl rfl ?_
     refine Ev.step (j := 16) (s' := ([some (.ref 69)], [.ref 69, .ref 70], (0, 0), hp)) rfl rfl ?_
     refine bs_getI 11 rfl rfl rfl H (bs_R.uq H (g := 11) rfl) (by decide) rfl fun z5 hz5 lz5 gz5 => ?_
     have e6 : z5.toInt = z1.toInt := Option.some.inj (hz5.symm.trans hz1)
     refine bs_ld (g := 131) 0 939 (-2147483648, 2147483647) rfl H (bs_R.uq H (g := 131) rfl) (by decide) rfl (by decide) (by decide) rfl (by decide) (by omega) (by omega) fun z7 hz7 lz7 gz7 => ?_
     refine bs_lit (k := 255) rfl rfl fun z8 hz8 => ?_
     refine bs_andF rfl (by omega) fun z9 qz9 hz9 gz9 => ?_
     refine Ev.step (j := 28) (s' := ([some (.ref 69)], [.int z9], (0, 0), hp)) rfl rfl ?_
     exact by
      refine Ev.ret (o := (some (.int z9), hp)) rfl rfl (h z9 ⟨z1.toInt, z2.toInt, hz1, hz2, Or.inr ⟨by omega, z7, z8, by rw [← e6]; exact hz7, hz8, qz9⟩⟩ (Or.inr ⟨by omega, by omega⟩) (fun p hp' => Or.inr ?_))
      have e := Option.some.inj (hz1.symm.trans hp')
      omega
theorem psi_ge {hp : ab_H} {p k : Int} (h : sf_rd hp 69 4 = some p) (h2 : sf_rd hp 69 11 = some k) : 2 * (940 - p) ≤ sf_psi hp ∧ sf_psi hp ≤ 2 * (940 - p) + 1 ∧ (1 ≤ k → k ≤ 3 → sf_psi hp = 2 * (940 - p) + 1) ∧ (k < 1 ∨ 3 < k → sf_psi hp = 2 * (940 - p)) := by
  unfold sf_psi
  rw [h, h2]
  dsimp only
  by_cases c1 : 1 ≤ k
  · by_cases c2 : k ≤ 3
    · rw [decide_eq_true c1, decide_eq_true c2]
      exact ⟨by show _ ≤ _ + (1 : Int); omega, by show _ + (1 : Int) ≤ _; omega, fun _ _ => rfl, fun q => by omega⟩
    · rw [decide_eq_true c1, decide_eq_false c2]
      exact ⟨by show _ ≤ _ + (0 : Int); omega, by show _ + (0 : Int) ≤ _; omega, fun _ q => absurd q c2, fun _ => Int.add_zero _⟩
  · rw [decide_eq_false c1, Bool.false_and]
    exact ⟨by show _ ≤ _ + (0 : Int); omega, by show _ + (0 : Int) ≤ _; omega, fun q => absurd q c1, fun _ => Int.add_zero _⟩
theorem fr_unmark {W : List (Nat × Nat × Nat)} {t t' : Nat → Nat} {hp hp' : ab_H} (H : sf_h t hp) (h : sf_fr ((999, 0, 0) :: W) t hp t' hp') (hpsi : sf_psi hp' ≤ sf_psi hp) : sf_fr W t hp t' hp' := by
  have n9 : ∀ a, a < hp.1 → t a ≠ 999 := fun a ha e => by
    have hc := H.1 a ha
    rw [e] at hc
    cases hx : hp.2 a with
    | inr o =>
      rw [hx] at hc
      exact absurd hc.2.1 (by decide)
    | inl x =>
      rw [hx] at hc
      obtain ⟨kd, len, w⟩ := x
      obtain ⟨-, h1, -, h2⟩ := hc
      have h1' : kd = 9 := h1
      subst h1'
      obtain f | f | f | f | f := w
      · exact absurd (show (9 : Nat) < 4 from h2.2.1) (by decide)
      · exact absurd (show (9 : Nat) = 2 from h2) (by decide)
      · exact h2.elim
      · exact h2.elim
      · exact absurd (show (9 : Nat) < 6 from h2.2.1) (by decide)
  refine ⟨h.1, h.2.1, fun a ha i hi => h.2.2.1 a ha i ?_, fun a ha hw => h.2.2.2.1 a ha ?_, fun _ => hpsi⟩
  · unfold sf_inW at hi ⊢
    rw [List.any_cons, hi, decide_eq_false (show ¬ (999 = t a) from Ne.symm (n9 a ha))]
    rfl
  · rw [List.all_cons, hw, decide_eq_true (show (999 : Nat) ≠ t a from Ne.symm (n9 a ha))]
    rfl
end
