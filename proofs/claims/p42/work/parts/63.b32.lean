def kq_X11_isName_v : sf_Q := ([(1, 11, 0)], [], some (0, 0, 0), [(1, 0, 0, 0, 1, 0)], [])
def ke_X11_isName_v : List Value → ab_H → Option Value → ab_H → Prop := fun _ hp r _ => ∀ T : TT, NT hp T → WOK T → T.k ≤ 88 → RES hp → ∃ z : Int32, r = some (.int z) ∧ (z.toInt = 1 → T.k = 2) ∧ (T.k = 2 → z.toInt = 1)
set_option maxRecDepth 100000 in
set_option maxHeartbeats 4000000 in
theorem ce_X11_isName_v : sf_cE kq_X11_isName_v Z_X11_isName ke_X11_isName_v := by
  intro t hp as H hl hj hpre
  match as, hl with
  | [v0], _ =>
    obtain ⟨a0, rfl, ra0⟩ := bs_aR (hj 0 _ rfl)
    obtain rfl := ra0.eq H (p := 69) rfl
    clear hpre hj
    have F0 : sf_fr [] t hp t hp := sf_fr_rf
    refine bs_finx (E := ke_X11_isName_v) (K := kq_X11_isName_v) (L := L_X11_isName) (nL := 3) (Nat.le_of_ble_eq_true rfl) ?_
    obtain ⟨Q, hQ⟩ : ∃ Q : ab_O → Prop, Q = (fun o => ∃ t', sf_h t' o.2 ∧ sf_fr (kq_X11_isName_v).2.2.2.2 t hp t' o.2 ∧ sf_an t' o.2.1 (kq_X11_isName_v).2.2.1 o.1 ∧ sf_S (sf_v1 o.1 [.ref 69] o.2) (kq_X11_isName_v).2.2.2.1 ∧ ke_X11_isName_v [.ref 69] hp o.1 o.2) := ⟨_, rfl⟩
    rw [← hQ]
    refine (show Ev (ab_T L_X11_isName) 0 ([some (.ref 69), none, none], [], (0, 0), hp) Q from ?_)
    obtain ⟨k0, hk0, lk0, uk0⟩ := bs_fld (k := 11) H (bs_R.uq H (g := 11) rfl) (by decide) rfl
    obtain ⟨w0, hw0⟩ := bs_fldL (k := 17) H (bs_R.uq H (g := 11) rfl) (by decide) rfl
    refine Ev.step (j := 1) (s' := ([some (.ref 69), none, none], [.ref 69], (0, 0), hp)) rfl rfl ?_
    refine bs_getI 11 rfl rfl rfl H (bs_R.uq H (g := 11) rfl) (by decide) rfl fun z1 hz1 lz1 gz1 => ?_
    have e2 : z1.toInt = k0 := Option.some.inj (hz1.symm.trans hk0)
    refine bs_lit (k := 1) rfl rfl fun z3 hz3 => ?_
    refine bs_ne rfl (fun c4 => ?_) (fun c4 => ?_)
    · skip
      refine bs_lit (k := 0) rfl rfl fun z5 hz5 => ?_
      refine Ev.step (j := 14) (s' := ([some (.ref 69), some (.int z5), none], [], (0, 0), hp)) rfl rfl ?_
      refine bs_lit (k := 0) rfl rfl fun z6 hz6 => ?_
      refine Ev.step (j := 16) (s' := ([some (.ref 69), some (.int z5), some (.int z6)], [], (0, 0), hp)) rfl rfl ?_
      have INV : (z5.toInt = 1 ↔ k0 = 1 ∧ ∀ j : Nat, (j : Int) < z6.toInt → sf_rl hp 75 j ≠ some w0) := ⟨fun e => ⟨by omega, fun j hj => absurd hj (by omega)⟩, fun h => by have h1 := h.1; omega⟩
      refine bs_loop (ι := Int32 × Int32) (fun ⟨k7, k8⟩ => ([some (.ref 69), some (.int k7), some (.int k8)], [], (0, 0), hp)) (fun ⟨k7, k8⟩ => (0 ≤ k7.toInt ∧ k7.toInt ≤ 1 ∧ 0 ≤ k8.toInt ∧ k8.toInt ≤ 25) ∧ ((k7.toInt = 1 ↔ k0 = 1 ∧ ∀ j : Nat, (j : Int) < k8.toInt → sf_rl hp 75 j ≠ some w0))) (fun ⟨k7, k8⟩ => (25 - k8.toInt).toNat) ?_ (z5, z6) ⟨(by first | omega | assumption), (by exact INV)⟩
      rintro ⟨k7, k8⟩ ⟨i10, i11⟩ ih9
      clear INV
      refine (show Ev _ 16 ([some (.ref 69), some (.int k7), some (.int k8)], [], (0, 0), hp) _ from ?_)
      refine Ev.step (j := 17) (s' := ([some (.ref 69), some (.int k7), some (.int k8)], [.int k8], (0, 0), hp)) rfl rfl ?_
      refine bs_lit (k := 25) rfl rfl fun z12 hz12 => ?_
      refine bs_ge rfl (fun c13 => ?_) (fun c13 => ?_)
      · skip
        refine Ev.step (j := 53) (s' := ([some (.ref 69), some (.int k7), some (.int k8)], [.int k7], (0, 0), hp)) rfl rfl ?_
        exact bs_zret rfl rfl (by omega) (by omega) (by rw [hQ]; exact ⟨t, H, F0, bs_an0, sf_S_cons (sf_s1 (x := k7.toInt) rfl (by omega) (by omega)) (sf_S_nil), (fun T hN hW h8 hR => by
                have KK : k0 = rkk T.k := Option.some.inj (hk0.symm.trans hN.2.2.1)
                refine ⟨k7, rfl, fun e => ?_, fun e => ?_⟩
                · obtain ⟨a, b⟩ := i11.mp e
                  rcases rkk_1 (KK.symm.trans a) with c | c
                  · exact c
                  · obtain ⟨w, g1, g2⟩ := hN.2.2.2.2.2 (KK.symm.trans a)
                    have EW : w = w0 := Option.some.inj (g1.symm.trans hw0)
                    obtain ⟨w2, g3, g4⟩ := hR (T.k - 64).toNat (by omega)
                    have E3 := ((hW (Or.inr c)).2 (T.k - 64).toNat (by omega)).mpr (by omega)
                    exact absurd (g3.trans (congrArg some (Int64.toInt_inj.mp (by rw [g4, ← E3, ← g2, EW])))) (b _ (by omega))
                · have K1 : rkk T.k = 1 := by rw [e]; rfl
                  obtain ⟨w, g1, g2⟩ := hN.2.2.2.2.2 K1
                  have EW : w = w0 := Option.some.inj (g1.symm.trans hw0)
                  refine i11.mpr ⟨KK.trans K1, fun j hj e2 => ?_⟩
                  obtain ⟨w2, g3, g4⟩ := hR j (by omega)
                  have E4 : w2 = w0 := Option.some.inj (g3.symm.trans e2)
                  have E5 := ((hW (Or.inl e)).2 j (by omega)).mp (by rw [← g2, EW, ← E4]; exact g4)
                  omega)⟩)
      · skip
        refine Ev.step (j := 23) (s' := ([some (.ref 69), some (.int k7), some (.int k8)], [.int k7], (0, 0), hp)) rfl rfl ?_
        refine bs_ifeq rfl (fun c14 => ?_) (fun c14 => ?_)
        · skip
          have c15 : k7.toInt = 0 := by omega
          refine bs_lit (k := 0) rfl rfl fun z16 hz16 => ?_
          refine Ev.step (j := 46) (s' := ([some (.ref 69), some (.int z16), some (.int k8)], [], (0, 0), hp)) rfl rfl ?_
          refine bs_iinc (1) rfl rfl rfl rfl (by omega) (by omega) fun z17 hz17 => ?_
          refine (show Ev _ 49 ([some (.ref 69), some (.int z16), some (.int z17)], [], (0, 0), hp) _ from ?_)
          refine Ev.step (j := 16) (s' := ([some (.ref 69), some (.int z16), some (.int z17)], [], (0, 0), hp)) rfl rfl ?_
          have INV : (z16.toInt = 1 ↔ k0 = 1 ∧ ∀ j : Nat, (j : Int) < z17.toInt → sf_rl hp 75 j ≠ some w0) := ⟨fun e => absurd e (by omega), fun h => by have := i11.mpr ⟨h.1, fun j hj => h.2 j (by omega)⟩; omega⟩
          refine ih9 (z16, z17) ⟨(by first | omega | assumption), (by exact INV)⟩ ?_
          show (25 - z17.toInt).toNat < (25 - k8.toInt).toNat
          omega
        · skip
          refine Ev.step (j := 27) (s' := ([some (.ref 69), some (.int k7), some (.int k8)], [.ref 69], (0, 0), hp)) rfl rfl ?_
          refine bs_getLe (g := 11) rfl rfl H (bs_R.uq H (g := 11) rfl) (by decide) rfl hw0 ?_
          refine Ev.step (j := 31) (s' := ([some (.ref 69), some (.int k7), some (.int k8)], [.ref 69, .long w0], (0, 0), hp)) rfl rfl ?_
          refine bs_getU (g := 11) (g1 := 136) rfl rfl H (bs_R.uq H (g := 11) rfl) (by decide) rfl rfl ?_
          refine Ev.step (j := 35) (s' := ([some (.ref 69), some (.int k7), some (.int k8)], [.int k8, .ref 75, .long w0], (0, 0), hp)) rfl rfl ?_
          refine bs_laldv (g := 136) rfl H (bs_R.uq H (g := 136) rfl) (by decide) rfl (by omega) (by show _ < ((25 : Nat) : Int); omega) fun w18 hw18 => ?_
          have LA : sf_rl hp 75 k8.toInt.toNat = some w18 := hw18
          refine bs_lcmpv rfl fun z19 hz19 => ?_
          refine bs_ifeq rfl (fun c20 => ?_) (fun c20 => ?_)
          · skip
            have c21 : z19.toInt = 0 := by omega
            refine bs_lit (k := 0) rfl rfl fun z22 hz22 => ?_
            refine Ev.step (j := 46) (s' := ([some (.ref 69), some (.int z22), some (.int k8)], [], (0, 0), hp)) rfl rfl ?_
            refine bs_iinc (1) rfl rfl rfl rfl (by omega) (by omega) fun z23 hz23 => ?_
            refine (show Ev _ 49 ([some (.ref 69), some (.int z22), some (.int z23)], [], (0, 0), hp) _ from ?_)
            refine Ev.step (j := 16) (s' := ([some (.ref 69), some (.int z22), some (.int z23)], [], (0, 0), hp)) rfl rfl ?_
            have INV : (z22.toInt = 1 ↔ k0 = 1 ∧ ∀ j : Nat, (j : Int) < z23.toInt → sf_rl hp 75 j ≠ some w0) := ⟨fun e => absurd e (by omega), fun h => absurd (by rw [LA, hz19.mp (by omega)]) (h.2 k8.toInt.toNat (by omega))⟩
            refine ih9 (z22, z23) ⟨(by first | omega | assumption), (by exact INV)⟩ ?_
            show (25 - z23.toInt).toNat < (25 - k8.toInt).toNat
            omega
          · skip
            refine bs_lit (k := 1) rfl rfl fun z24 hz24 => ?_
            refine Ev.step (j := 45) (s' := ([some (.ref 69), some (.int k7), some (.int k8)], [.int z24], (0, 0), hp)) rfl rfl ?_
            refine Ev.step (j := 46) (s' := ([some (.ref 69), some (.int z24), some (.int k8)], [], (0, 0), hp)) rfl rfl ?_
            refine bs_iinc (1) rfl rfl rfl rfl (by omega) (by omega) fun z25 hz25 => ?_
            refine (show Ev _ 49 ([some (.ref 69), some (.int z24), some (.int z25)], [], (0, 0), hp) _ from ?_)
            refine Ev.step (j := 16) (s' := ([some (.ref 69), some (.int z24), some (.int z25)], [], (0, 0), hp)) rfl rfl ?_
            have INV : (z24.toInt = 1 ↔ k0 = 1 ∧ ∀ j : Nat, (j : Int) < z25.toInt → sf_rl hp 75 j ≠ some w0) := ⟨fun _ => ⟨(i11.mp (by omega)).1, fun j hj => by rcases (show (j : Int) < k8.toInt ∨ j = k8.toInt.toNat by omega) with h | h; exact (i11.mp (by omega)).2 j h; rw [h, LA]; intro e; exact absurd (hz19.mpr (Option.some.inj e).symm) (by omega)⟩, fun _ => by omega⟩
            refine ih9 (z24, z25) ⟨(by first | omega | assumption), (by exact INV)⟩ ?_
            show (25 - z25.toInt).toNat < (25 - k8.toInt).toNat
            omega
    · skip
      have c26 : z1.toInt = 1 := by omega
      refine bs_lit (k := 1) rfl rfl fun z27 hz27 => ?_
      refine Ev.step (j := 13) (s' := ([some (.ref 69), none, none], [.int z27], (0, 0), hp)) rfl rfl ?_
      refine Ev.step (j := 14) (s' := ([some (.ref 69), some (.int z27), none], [], (0, 0), hp)) rfl rfl ?_
      refine bs_lit (k := 0) rfl rfl fun z28 hz28 => ?_
      refine Ev.step (j := 16) (s' := ([some (.ref 69), some (.int z27), some (.int z28)], [], (0, 0), hp)) rfl rfl ?_
      have INV : (z27.toInt = 1 ↔ k0 = 1 ∧ ∀ j : Nat, (j : Int) < z28.toInt → sf_rl hp 75 j ≠ some w0) := ⟨fun e => ⟨by omega, fun j hj => absurd hj (by omega)⟩, fun h => by have h1 := h.1; omega⟩
      refine bs_loop (ι := Int32 × Int32) (fun ⟨k29, k30⟩ => ([some (.ref 69), some (.int k29), some (.int k30)], [], (0, 0), hp)) (fun ⟨k29, k30⟩ => (0 ≤ k29.toInt ∧ k29.toInt ≤ 1 ∧ 0 ≤ k30.toInt ∧ k30.toInt ≤ 25) ∧ ((k29.toInt = 1 ↔ k0 = 1 ∧ ∀ j : Nat, (j : Int) < k30.toInt → sf_rl hp 75 j ≠ some w0))) (fun ⟨k29, k30⟩ => (25 - k30.toInt).toNat) ?_ (z27, z28) ⟨(by first | omega | assumption), (by exact INV)⟩
      rintro ⟨k29, k30⟩ ⟨i32, i33⟩ ih31
      clear INV
      refine (show Ev _ 16 ([some (.ref 69), some (.int k29), some (.int k30)], [], (0, 0), hp) _ from ?_)
      refine Ev.step (j := 17) (s' := ([some (.ref 69), some (.int k29), some (.int k30)], [.int k30], (0, 0), hp)) rfl rfl ?_
      refine bs_lit (k := 25) rfl rfl fun z34 hz34 => ?_
      refine bs_ge rfl (fun c35 => ?_) (fun c35 => ?_)
      · skip
        refine Ev.step (j := 53) (s' := ([some (.ref 69), some (.int k29), some (.int k30)], [.int k29], (0, 0), hp)) rfl rfl ?_
        exact bs_zret rfl rfl (by omega) (by omega) (by rw [hQ]; exact ⟨t, H, F0, bs_an0, sf_S_cons (sf_s1 (x := k29.toInt) rfl (by omega) (by omega)) (sf_S_nil), (fun T hN hW h8 hR => by
                have KK : k0 = rkk T.k := Option.some.inj (hk0.symm.trans hN.2.2.1)
                refine ⟨k29, rfl, fun e => ?_, fun e => ?_⟩
                · obtain ⟨a, b⟩ := i33.mp e
                  rcases rkk_1 (KK.symm.trans a) with c | c
                  · exact c
                  · obtain ⟨w, g1, g2⟩ := hN.2.2.2.2.2 (KK.symm.trans a)
                    have EW : w = w0 := Option.some.inj (g1.symm.trans hw0)
                    obtain ⟨w2, g3, g4⟩ := hR (T.k - 64).toNat (by omega)
                    have E3 := ((hW (Or.inr c)).2 (T.k - 64).toNat (by omega)).mpr (by omega)
                    exact absurd (g3.trans (congrArg some (Int64.toInt_inj.mp (by rw [g4, ← E3, ← g2, EW])))) (b _ (by omega))
                · have K1 : rkk T.k = 1 := by rw [e]; rfl
                  obtain ⟨w, g1, g2⟩ := hN.2.2.2.2.2 K1
                  have EW : w = w0 := Option.some.inj (g1.symm.trans hw0)
                  refine i33.mpr ⟨KK.trans K1, fun j hj e2 => ?_⟩
                  obtain ⟨w2, g3, g4⟩ := hR j (by omega)
                  have E4 : w2 = w0 := Option.some.inj (g3.symm.trans e2)
                  have E5 := ((hW (Or.inl e)).2 j (by omega)).mp (by rw [← g2, EW, ← E4]; exact g4)
                  omega)⟩)
      · skip
        refine Ev.step (j := 23) (s' := ([some (.ref 69), some (.int k29), some (.int k30)], [.int k29], (0, 0), hp)) rfl rfl ?_
        refine bs_ifeq rfl (fun c36 => ?_) (fun c36 => ?_)
        · skip
          have c37 : k29.toInt = 0 := by omega
          refine bs_lit (k := 0) rfl rfl fun z38 hz38 => ?_
          refine Ev.step (j := 46) (s' := ([some (.ref 69), some (.int z38), some (.int k30)], [], (0, 0), hp)) rfl rfl ?_
          refine bs_iinc (1) rfl rfl rfl rfl (by omega) (by omega) fun z39 hz39 => ?_
          refine (show Ev _ 49 ([some (.ref 69), some (.int z38), some (.int z39)], [], (0, 0), hp) _ from ?_)
          refine Ev.step (j := 16) (s' := ([some (.ref 69), some (.int z38), some (.int z39)], [], (0, 0), hp)) rfl rfl ?_
          have INV : (z38.toInt = 1 ↔ k0 = 1 ∧ ∀ j : Nat, (j : Int) < z39.toInt → sf_rl hp 75 j ≠ some w0) := ⟨fun e => absurd e (by omega), fun h => by have := i33.mpr ⟨h.1, fun j hj => h.2 j (by omega)⟩; omega⟩
          refine ih31 (z38, z39) ⟨(by first | omega | assumption), (by exact INV)⟩ ?_
          show (25 - z39.toInt).toNat < (25 - k30.toInt).toNat
          omega
        · skip
          refine Ev.step (j := 27) (s' := ([some (.ref 69), some (.int k29), some (.int k30)], [.ref 69], (0, 0), hp)) rfl rfl ?_
          refine bs_getLe (g := 11) rfl rfl H (bs_R.uq H (g := 11) rfl) (by decide) rfl hw0 ?_
          refine Ev.step (j := 31) (s' := ([some (.ref 69), some (.int k29), some (.int k30)], [.ref 69, .long w0], (0, 0), hp)) rfl rfl ?_
          refine bs_getU (g := 11) (g1 := 136) rfl rfl H (bs_R.uq H (g := 11) rfl) (by decide) rfl rfl ?_
          refine Ev.step (j := 35) (s' := ([some (.ref 69), some (.int k29), some (.int k30)], [.int k30, .ref 75, .long w0], (0, 0), hp)) rfl rfl ?_
          refine bs_laldv (g := 136) rfl H (bs_R.uq H (g := 136) rfl) (by decide) rfl (by omega) (by show _ < ((25 : Nat) : Int); omega) fun w40 hw40 => ?_
          have LA : sf_rl hp 75 k30.toInt.toNat = some w40 := hw40
          refine bs_lcmpv rfl fun z41 hz41 => ?_
          refine bs_ifeq rfl (fun c42 => ?_) (fun c42 => ?_)
          · skip
            have c43 : z41.toInt = 0 := by omega
            refine bs_lit (k := 0) rfl rfl fun z44 hz44 => ?_
            refine Ev.step (j := 46) (s' := ([some (.ref 69), some (.int z44), some (.int k30)], [], (0, 0), hp)) rfl rfl ?_
            refine bs_iinc (1) rfl rfl rfl rfl (by omega) (by omega) fun z45 hz45 => ?_
            refine (show Ev _ 49 ([some (.ref 69), some (.int z44), some (.int z45)], [], (0, 0), hp) _ from ?_)
            refine Ev.step (j := 16) (s' := ([some (.ref 69), some (.int z44), some (.int z45)], [], (0, 0), hp)) rfl rfl ?_
            have INV : (z44.toInt = 1 ↔ k0 = 1 ∧ ∀ j : Nat, (j : Int) < z45.toInt → sf_rl hp 75 j ≠ some w0) := ⟨fun e => absurd e (by omega), fun h => absurd (by rw [LA, hz41.mp (by omega)]) (h.2 k30.toInt.toNat (by omega))⟩
            refine ih31 (z44, z45) ⟨(by first | omega | assumption), (by exact INV)⟩ ?_
            show (25 - z45.toInt).toNat < (25 - k30.toInt).toNat
            omega
          · skip
            refine bs_lit (k := 1) rfl rfl fun z46 hz46 => ?_
            refine Ev.step (j := 45) (s' := ([some (.ref 69), some (.int k29), some (.int k30)], [.int z46], (0, 0), hp)) rfl rfl ?_
            refine Ev.step (j := 46) (s' := ([some (.ref 69), some (.int z46), some (.int k30)], [], (0, 0), hp)) rfl rfl ?_
            refine bs_iinc (1) rfl rfl rfl rfl (by omega) (by omega) fun z47 hz47 => ?_
            refine (show Ev _ 49 ([some (.ref 69), some (.int z46), some (.int z47)], [], (0, 0), hp) _ from ?_)
            refine Ev.step (j := 16) (s' := ([some (.ref 69), some (.int z46), some (.int z47)], [], (0, 0), hp)) rfl rfl ?_
            have INV : (z46.toInt = 1 ↔ k0 = 1 ∧ ∀ j : Nat, (j : Int) < z47.toInt → sf_rl hp 75 j ≠ some w0) := ⟨fun _ => ⟨(i33.mp (by omega)).1, fun j hj => by rcases (show (j : Int) < k30.toInt ∨ j = k30.toInt.toNat by omega) with h | h; exact (i33.mp (by omega)).2 j h; rw [h, LA]; intro e; exact absurd (hz41.mpr (Option.some.inj e).symm) (by omega)⟩, fun _ => by omega⟩
            refine ih31 (z46, z47) ⟨(by first | omega | assumption), (by exact INV)⟩ ?_
            show (25 - z47.toInt).toNat < (25 - k30.toInt).toNat
            omega
theorem ct_X11_isName_v : sf_ct kq_X11_isName_v Z_X11_isName := ce_X11_isName_v.ct
def kq_X11_find_v : sf_Q := ([(1, 11, 0), (0, 0, 0), (0, 0, 0)], [(1, 3, 0, 14, 20, 0), (1, 6, 0, 0, 8, 0)], some (0, 0, 0), [(1, 0, 0, -1, 7, 0)], [])
def ke_X11_find_v : List Value → ab_H → Option Value → ab_H → Prop := fun as hp r _ => ∀ (x y : Int32) (nm : Nat → Int) (q : Nat) (v : Int), as = [.ref 69, .int x, .int y] → (∀ k : Nat, (k : Int) < y.toInt → ∃ w, sf_rl hp 74 (x.toInt.toNat + k) = some w ∧ w.toInt = nm (q + k)) → (∃ w, sf_rl hp 69 17 = some w ∧ w.toInt = v) → ∃ z : Int32, r = some (.int z) ∧ z.toInt = fnd nm q y.toInt v
set_option maxRecDepth 100000 in
set_option maxHeartbeats 4000000 in
theorem ce_X11_find_v : sf_cE kq_X11_find_v Z_X11_find ke_X11_find_v := by
  intro t hp as H hl hj hpre
  match as, hl with
  | [v0, v1, v2], _ =>
    obtain ⟨a0, rfl, ra0⟩ := bs_aR (hj 0 _ rfl)
    obtain rfl := ra0.eq H (p := 69) rfl
    obtain ⟨x1, rfl⟩ := bs_aI (hj 1 _ rfl)
    have rg1 := n_range x1
    obtain ⟨x2, rfl⟩ := bs_aI (hj 2 _ rfl)
    have rg2 := n_range x2
    obtain ⟨pl0, ph0⟩ := bs_s1 (x := x1.toInt) rfl (hpre _ (List.mem_of_getElem? (i := 0) rfl))
    obtain ⟨pl1, ph1⟩ := bs_s1 (x := x2.toInt) rfl (hpre _ (List.mem_of_getElem? (i := 1) rfl))
    clear hpre hj
    have F0 : sf_fr [] t hp t hp := sf_fr_rf
    refine bs_finx (E := ke_X11_find_v) (K := kq_X11_find_v) (L := L_X11_find) (nL := 4) (Nat.le_of_ble_eq_true rfl) ?_
    obtain ⟨Q, hQ⟩ : ∃ Q : ab_O → Prop, Q = (fun o => ∃ t', sf_h t' o.2 ∧ sf_fr (kq_X11_find_v).2.2.2.2 t hp t' o.2 ∧ sf_an t' o.2.1 (kq_X11_find_v).2.2.1 o.1 ∧ sf_S (sf_v1 o.1 [.ref 69, .int x1, .int x2] o.2) (kq_X11_find_v).2.2.2.1 ∧ ke_X11_find_v [.ref 69, .int x1, .int x2] hp o.1 o.2) := ⟨_, rfl⟩
    rw [← hQ]
    refine (show Ev (ab_T L_X11_find) 0 ([some (.ref 69), some (.int x1), some (.int x2), none], [], (0, 0), hp) Q from ?_)
    obtain ⟨w0, hw0⟩ := bs_fldL (k := 17) H (bs_R.uq H (g := 11) rfl) (by decide) rfl
    refine bs_lit (k := 0) rfl rfl fun z1 hz1 => ?_
    refine Ev.step (j := 2) (s' := ([some (.ref 69), some (.int x1), some (.int x2), some (.int z1)], [], (0, 0), hp)) rfl rfl ?_
    refine bs_loop (ι := Int32) (fun k2 => ([some (.ref 69), some (.int x1), some (.int x2), some (.int k2)], [], (0, 0), hp)) (fun k2 => (0 ≤ k2.toInt ∧ k2.toInt ≤ 8) ∧ (∀ j : Nat, (j : Int) < k2.toInt → sf_rl hp 74 (x1.toInt.toNat + j) ≠ some w0)) (fun k2 => (8 - k2.toInt).toNat) ?_ z1 ⟨(by first | omega | assumption), (by first | exact INV | exact fun j h => absurd h (by omega))⟩
    rintro k2 ⟨i4, i5⟩ ih3
    refine (show Ev _ 2 ([some (.ref 69), some (.int x1), some (.int x2), some (.int k2)], [], (0, 0), hp) _ from ?_)
    refine Ev.step (j := 3) (s' := ([some (.ref 69), some (.int x1), some (.int x2), some (.int k2)], [.int k2], (0, 0), hp)) rfl rfl ?_
    refine Ev.step (j := 4) (s' := ([some (.ref 69), some (.int x1), some (.int x2), some (.int k2)], [.int x2, .int k2], (0, 0), hp)) rfl rfl ?_
    refine bs_ge rfl (fun c6 => ?_) (fun c6 => ?_)
    · skip
      refine bs_lit (k := -1) rfl rfl fun z7 hz7 => ?_
      exact Ev.ret rfl rfl (by rw [hQ]; exact ⟨t, H, F0, bs_an0, sf_S_cons (sf_s1 (x := z7.toInt) rfl (by omega) (by omega)) (sf_S_nil), (fun x y nm q v ha hN hw => by
              obtain ⟨w, g1, g2⟩ := hw
              have EW : w = w0 := Option.some.inj (g1.symm.trans hw0)
              have NE_ : ∀ j : Nat, (∃ w, sf_rl hp 74 (x1.toInt.toNat + j) = some w ∧ w.toInt = nm (q + j)) → (j : Int) < k2.toInt → nm (q + j) ≠ v := fun j h1 h2 e => by
                obtain ⟨w', g3, g4⟩ := h1
                rw [e, ← g2, EW] at g4
                exact i5 j h2 (by rw [g3, Int64.toInt_inj.mp g4])
              cases ha
              exact ⟨z7, rfl, (fnd_is (Or.inl ⟨by omega, fun j hj => NE_ j (hN j hj) (by omega)⟩)).symm⟩)⟩)
    · skip
      refine Ev.step (j := 8) (s' := ([some (.ref 69), some (.int x1), some (.int x2), some (.int k2)], [.ref 69], (0, 0), hp)) rfl rfl ?_
      refine bs_getU (g := 11) (g1 := 135) rfl rfl H (bs_R.uq H (g := 11) rfl) (by decide) rfl rfl ?_
      refine Ev.step (j := 12) (s' := ([some (.ref 69), some (.int x1), some (.int x2), some (.int k2)], [.int x1, .ref 74], (0, 0), hp)) rfl rfl ?_
      refine Ev.step (j := 13) (s' := ([some (.ref 69), some (.int x1), some (.int x2), some (.int k2)], [.int k2, .int x1, .ref 74], (0, 0), hp)) rfl rfl ?_
      first | (refine bs_add rfl (by omega) (by omega) fun z8 hz8 => ?_) | (refine bs_any rfl fun z8 => ?_)
      have rz8 := n_range z8
      refine bs_laldv (g := 135) rfl H (bs_R.uq H (g := 135) rfl) (by decide) rfl (by omega) (by show _ < ((28 : Nat) : Int); omega) fun w9 hw9 => ?_
      have LA : sf_rl hp 74 (x1.toInt.toNat + k2.toInt.toNat) = some w9 := bl_at hw9 (by omega)
      refine Ev.step (j := 16) (s' := ([some (.ref 69), some (.int x1), some (.int x2), some (.int k2)], [.ref 69, .long w9], (0, 0), hp)) rfl rfl ?_
      refine bs_getLe (g := 11) rfl rfl H (bs_R.uq H (g := 11) rfl) (by decide) rfl hw0 ?_
      refine bs_lcmpv rfl fun z10 hz10 => ?_
      refine bs_ifne rfl (fun c11 => ?_) (fun c11 => ?_)
      · skip
        refine bs_iinc (1) rfl rfl rfl rfl (by omega) (by omega) fun z12 hz12 => ?_
        refine (show Ev _ 28 ([some (.ref 69), some (.int x1), some (.int x2), some (.int z12)], [], (0, 0), hp) _ from ?_)
        refine Ev.step (j := 2) (s' := ([some (.ref 69), some (.int x1), some (.int x2), some (.int z12)], [], (0, 0), hp)) rfl rfl ?_
        have INV : ∀ j : Nat, (j : Int) < z12.toInt → sf_rl hp 74 (x1.toInt.toNat + j) ≠ some w0 := by
          intro j hj
          rcases (show (j : Int) < k2.toInt ∨ j = k2.toInt.toNat by omega) with h | h
          · exact i5 j h
          · rw [h, LA]; intro e; exact absurd (hz10.mpr (Option.some.inj e)) (by omega)
        refine ih3 z12 ⟨(by first | omega | assumption), (by first | exact INV | exact fun j h => absurd h (by omega))⟩ ?_
        show (8 - z12.toInt).toNat < (8 - k2.toInt).toNat
        omega
      · skip
        have c13 : z10.toInt = 0 := by omega
        refine Ev.step (j := 24) (s' := ([some (.ref 69), some (.int x1), some (.int x2), some (.int k2)], [.int k2], (0, 0), hp)) rfl rfl ?_
        exact Ev.ret rfl rfl (by rw [hQ]; exact ⟨t, H, F0, bs_an0, sf_S_cons (sf_s1 (x := k2.toInt) rfl (by omega) (by omega)) (sf_S_nil), (fun x y nm q v ha hN hw => by
                obtain ⟨w, g1, g2⟩ := hw
                have EW : w = w0 := Option.some.inj (g1.symm.trans hw0)
                have NE_ : ∀ j : Nat, (∃ w, sf_rl hp 74 (x1.toInt.toNat + j) = some w ∧ w.toInt = nm (q + j)) → (j : Int) < k2.toInt → nm (q + j) ≠ v := fun j h1 h2 e => by
                  obtain ⟨w', g3, g4⟩ := h1
                  rw [e, ← g2, EW] at g4
                  exact i5 j h2 (by rw [g3, Int64.toInt_inj.mp g4])
                cases ha
                obtain ⟨w', g3, g4⟩ := hN k2.toInt.toNat (by omega)
                have EW2 : w' = _ := Option.some.inj (g3.symm.trans LA)
                rw [EW2, hz10.mp (by omega), ← EW, g2] at g4
                exact ⟨k2, rfl, (fnd_is (Or.inr ⟨by omega, by omega, g4.symm, fun j hj => NE_ j (hN j (by omega)) hj⟩)).symm⟩)⟩)
theorem ct_X11_find_v : sf_ct kq_X11_find_v Z_X11_find := ce_X11_find_v.ct
def kq_X11_takes_v : sf_Q := ([(1, 11, 0), (0, 0, 0), (0, 0, 0)], [(1, 3, 0, 0, 1, 0), (1, 6, 0, 0, 999, 0)], some (0, 0, 0), [(1, 0, 0, 0, 1, 0)], [(11, 4, 4), (11, 11, 18)])
def ke_X11_takes_v : List Value → ab_H → Option Value → ab_H → Prop := fun as hp r hp' => ∀ lo hi : Int32, as = [.ref 69, .int lo, .int hi] → (∀ z : Int32, r = some (.int z) → z.toInt ≠ 0 → ∃ v : Int, sf_rd hp' 69 18 = some v ∧ lo.toInt ≤ v ∧ v ≤ hi.toInt) ∧ ∀ (B : Nat → Int) (n lim i : Nat), RK hp B n lim i → ∃ z : Int32, r = some (.int z) ∧ ((z.toInt = 1 ∧ (tok B n lim i).k = 3 ∧ lo.toInt ≤ (tok B n lim i).v ∧ (tok B n lim i).v ≤ hi.toInt ∧ sf_rd hp' 69 18 = some (tok B n lim i).v ∧ RK hp' B n lim (i + 1)) ∨ (z.toInt = 0 ∧ sf_rd hp' 69 16 = some (tok B n lim i).pl ∧ (((tok B n lim i).k ≠ 3 ∧ sf_rd hp' 69 15 = some 1) ∨ (((tok B n lim i).k = 3 ∧ ((tok B n lim i).v < lo.toInt ∨ hi.toInt < (tok B n lim i).v)) ∧ sf_rd hp' 69 15 = some 2))))
set_option maxRecDepth 100000 in
set_option maxHeartbeats 4000000 in
theorem ce_X11_takes_v : sf_cE kq_X11_takes_v Z_X11_takes ke_X11_takes_v := by
  intro t hp as H hl hj hpre
  match as, hl with
  | [v0, v1, v2], _ =>
    obtain ⟨a0, rfl, ra0⟩ := bs_aR (hj 0 _ rfl)
    obtain rfl := ra0.eq H (p := 69) rfl
    obtain ⟨x1, rfl⟩ := bs_aI (hj 1 _ rfl)
    have rg1 := n_range x1
    obtain ⟨x2, rfl⟩ := bs_aI (hj 2 _ rfl)
    have rg2 := n_range x2
    obtain ⟨pl0, ph0⟩ := bs_s1 (x := x1.toInt) rfl (hpre _ (List.mem_of_getElem? (i := 0) rfl))
    obtain ⟨pl1, ph1⟩ := bs_s1 (x := x2.toInt) rfl (hpre _ (List.mem_of_getElem? (i := 1) rfl))
    clear hpre hj
    have F0 : sf_fr [(11, 4, 4), (11, 11, 18)] t hp t hp := sf_fr_rf
    refine bs_finx (E := ke_X11_takes_v) (K := kq_X11_takes_v) (L := (L_X11_takes Z_X11_bad Z_X11_isIn Z_X11_next)) (nL := 3) (Nat.le_of_ble_eq_true rfl) ?_
    obtain ⟨Q, hQ⟩ : ∃ Q : ab_O → Prop, Q = (fun o => ∃ t', sf_h t' o.2 ∧ sf_fr (kq_X11_takes_v).2.2.2.2 t hp t' o.2 ∧ sf_an t' o.2.1 (kq_X11_takes_v).2.2.1 o.1 ∧ sf_S (sf_v1 o.1 [.ref 69, .int x1, .int x2] o.2) (kq_X11_takes_v).2.2.2.1 ∧ ke_X11_takes_v [.ref 69, .int x1, .int x2] hp o.1 o.2) := ⟨_, rfl⟩
    rw [← hQ]
    refine (show Ev (ab_T (L_X11_takes Z_X11_bad Z_X11_isIn Z_X11_next)) 0 ([some (.ref 69), some (.int x1), some (.int x2)], [], (0, 0), hp) Q from ?_)
    refine Ev.step (j := 1) (s' := ([some (.ref 69), some (.int x1), some (.int x2)], [.ref 69], (0, 0), hp)) rfl rfl ?_
    refine bs_getI 11 rfl rfl rfl H (bs_R.uq H (g := 11) rfl) (by decide) rfl fun z1 hz1 lz1 gz1 => ?_
    refine bs_lit (k := 2) rfl rfl fun z2 hz2 => ?_
    refine bs_eq rfl (fun c3 => ?_) (fun c3 => ?_)
    · skip
      have c4 : z1.toInt = 2 := by omega
      refine Ev.step (j := 15) (s' := ([some (.ref 69), some (.int x1), some (.int x2)], [.ref 69], (0, 0), hp)) rfl rfl ?_
      refine bs_getI 11 rfl rfl rfl H (bs_R.uq H (g := 11) rfl) (by decide) rfl fun z5 hz5 lz5 gz5 => ?_
      refine Ev.step (j := 19) (s' := ([some (.ref 69), some (.int x1), some (.int x2)], [.int x1, .int z5], (0, 0), hp)) rfl rfl ?_
      refine Ev.step (j := 20) (s' := ([some (.ref 69), some (.int x1), some (.int x2)], [.int x2, .int x1, .int z5], (0, 0), hp)) rfl rfl ?_
      refine Ev.inlS (L := L_X11_isIn) (nL := 3) rfl rfl (Nat.le_of_ble_eq_true rfl) ?_
      generalize hQ6 : (fun (o : ab_O) => Ev _ _ _ _) = Q6
      refine (show Ev (ab_T L_X11_isIn) 0 ([some (.int z5), some (.int x1), some (.int x2)], [], (0, 0), hp) Q6 from ?_)
      refine Ev.step (j := 1) (s' := ([some (.int z5), some (.int x1), some (.int x2)], [.int z5], (0, 0), hp)) rfl rfl ?_
      refine Ev.step (j := 2) (s' := ([some (.int z5), some (.int x1), some (.int x2)], [.int x1, .int z5], (0, 0), hp)) rfl rfl ?_
      refine bs_lt rfl (fun c7 => ?_) (fun c7 => ?_)
      · skip
        refine bs_lit (k := 0) rfl rfl fun z8 hz8 => ?_
        refine bs_zret rfl rfl (by omega) (by omega) ?_
        rw [← hQ6]
        refine (show Ev _ 23 ([some (.ref 69), some (.int x1), some (.int x2)], [.int z8], (0, 0), hp) _ from ?_)
        refine bs_ifne rfl (fun c9 => ?_) (fun c9 => ?_)
        · exfalso; omega
        · skip
          refine Ev.step (j := 27) (s' := ([some (.ref 69), some (.int x1), some (.int x2)], [.ref 69], (0, 0), hp)) rfl rfl ?_
          refine bs_lit (k := 2) rfl rfl fun z10 hz10 => ?_
          refine Ev.inl (L := L_X11_bad) (nL := 2) rfl (bs_rcv (g := 11) H (bs_R.uq H (g := 11) rfl) (by decide) rfl) rfl (Nat.le_of_ble_eq_true rfl) ?_
          generalize hQ11 : (fun (o : ab_O) => Ev _ _ _ _) = Q11
          refine (show Ev (ab_T L_X11_bad) 0 ([some (.ref 69), some (.int z10)], [], (0, 0), hp) Q11 from ?_)
          refine Ev.step (j := 1) (s' := ([some (.ref 69), some (.int z10)], [.ref 69], (0, 0), hp)) rfl rfl ?_
          refine Ev.step (j := 2) (s' := ([some (.ref 69), some (.int z10)], [.int z10, .ref 69], (0, 0), hp)) rfl rfl ?_
          refine bs_putIv (W := [(11, 15, 15)]) (g := 11) rfl rfl H (bs_R.uq H (g := 11) rfl) (by decide) rfl rfl rfl rfl (Or.inl rfl) (by omega) (by omega) fun hp12 Hhp12 fhp12 rhp12 ehp12 qhp12 nhp12 => ?_
          have Fhp12 := sf_fr_tr F0 (sf_fr_wider (W := [(11, 4, 4), (11, 11, 18)]) rfl fhp12)
          have h13 : sf_rd hp12 69 11 = some z1.toInt := (ehp12 _ _ (Or.inr (by omega))).trans hz1
          have h14 : sf_rd hp12 69 14 = some z5.toInt := (ehp12 _ _ (Or.inr (by omega))).trans hz5
          refine Ev.step (j := 6) (s' := ([some (.ref 69), some (.int z10)], [.ref 69], (0, 0), hp12)) rfl rfl ?_
          refine Ev.step (j := 7) (s' := ([some (.ref 69), some (.int z10)], [.ref 69, .ref 69], (0, 0), hp12)) rfl rfl ?_
          refine bs_getI 11 rfl rfl rfl Hhp12 (bs_R.uq Hhp12 (g := 11) rfl) (by decide) rfl fun z15 hz15 lz15 gz15 => ?_
          refine bs_putIv (W := [(11, 16, 16)]) (g := 11) rfl rfl Hhp12 (bs_R.uq Hhp12 (g := 11) rfl) (by decide) rfl rfl rfl rfl (Or.inl rfl) (by omega) (by omega) fun hp16 Hhp16 fhp16 rhp16 ehp16 qhp16 nhp16 => ?_
          have Fhp16 := sf_fr_tr Fhp12 (sf_fr_wider (W := [(11, 4, 4), (11, 11, 18)]) rfl fhp16)
          have h17 : sf_rd hp16 69 11 = some z1.toInt := (ehp16 _ _ (Or.inr (by omega))).trans h13
          have h18 : sf_rd hp16 69 14 = some z5.toInt := (ehp16 _ _ (Or.inr (by omega))).trans h14
          have h19 : sf_rd hp16 69 15 = some z10.toInt := (ehp16 _ _ (Or.inr (by omega))).trans rhp12
          have h20 : sf_rd hp16 69 12 = some z15.toInt := (ehp16 _ _ (Or.inr (by omega))).trans hz15
          refine bs_lit (k := 0) rfl rfl fun z21 hz21 => ?_
          refine bs_zret rfl rfl (by omega) (by omega) ?_
          rw [← hQ11]
          refine (show Ev _ 31 ([some (.ref 69), some (.int x1), some (.int x2)], [.int z21], (0, 0), hp16) _ from ?_)
          exact bs_zret rfl rfl (by omega) (by omega) (by rw [hQ]; exact ⟨t, Hhp16, Fhp16, bs_an0, sf_S_cons (sf_s1 (x := z21.toInt) rfl (by omega) (by omega)) (sf_S_nil), (fun lo hi ha => by
                  cases ha
                  refine ⟨fun z hz hne => ?_, fun B n lim i hK => ?_⟩
                  · obtain rfl := Value.int.inj (Option.some.inj hz)
                    exact absurd hne (by omega)
                  · have KK := RK_k hK hz1
                    have K3 : (tok B n lim i).k = 3 := rkk_2 (by omega)
                    have VV := RK_v hK K3 hz5
                    have PL : z15.toInt = (tok B n lim i).pl := Option.some.inj (hz15.symm.trans (((ehp12 _ _ (Or.inr (by omega)))).trans (RK_pl hK)))
                    exact ⟨z21, rfl, Or.inr ⟨by omega, rhp16.trans (congrArg some PL), Or.inr ⟨⟨K3, by omega⟩, h19.trans (congrArg some (by omega))⟩⟩⟩)⟩)
      · skip
        refine Ev.step (j := 6) (s' := ([some (.int z5), some (.int x1), some (.int x2)], [.int z5], (0, 0), hp)) rfl rfl ?_
        refine Ev.step (j := 7) (s' := ([some (.int z5), some (.int x1), some (.int x2)], [.int x2, .int z5], (0, 0), hp)) rfl rfl ?_
        refine bs_gt rfl (fun c22 => ?_) (fun c22 => ?_)
        · skip
          refine bs_lit (k := 0) rfl rfl fun z23 hz23 => ?_
          refine bs_zret rfl rfl (by omega) (by omega) ?_
          rw [← hQ6]
          refine (show Ev _ 23 ([some (.ref 69), some (.int x1), some (.int x2)], [.int z23], (0, 0), hp) _ from ?_)
          refine bs_ifne rfl (fun c24 => ?_) (fun c24 => ?_)
          · exfalso; omega
          · skip
            refine Ev.step (j := 27) (s' := ([some (.ref 69), some (.int x1), some (.int x2)], [.ref 69], (0, 0), hp)) rfl rfl ?_
            refine bs_lit (k := 2) rfl rfl fun z25 hz25 => ?_
            refine Ev.inl (L := L_X11_bad) (nL := 2) rfl (bs_rcv (g := 11) H (bs_R.uq H (g := 11) rfl) (by decide) rfl) rfl (Nat.le_of_ble_eq_true rfl) ?_
            generalize hQ26 : (fun (o : ab_O) => Ev _ _ _ _) = Q26
            refine (show Ev (ab_T L_X11_bad) 0 ([some (.ref 69), some (.int z25)], [], (0, 0), hp) Q26 from ?_)
            refine Ev.step (j := 1) (s' := ([some (.ref 69), some (.int z25)], [.ref 69], (0, 0), hp)) rfl rfl ?_
            refine Ev.step (j := 2) (s' := ([some (.ref 69), some (.int z25)], [.int z25, .ref 69], (0, 0), hp)) rfl rfl ?_
            refine bs_putIv (W := [(11, 15, 15)]) (g := 11) rfl rfl H (bs_R.uq H (g := 11) rfl) (by decide) rfl rfl rfl rfl (Or.inl rfl) (by omega) (by omega) fun hp27 Hhp27 fhp27 rhp27 ehp27 qhp27 nhp27 => ?_
            have Fhp27 := sf_fr_tr F0 (sf_fr_wider (W := [(11, 4, 4), (11, 11, 18)]) rfl fhp27)
            have h28 : sf_rd hp27 69 11 = some z1.toInt := (ehp27 _ _ (Or.inr (by omega))).trans hz1
            have h29 : sf_rd hp27 69 14 = some z5.toInt := (ehp27 _ _ (Or.inr (by omega))).trans hz5
            refine Ev.step (j := 6) (s' := ([some (.ref 69), some (.int z25)], [.ref 69], (0, 0), hp27)) rfl rfl ?_
            refine Ev.step (j := 7) (s' := ([some (.ref 69), some (.int z25)], [.ref 69, .ref 69], (0, 0), hp27)) rfl rfl ?_
            refine bs_getI 11 rfl rfl rfl Hhp27 (bs_R.uq Hhp27 (g := 11) rfl) (by decide) rfl fun z30 hz30 lz30 gz30 => ?_
            refine bs_putIv (W := [(11, 16, 16)]) (g := 11) rfl rfl Hhp27 (bs_R.uq Hhp27 (g := 11) rfl) (by decide) rfl rfl rfl rfl (Or.inl rfl) (by omega) (by omega) fun hp31 Hhp31 fhp31 rhp31 ehp31 qhp31 nhp31 => ?_
            have Fhp31 := sf_fr_tr Fhp27 (sf_fr_wider (W := [(11, 4, 4), (11, 11, 18)]) rfl fhp31)
            have h32 : sf_rd hp31 69 11 = some z1.toInt := (ehp31 _ _ (Or.inr (by omega))).trans h28
            have h33 : sf_rd hp31 69 14 = some z5.toInt := (ehp31 _ _ (Or.inr (by omega))).trans h29
            have h34 : sf_rd hp31 69 15 = some z25.toInt := (ehp31 _ _ (Or.inr (by omega))).trans rhp27
            have h35 : sf_rd hp31 69 12 = some z30.toInt := (ehp31 _ _ (Or.inr (by omega))).trans hz30
            refine bs_lit (k := 0) rfl rfl fun z36 hz36 => ?_
            refine bs_zret rfl rfl (by omega) (by omega) ?_
            rw [← hQ26]
            refine (show Ev _ 31 ([some (.ref 69), some (.int x1), some (.int x2)], [.int z36], (0, 0), hp31) _ from ?_)
            exact bs_zret rfl rfl (by omega) (by omega) (by rw [hQ]; exact ⟨t, Hhp31, Fhp31, bs_an0, sf_S_cons (sf_s1 (x := z36.toInt) rfl (by omega) (by omega)) (sf_S_nil), (fun lo hi ha => by
                    cases ha
                    refine ⟨fun z hz hne => ?_, fun B n lim i hK => ?_⟩
                    · obtain rfl := Value.int.inj (Option.some.inj hz)
                      exact absurd hne (by omega)
                    · have KK := RK_k hK hz1
                      have K3 : (tok B n lim i).k = 3 := rkk_2 (by omega)
                      have VV := RK_v hK K3 hz5
                      have PL : z30.toInt = (tok B n lim i).pl := Option.some.inj (hz30.symm.trans (((ehp27 _ _ (Or.inr (by omega)))).trans (RK_pl hK)))
                      exact ⟨z36, rfl, Or.inr ⟨by omega, rhp31.trans (congrArg some PL), Or.inr ⟨⟨K3, by omega⟩, h34.trans (congrArg some (by omega))⟩⟩⟩)⟩)
        · skip
          refine bs_lit (k := 1) rfl rfl fun z37 hz37 => ?_
          refine Ev.step (j := 15) (s' := ([some (.int z5), some (.int x1), some (.int x2)], [.int z37], (0, 0), hp)) rfl rfl ?_
          refine bs_zret rfl rfl (by omega) (by omega) ?_
          rw [← hQ6]
          refine (show Ev _ 23 ([some (.ref 69), some (.int x1), some (.int x2)], [.int z37], (0, 0), hp) _ from ?_)
          refine bs_ifne rfl (fun c38 => ?_) (fun c38 => ?_)
          · skip
            refine Ev.step (j := 33) (s' := ([some (.ref 69), some (.int x1), some (.int x2)], [.ref 69], (0, 0), hp)) rfl rfl ?_
            refine Ev.step (j := 34) (s' := ([some (.ref 69), some (.int x1), some (.int x2)], [.ref 69, .ref 69], (0, 0), hp)) rfl rfl ?_
            refine bs_getI 11 rfl rfl rfl H (bs_R.uq H (g := 11) rfl) (by decide) rfl fun z39 hz39 lz39 gz39 => ?_
            have e40 : z39.toInt = z5.toInt := Option.some.inj (hz39.symm.trans hz5)
            refine bs_putIv (W := [(11, 18, 18)]) (g := 11) rfl rfl H (bs_R.uq H (g := 11) rfl) (by decide) rfl rfl rfl rfl (Or.inl rfl) (by omega) (by omega) fun hp41 Hhp41 fhp41 rhp41 ehp41 qhp41 nhp41 => ?_
            have Fhp41 := sf_fr_tr F0 (sf_fr_wider (W := [(11, 4, 4), (11, 11, 18)]) rfl fhp41)
            have h42 : sf_rd hp41 69 11 = some z1.toInt := (ehp41 _ _ (Or.inr (by omega))).trans hz1
            have h43 : sf_rd hp41 69 14 = some z5.toInt := (ehp41 _ _ (Or.inr (by omega))).trans hz5
            refine Ev.step (j := 41) (s' := ([some (.ref 69), some (.int x1), some (.int x2)], [.ref 69], (0, 0), hp41)) rfl rfl ?_
            refine bs_callx (K := kq_X11_next_v) [.ref 69] [] rfl ce_X11_next_v Hhp41 rfl rfl rfl (bs_rcv (g := 11) Hhp41 (bs_R.uq Hhp41 (g := 11) rfl) (by decide) rfl) rfl ?_ (sf_S_nil) fun r44 hp45 thp45 Hhp45 fhp45 ahp45 php45 xhp45 => ?_
            · intro q k h
              match q, h with
              | 0, h => cases h; exact bs_jR (bs_R.uq Hhp41 (g := 11) rfl)
              | q + 1, h => cases h
            obtain rfl := ahp45.1 rfl
            have Fhp45 := sf_fr_tr Fhp41 (sf_fr_wider (W := [(11, 4, 4), (11, 11, 18)]) rfl fhp45)
            have h46 : sf_rd hp45 69 18 = some z39.toInt := (fhp45.2.2.1 _ (bs_R.uq Hhp41 (g := 11) (p := 69) rfl).1 _ (by rw [(bs_R.uq Hhp41 (g := 11) (p := 69) rfl).2]; rfl)).trans rhp41
            refine (show Ev _ 44 ([some (.ref 69), some (.int x1), some (.int x2)], [], (0, 0), hp45) _ from ?_)
            refine bs_lit (k := 1) rfl rfl fun z47 hz47 => ?_
            exact bs_zret rfl rfl (by omega) (by omega) (by rw [hQ]; exact ⟨thp45, Hhp45, Fhp45, bs_an0, sf_S_cons (sf_s1 (x := z47.toInt) rfl (by omega) (by omega)) (sf_S_nil), (fun lo hi ha => by
                    cases ha
                    refine ⟨fun z hz hne => ?_, fun B n lim i hK => ?_⟩
                    · exact ⟨_, h46, by omega, by omega⟩
                    · have KK := RK_k hK hz1
                      have K3 : (tok B n lim i).k = 3 := rkk_2 (by omega)
                      have VV := RK_v hK K3 hz5
                      have K1 := RK_keep H fhp41 rfl rfl (nhp41 _ _) hK
                      have K2 := (RK_next Hhp41 fhp45 rfl rfl rfl xhp45 K1).1
                      exact ⟨z47, rfl, Or.inl ⟨by omega, K3, by omega, by omega, h46.trans (congrArg some (by omega)), K2⟩⟩)⟩)
          · exfalso; omega
    · skip
      refine Ev.step (j := 9) (s' := ([some (.ref 69), some (.int x1), some (.int x2)], [.ref 69], (0, 0), hp)) rfl rfl ?_
      refine bs_lit (k := 1) rfl rfl fun z48 hz48 => ?_
      refine Ev.inl (L := L_X11_bad) (nL := 2) rfl (bs_rcv (g := 11) H (bs_R.uq H (g := 11) rfl) (by decide) rfl) rfl (Nat.le_of_ble_eq_true rfl) ?_
      generalize hQ49 : (fun (o : ab_O) => Ev _ _ _ _) = Q49
      refine (show Ev (ab_T L_X11_bad) 0 ([some (.ref 69), some (.int z48)], [], (0, 0), hp) Q49 from ?_)
      refine Ev.step (j := 1) (s' := ([some (.ref 69), some (.int z48)], [.ref 69], (0, 0), hp)) rfl rfl ?_
      refine Ev.step (j := 2) (s' := ([some (.ref 69), some (.int z48)], [.int z48, .ref 69], (0, 0), hp)) rfl rfl ?_
      refine bs_putIv (W := [(11, 15, 15)]) (g := 11) rfl rfl H (bs_R.uq H (g := 11) rfl) (by decide) rfl rfl rfl rfl (Or.inl rfl) (by omega) (by omega) fun hp50 Hhp50 fhp50 rhp50 ehp50 qhp50 nhp50 => ?_
      have Fhp50 := sf_fr_tr F0 (sf_fr_wider (W := [(11, 4, 4), (11, 11, 18)]) rfl fhp50)
      have h51 : sf_rd hp50 69 11 = some z1.toInt := (ehp50 _ _ (Or.inr (by omega))).trans hz1
      refine Ev.step (j := 6) (s' := ([some (.ref 69), some (.int z48)], [.ref 69], (0, 0), hp50)) rfl rfl ?_
      refine Ev.step (j := 7) (s' := ([some (.ref 69), some (.int z48)], [.ref 69, .ref 69], (0, 0), hp50)) rfl rfl ?_
      refine bs_getI 11 rfl rfl rfl Hhp50 (bs_R.uq Hhp50 (g := 11) rfl) (by decide) rfl fun z52 hz52 lz52 gz52 => ?_
      refine bs_putIv (W := [(11, 16, 16)]) (g := 11) rfl rfl Hhp50 (bs_R.uq Hhp50 (g := 11) rfl) (by decide) rfl rfl rfl rfl (Or.inl rfl) (by omega) (by omega) fun hp53 Hhp53 fhp53 rhp53 ehp53 qhp53 nhp53 => ?_
      have Fhp53 := sf_fr_tr Fhp50 (sf_fr_wider (W := [(11, 4, 4), (11, 11, 18)]) rfl fhp53)
      have h54 : sf_rd hp53 69 11 = some z1.toInt := (ehp53 _ _ (Or.inr (by omega))).trans h51
      have h55 : sf_rd hp53 69 15 = some z48.toInt := (ehp53 _ _ (Or.inr (by omega))).trans rhp50
      have h56 : sf_rd hp53 69 12 = some z52.toInt := (ehp53 _ _ (Or.inr (by omega))).trans hz52
      refine bs_lit (k := 0) rfl rfl fun z57 hz57 => ?_
      refine bs_zret rfl rfl (by omega) (by omega) ?_
      rw [← hQ49]
      refine (show Ev _ 13 ([some (.ref 69), some (.int x1), some (.int x2)], [.int z57], (0, 0), hp53) _ from ?_)
      exact bs_zret rfl rfl (by omega) (by omega) (by rw [hQ]; exact ⟨t, Hhp53, Fhp53, bs_an0, sf_S_cons (sf_s1 (x := z57.toInt) rfl (by omega) (by omega)) (sf_S_nil), (fun lo hi ha => by
              cases ha
              refine ⟨fun z hz hne => ?_, fun B n lim i hK => ?_⟩
              · obtain rfl := Value.int.inj (Option.some.inj hz)
                exact absurd hne (by omega)
              · have KK := RK_k hK hz1
                have PL : z52.toInt = (tok B n lim i).pl := Option.some.inj (hz52.symm.trans (((ehp50 _ _ (Or.inr (by omega)))).trans (RK_pl hK)))
                have K3 : (tok B n lim i).k ≠ 3 := fun e => by rw [e] at KK; have KK2 : _ = (2 : Int) := KK; omega
                exact ⟨z57, rfl, Or.inr ⟨by omega, rhp53.trans (congrArg some PL), Or.inl ⟨K3, h55.trans (congrArg some (by omega))⟩⟩⟩)⟩)
theorem ct_X11_takes_v : sf_ct kq_X11_takes_v Z_X11_takes := ce_X11_takes_v.ct
def kq_X11_puts_v0 : sf_Q := ([(1, 11, 0), (0, 0, 0), (0, 0, 0), (0, 0, 0)], [(1, 3, 0, 2, 2, 0), (1, 6, 0, 1, 1, 0), (1, 9, 0, 40, 40, 0)], some (0, 0, 0), [(1, 0, 0, 0, 1, 0)], [(11, 4, 4), (11, 11, 18), (133, 2, 2)])
def ke_X11_puts_v0 : List Value → ab_H → Option Value → ab_H → Prop := fun as hp r hp' => ∀ (p lo hi : Int32) (B : Nat → Int) (n lim i : Nat), as = [.ref 69, .int p, .int lo, .int hi] → RK hp B n lim i → ∃ z : Int32, r = some (.int z) ∧ ((z.toInt = 1 ∧ (tok B n lim i).k = 3 ∧ lo.toInt ≤ (tok B n lim i).v ∧ (tok B n lim i).v ≤ hi.toInt ∧ sf_rd hp' 72 p.toInt.toNat = some (tok B n lim i).v ∧ (∀ q, q ≠ p.toInt.toNat → sf_rd hp' 72 q = sf_rd hp 72 q) ∧ RK hp' B n lim (i + 1)) ∨ (z.toInt = 0 ∧ sf_rd hp' 69 16 = some (tok B n lim i).pl ∧ (((tok B n lim i).k ≠ 3 ∧ sf_rd hp' 69 15 = some 1) ∨ (((tok B n lim i).k = 3 ∧ ((tok B n lim i).v < lo.toInt ∨ hi.toInt < (tok B n lim i).v)) ∧ sf_rd hp' 69 15 = some 2))))
set_option maxRecDepth 100000 in
set_option maxHeartbeats 4000000 in
theorem ce_X11_puts_v0 : sf_cE kq_X11_puts_v0 Z_X11_puts ke_X11_puts_v0 := by
  intro t hp as H hl hj hpre
  match as, hl with
  | [v0, v1, v2, v3], _ =>
    obtain ⟨a0, rfl, ra0⟩ := bs_aR (hj 0 _ rfl)
    obtain rfl := ra0.eq H (p := 69) rfl
    obtain ⟨x1, rfl⟩ := bs_aI (hj 1 _ rfl)
    have rg1 := n_range x1
    obtain ⟨x2, rfl⟩ := bs_aI (hj 2 _ rfl)
    have rg2 := n_range x2
    obtain ⟨x3, rfl⟩ := bs_aI (hj 3 _ rfl)
    have rg3 := n_range x3
    obtain ⟨pl0, ph0⟩ := bs_s1 (x := x1.toInt) rfl (hpre _ (List.mem_of_getElem? (i := 0) rfl))
    obtain ⟨pl1, ph1⟩ := bs_s1 (x := x2.toInt) rfl (hpre _ (List.mem_of_getElem? (i := 1) rfl))
    obtain ⟨pl2, ph2⟩ := bs_s1 (x := x3.toInt) rfl (hpre _ (List.mem_of_getElem? (i := 2) rfl))
    clear hpre hj
    have F0 : sf_fr [(11, 4, 4), (11, 11, 18), (133, 2, 2)] t hp t hp := sf_fr_rf
    refine bs_finx (E := ke_X11_puts_v0) (K := kq_X11_puts_v0) (L := (L_X11_puts Z_X11_takes)) (nL := 4) (Nat.le_of_ble_eq_true rfl) ?_
    obtain ⟨Q, hQ⟩ : ∃ Q : ab_O → Prop, Q = (fun o => ∃ t', sf_h t' o.2 ∧ sf_fr (kq_X11_puts_v0).2.2.2.2 t hp t' o.2 ∧ sf_an t' o.2.1 (kq_X11_puts_v0).2.2.1 o.1 ∧ sf_S (sf_v1 o.1 [.ref 69, .int x1, .int x2, .int x3] o.2) (kq_X11_puts_v0).2.2.2.1 ∧ ke_X11_puts_v0 [.ref 69, .int x1, .int x2, .int x3] hp o.1 o.2) := ⟨_, rfl⟩
    rw [← hQ]
    refine (show Ev (ab_T (L_X11_puts Z_X11_takes)) 0 ([some (.ref 69), some (.int x1), some (.int x2), some (.int x3)], [], (0, 0), hp) Q from ?_)
    refine Ev.step (j := 1) (s' := ([some (.ref 69), some (.int x1), some (.int x2), some (.int x3)], [.ref 69], (0, 0), hp)) rfl rfl ?_
    refine Ev.step (j := 2) (s' := ([some (.ref 69), some (.int x1), some (.int x2), some (.int x3)], [.int x2, .ref 69], (0, 0), hp)) rfl rfl ?_
    refine Ev.step (j := 3) (s' := ([some (.ref 69), some (.int x1), some (.int x2), some (.int x3)], [.int x3, .int x2, .ref 69], (0, 0), hp)) rfl rfl ?_
    refine bs_callx (K := kq_X11_takes_v) [.ref 69, .int x2, .int x3] [] rfl ce_X11_takes_v H rfl rfl rfl (bs_rcv (g := 11) H (bs_R.uq H (g := 11) rfl) (by decide) rfl) rfl ?_ (sf_S_cons (sf_s1 (x := x2.toInt) rfl (by omega) (by omega)) (sf_S_cons (sf_s1 (x := x3.toInt) rfl (by omega) (by omega)) (sf_S_nil))) fun r1 hp2 thp2 Hhp2 fhp2 ahp2 php2 xhp2 => ?_
    · intro q k h
      match q, h with
      | 0, h => cases h; exact bs_jR (bs_R.uq H (g := 11) rfl)
      | 1, h => cases h; exact sf_j0
      | 2, h => cases h; exact sf_j0
      | q + 3, h => cases h
    obtain ⟨z3, rfl⟩ := bs_anI ahp2
    have rgz3 := n_range z3
    have Fhp2 := sf_fr_tr F0 (sf_fr_wider (W := [(11, 4, 4), (11, 11, 18), (133, 2, 2)]) rfl fhp2)
    obtain ⟨uz3, vz3⟩ := bs_s1 (x := z3.toInt) rfl (php2 _ (List.mem_of_getElem? (i := 0) rfl))
    refine (show Ev _ 6 ([some (.ref 69), some (.int x1), some (.int x2), some (.int x3)], [.int z3], (0, 0), hp2) _ from ?_)
    refine bs_ifne rfl (fun c4 => ?_) (fun c4 => ?_)
    · skip
      obtain ⟨y5, hy5, ly5, gy5⟩ := (xhp2 _ _ rfl).1 _ rfl (by omega)
      refine Ev.step (j := 12) (s' := ([some (.ref 69), some (.int x1), some (.int x2), some (.int x3)], [.ref 69], (0, 0), hp2)) rfl rfl ?_
      refine bs_getU (g := 11) (g1 := 133) rfl rfl Hhp2 (bs_R.uq Hhp2 (g := 11) rfl) (by decide) rfl rfl ?_
      refine Ev.step (j := 16) (s' := ([some (.ref 69), some (.int x1), some (.int x2), some (.int x3)], [.int x1, .ref 72], (0, 0), hp2)) rfl rfl ?_
      refine Ev.step (j := 17) (s' := ([some (.ref 69), some (.int x1), some (.int x2), some (.int x3)], [.ref 69, .int x1, .ref 72], (0, 0), hp2)) rfl rfl ?_
      refine bs_getI 11 rfl rfl rfl Hhp2 (bs_R.uq Hhp2 (g := 11) rfl) (by decide) rfl fun z6 hz6 lz6 gz6 => ?_
      have e7 : z6.toInt = y5 := Option.some.inj (hz6.symm.trans hy5)
      refine bs_stv (W := [(133, 2, 2)]) (g := 133) 2 2 (0, 40) rfl Hhp2 (bs_R.uq Hhp2 (g := 133) rfl) (by decide) rfl rfl (by decide) rfl rfl (by omega) (by omega) (by dsimp only; omega) (by dsimp only; omega) fun hp8 Hhp8 fhp8 rhp8 ehp8 qhp8 nhp8 => ?_
      have Fhp8 := sf_fr_tr Fhp2 (sf_fr_wider (W := [(11, 4, 4), (11, 11, 18), (133, 2, 2)]) rfl fhp8)
      have h9 : sf_rd hp8 69 18 = some y5 := (ehp8 _ _ (Or.inl (by decide))).trans hy5
      refine bs_lit (k := 1) rfl rfl fun z10 hz10 => ?_
      exact bs_zret rfl rfl (by omega) (by omega) (by rw [hQ]; exact ⟨thp2, Hhp8, Fhp8, bs_an0, sf_S_cons (sf_s1 (x := z10.toInt) rfl (by omega) (by omega)) (sf_S_nil), (fun p lo hi B n lim i ha hK => by
              cases ha
              obtain ⟨q1, rq1, X1⟩ := (xhp2 _ _ rfl).2 B n lim i hK
              obtain rfl := Value.int.inj (Option.some.inj rq1)
              obtain ⟨Y0, Y1, Y2, Y3, Y4, Y5⟩ := X1.resolve_right (fun h => absurd h.1 (by omega))
              have VV : y5 = (tok B n lim i).v := Option.some.inj (hy5.symm.trans Y4)
              exact ⟨z10, rfl, Or.inl ⟨by omega, Y1, Y2, Y3, rhp8.trans (congrArg some (by omega)), fun q hq => ((ehp8 _ _ (Or.inr (by omega))).trans (fhp2.2.2.1 _ (bs_R.uq H (g := 133) (p := 72) rfl).1 _ (by rw [(bs_R.uq H (g := 133) (p := 72) rfl).2]; rfl))), RK_keep Hhp2 fhp8 rfl rfl (nhp8 _ _) Y5⟩⟩)⟩)
    · skip
      have c11 : z3.toInt = 0 := by omega
      refine bs_lit (k := 0) rfl rfl fun z12 hz12 => ?_
      exact bs_zret rfl rfl (by omega) (by omega) (by rw [hQ]; exact ⟨thp2, Hhp2, Fhp2, bs_an0, sf_S_cons (sf_s1 (x := z12.toInt) rfl (by omega) (by omega)) (sf_S_nil), (fun p lo hi B n lim i ha hK => by
              cases ha
              obtain ⟨q1, rq1, X1⟩ := (xhp2 _ _ rfl).2 B n lim i hK
              obtain rfl := Value.int.inj (Option.some.inj rq1)
              obtain ⟨Y0, Y1, Y2⟩ := X1.resolve_left (fun h => absurd h.1 (by omega))
              exact ⟨z12, rfl, Or.inr ⟨by omega, Y1, Y2⟩⟩)⟩)
theorem ct_X11_puts_v0 : sf_ct kq_X11_puts_v0 Z_X11_puts := ce_X11_puts_v0.ct
def kq_X11_puts_v1 : sf_Q := ([(1, 11, 0), (0, 0, 0), (0, 0, 0), (0, 0, 0)], [(1, 3, 0, 52, 59, 0), (1, 6, 0, 0, 0, 0), (1, 9, 0, 1, 1, 0)], some (0, 0, 0), [(1, 0, 0, 0, 1, 0)], [(11, 4, 4), (11, 11, 18), (133, 52, 59)])
def ke_X11_puts_v1 : List Value → ab_H → Option Value → ab_H → Prop := fun as hp r hp' => ∀ (p lo hi : Int32) (B : Nat → Int) (n lim i : Nat), as = [.ref 69, .int p, .int lo, .int hi] → RK hp B n lim i → ∃ z : Int32, r = some (.int z) ∧ ((z.toInt = 1 ∧ (tok B n lim i).k = 3 ∧ lo.toInt ≤ (tok B n lim i).v ∧ (tok B n lim i).v ≤ hi.toInt ∧ sf_rd hp' 72 p.toInt.toNat = some (tok B n lim i).v ∧ (∀ q, q ≠ p.toInt.toNat → sf_rd hp' 72 q = sf_rd hp 72 q) ∧ RK hp' B n lim (i + 1)) ∨ (z.toInt = 0 ∧ sf_rd hp' 69 16 = some (tok B n lim i).pl ∧ (((tok B n lim i).k ≠ 3 ∧ sf_rd hp' 69 15 = some 1) ∨ (((tok B n lim i).k = 3 ∧ ((tok B n lim i).v < lo.toInt ∨ hi.toInt < (tok B n lim i).v)) ∧ sf_rd hp' 69 15 = some 2))))
set_option maxRecDepth 100000 in
set_option maxHeartbeats 4000000 in
theorem ce_X11_puts_v1 : sf_cE kq_X11_puts_v1 Z_X11_puts ke_X11_puts_v1 := by
  intro t hp as H hl hj hpre
  match as, hl with
  | [v0, v1, v2, v3], _ =>
    obtain ⟨a0, rfl, ra0⟩ := bs_aR (hj 0 _ rfl)
    obtain rfl := ra0.eq H (p := 69) rfl
    obtain ⟨x1, rfl⟩ := bs_aI (hj 1 _ rfl)
    have rg1 := n_range x1
    obtain ⟨x2, rfl⟩ := bs_aI (hj 2 _ rfl)
    have rg2 := n_range x2
    obtain ⟨x3, rfl⟩ := bs_aI (hj 3 _ rfl)
    have rg3 := n_range x3
    obtain ⟨pl0, ph0⟩ := bs_s1 (x := x1.toInt) rfl (hpre _ (List.mem_of_getElem? (i := 0) rfl))
    obtain ⟨pl1, ph1⟩ := bs_s1 (x := x2.toInt) rfl (hpre _ (List.mem_of_getElem? (i := 1) rfl))
    obtain ⟨pl2, ph2⟩ := bs_s1 (x := x3.toInt) rfl (hpre _ (List.mem_of_getElem? (i := 2) rfl))
    clear hpre hj
    have F0 : sf_fr [(11, 4, 4), (11, 11, 18), (133, 52, 59)] t hp t hp := sf_fr_rf
    refine bs_finx (E := ke_X11_puts_v1) (K := kq_X11_puts_v1) (L := (L_X11_puts Z_X11_takes)) (nL := 4) (Nat.le_of_ble_eq_true rfl) ?_
    obtain ⟨Q, hQ⟩ : ∃ Q : ab_O → Prop, Q = (fun o => ∃ t', sf_h t' o.2 ∧ sf_fr (kq_X11_puts_v1).2.2.2.2 t hp t' o.2 ∧ sf_an t' o.2.1 (kq_X11_puts_v1).2.2.1 o.1 ∧ sf_S (sf_v1 o.1 [.ref 69, .int x1, .int x2, .int x3] o.2) (kq_X11_puts_v1).2.2.2.1 ∧ ke_X11_puts_v1 [.ref 69, .int x1, .int x2, .int x3] hp o.1 o.2) := ⟨_, rfl⟩
    rw [← hQ]
    refine (show Ev (ab_T (L_X11_puts Z_X11_takes)) 0 ([some (.ref 69), some (.int x1), some (.int x2), some (.int x3)], [], (0, 0), hp) Q from ?_)
    refine Ev.step (j := 1) (s' := ([some (.ref 69), some (.int x1), some (.int x2), some (.int x3)], [.ref 69], (0, 0), hp)) rfl rfl ?_
    refine Ev.step (j := 2) (s' := ([some (.ref 69), some (.int x1), some (.int x2), some (.int x3)], [.int x2, .ref 69], (0, 0), hp)) rfl rfl ?_
    refine Ev.step (j := 3) (s' := ([some (.ref 69), some (.int x1), some (.int x2), some (.int x3)], [.int x3, .int x2, .ref 69], (0, 0), hp)) rfl rfl ?_
    refine bs_callx (K := kq_X11_takes_v) [.ref 69, .int x2, .int x3] [] rfl ce_X11_takes_v H rfl rfl rfl (bs_rcv (g := 11) H (bs_R.uq H (g := 11) rfl) (by decide) rfl) rfl ?_ (sf_S_cons (sf_s1 (x := x2.toInt) rfl (by omega) (by omega)) (sf_S_cons (sf_s1 (x := x3.toInt) rfl (by omega) (by omega)) (sf_S_nil))) fun r1 hp2 thp2 Hhp2 fhp2 ahp2 php2 xhp2 => ?_
    · intro q k h
      match q, h with
      | 0, h => cases h; exact bs_jR (bs_R.uq H (g := 11) rfl)
      | 1, h => cases h; exact sf_j0
      | 2, h => cases h; exact sf_j0
      | q + 3, h => cases h
    obtain ⟨z3, rfl⟩ := bs_anI ahp2
    have rgz3 := n_range z3
    have Fhp2 := sf_fr_tr F0 (sf_fr_wider (W := [(11, 4, 4), (11, 11, 18), (133, 52, 59)]) rfl fhp2)
    obtain ⟨uz3, vz3⟩ := bs_s1 (x := z3.toInt) rfl (php2 _ (List.mem_of_getElem? (i := 0) rfl))
    refine (show Ev _ 6 ([some (.ref 69), some (.int x1), some (.int x2), some (.int x3)], [.int z3], (0, 0), hp2) _ from ?_)
    refine bs_ifne rfl (fun c4 => ?_) (fun c4 => ?_)
    · skip
      obtain ⟨y5, hy5, ly5, gy5⟩ := (xhp2 _ _ rfl).1 _ rfl (by omega)
      refine Ev.step (j := 12) (s' := ([some (.ref 69), some (.int x1), some (.int x2), some (.int x3)], [.ref 69], (0, 0), hp2)) rfl rfl ?_
      refine bs_getU (g := 11) (g1 := 133) rfl rfl Hhp2 (bs_R.uq Hhp2 (g := 11) rfl) (by decide) rfl rfl ?_
      refine Ev.step (j := 16) (s' := ([some (.ref 69), some (.int x1), some (.int x2), some (.int x3)], [.int x1, .ref 72], (0, 0), hp2)) rfl rfl ?_
      refine Ev.step (j := 17) (s' := ([some (.ref 69), some (.int x1), some (.int x2), some (.int x3)], [.ref 69, .int x1, .ref 72], (0, 0), hp2)) rfl rfl ?_
      refine bs_getI 11 rfl rfl rfl Hhp2 (bs_R.uq Hhp2 (g := 11) rfl) (by decide) rfl fun z6 hz6 lz6 gz6 => ?_
      have e7 : z6.toInt = y5 := Option.some.inj (hz6.symm.trans hy5)
      refine bs_stv (W := [(133, 52, 59)]) (g := 133) 52 59 (-2147483648, 2147483647) rfl Hhp2 (bs_R.uq Hhp2 (g := 133) rfl) (by decide) rfl rfl (by decide) rfl rfl (by omega) (by omega) (by dsimp only; omega) (by dsimp only; omega) fun hp8 Hhp8 fhp8 rhp8 ehp8 qhp8 nhp8 => ?_
      have Fhp8 := sf_fr_tr Fhp2 (sf_fr_wider (W := [(11, 4, 4), (11, 11, 18), (133, 52, 59)]) rfl fhp8)
      have h9 : sf_rd hp8 69 18 = some y5 := (ehp8 _ _ (Or.inl (by decide))).trans hy5
      refine bs_lit (k := 1) rfl rfl fun z10 hz10 => ?_
      exact bs_zret rfl rfl (by omega) (by omega) (by rw [hQ]; exact ⟨thp2, Hhp8, Fhp8, bs_an0, sf_S_cons (sf_s1 (x := z10.toInt) rfl (by omega) (by omega)) (sf_S_nil), (fun p lo hi B n lim i ha hK => by
              cases ha
              obtain ⟨q1, rq1, X1⟩ := (xhp2 _ _ rfl).2 B n lim i hK
              obtain rfl := Value.int.inj (Option.some.inj rq1)
              obtain ⟨Y0, Y1, Y2, Y3, Y4, Y5⟩ := X1.resolve_right (fun h => absurd h.1 (by omega))
              have VV : y5 = (tok B n lim i).v := Option.some.inj (hy5.symm.trans Y4)
              exact ⟨z10, rfl, Or.inl ⟨by omega, Y1, Y2, Y3, rhp8.trans (congrArg some (by omega)), fun q hq => ((ehp8 _ _ (Or.inr (by omega))).trans (fhp2.2.2.1 _ (bs_R.uq H (g := 133) (p := 72) rfl).1 _ (by rw [(bs_R.uq H (g := 133) (p := 72) rfl).2]; rfl))), RK_keep Hhp2 fhp8 rfl rfl (nhp8 _ _) Y5⟩⟩)⟩)
    · skip
      have c11 : z3.toInt = 0 := by omega
      refine bs_lit (k := 0) rfl rfl fun z12 hz12 => ?_
      exact bs_zret rfl rfl (by omega) (by omega) (by rw [hQ]; exact ⟨thp2, Hhp2, Fhp2, bs_an0, sf_S_cons (sf_s1 (x := z12.toInt) rfl (by omega) (by omega)) (sf_S_nil), (fun p lo hi B n lim i ha hK => by
              cases ha
              obtain ⟨q1, rq1, X1⟩ := (xhp2 _ _ rfl).2 B n lim i hK
              obtain rfl := Value.int.inj (Option.some.inj rq1)
              obtain ⟨Y0, Y1, Y2⟩ := X1.resolve_left (fun h => absurd h.1 (by omega))
              exact ⟨z12, rfl, Or.inr ⟨by omega, Y1, Y2⟩⟩)⟩)
theorem ct_X11_puts_v1 : sf_ct kq_X11_puts_v1 Z_X11_puts := ce_X11_puts_v1.ct
def kq_X11_puts_v2 : sf_Q := ([(1, 11, 0), (0, 0, 0), (0, 0, 0), (0, 0, 0)], [(1, 3, 0, 4, 51, 0), (1, 6, 0, 0, 0, 0), (1, 9, 0, 20, 250, 0)], some (0, 0, 0), [(1, 0, 0, 0, 1, 0)], [(11, 4, 4), (11, 11, 18), (133, 4, 51)])
def ke_X11_puts_v2 : List Value → ab_H → Option Value → ab_H → Prop := fun as hp r hp' => ∀ (p lo hi : Int32) (B : Nat → Int) (n lim i : Nat), as = [.ref 69, .int p, .int lo, .int hi] → RK hp B n lim i → ∃ z : Int32, r = some (.int z) ∧ ((z.toInt = 1 ∧ (tok B n lim i).k = 3 ∧ lo.toInt ≤ (tok B n lim i).v ∧ (tok B n lim i).v ≤ hi.toInt ∧ sf_rd hp' 72 p.toInt.toNat = some (tok B n lim i).v ∧ (∀ q, q ≠ p.toInt.toNat → sf_rd hp' 72 q = sf_rd hp 72 q) ∧ RK hp' B n lim (i + 1)) ∨ (z.toInt = 0 ∧ sf_rd hp' 69 16 = some (tok B n lim i).pl ∧ (((tok B n lim i).k ≠ 3 ∧ sf_rd hp' 69 15 = some 1) ∨ (((tok B n lim i).k = 3 ∧ ((tok B n lim i).v < lo.toInt ∨ hi.toInt < (tok B n lim i).v)) ∧ sf_rd hp' 69 15 = some 2))))
set_option maxRecDepth 100000 in
set_option maxHeartbeats 4000000 in
theorem ce_X11_puts_v2 : sf_cE kq_X11_puts_v2 Z_X11_puts ke_X11_puts_v2 := by
  intro t hp as H hl hj hpre
  match as, hl with
  | [v0, v1, v2, v3], _ =>
    obtain ⟨a0, rfl, ra0⟩ := bs_aR (hj 0 _ rfl)
    obtain rfl := ra0.eq H (p := 69) rfl
    obtain ⟨x1, rfl⟩ := bs_aI (hj 1 _ rfl)
    have rg1 := n_range x1
    obtain ⟨x2, rfl⟩ := bs_aI (hj 2 _ rfl)
    have rg2 := n_range x2
    obtain ⟨x3, rfl⟩ := bs_aI (hj 3 _ rfl)
    have rg3 := n_range x3
    obtain ⟨pl0, ph0⟩ := bs_s1 (x := x1.toInt) rfl (hpre _ (List.mem_of_getElem? (i := 0) rfl))
    obtain ⟨pl1, ph1⟩ := bs_s1 (x := x2.toInt) rfl (hpre _ (List.mem_of_getElem? (i := 1) rfl))
    obtain ⟨pl2, ph2⟩ := bs_s1 (x := x3.toInt) rfl (hpre _ (List.mem_of_getElem? (i := 2) rfl))
    clear hpre hj
    have F0 : sf_fr [(11, 4, 4), (11, 11, 18), (133, 4, 51)] t hp t hp := sf_fr_rf
    refine bs_finx (E := ke_X11_puts_v2) (K := kq_X11_puts_v2) (L := (L_X11_puts Z_X11_takes)) (nL := 4) (Nat.le_of_ble_eq_true rfl) ?_
    obtain ⟨Q, hQ⟩ : ∃ Q : ab_O → Prop, Q = (fun o => ∃ t', sf_h t' o.2 ∧ sf_fr (kq_X11_puts_v2).2.2.2.2 t hp t' o.2 ∧ sf_an t' o.2.1 (kq_X11_puts_v2).2.2.1 o.1 ∧ sf_S (sf_v1 o.1 [.ref 69, .int x1, .int x2, .int x3] o.2) (kq_X11_puts_v2).2.2.2.1 ∧ ke_X11_puts_v2 [.ref 69, .int x1, .int x2, .int x3] hp o.1 o.2) := ⟨_, rfl⟩
    rw [← hQ]
    refine (show Ev (ab_T (L_X11_puts Z_X11_takes)) 0 ([some (.ref 69), some (.int x1), some (.int x2), some (.int x3)], [], (0, 0), hp) Q from ?_)
    refine Ev.step (j := 1) (s' := ([some (.ref 69), some (.int x1), some (.int x2), some (.int x3)], [.ref 69], (0, 0), hp)) rfl rfl ?_
    refine Ev.step (j := 2) (s' := ([some (.ref 69), some (.int x1), some (.int x2), some (.int x3)], [.int x2, .ref 69], (0, 0), hp)) rfl rfl ?_
    refine Ev.step (j := 3) (s' := ([some (.ref 69), some (.int x1), some (.int x2), some (.int x3)], [.int x3, .int x2, .ref 69], (0, 0), hp)) rfl rfl ?_
    refine bs_callx (K := kq_X11_takes_v) [.ref 69, .int x2, .int x3] [] rfl ce_X11_takes_v H rfl rfl rfl (bs_rcv (g := 11) H (bs_R.uq H (g := 11) rfl) (by decide) rfl) rfl ?_ (sf_S_cons (sf_s1 (x := x2.toInt) rfl (by omega) (by omega)) (sf_S_cons (sf_s1 (x := x3.toInt) rfl (by omega) (by omega)) (sf_S_nil))) fun r1 hp2 thp2 Hhp2 fhp2 ahp2 php2 xhp2 => ?_
    · intro q k h
      match q, h with
      | 0, h => cases h; exact bs_jR (bs_R.uq H (g := 11) rfl)
      | 1, h => cases h; exact sf_j0
      | 2, h => cases h; exact sf_j0
      | q + 3, h => cases h
    obtain ⟨z3, rfl⟩ := bs_anI ahp2
    have rgz3 := n_range z3
    have Fhp2 := sf_fr_tr F0 (sf_fr_wider (W := [(11, 4, 4), (11, 11, 18), (133, 4, 51)]) rfl fhp2)
    obtain ⟨uz3, vz3⟩ := bs_s1 (x := z3.toInt) rfl (php2 _ (List.mem_of_getElem? (i := 0) rfl))
    refine (show Ev _ 6 ([some (.ref 69), some (.int x1), some (.int x2), some (.int x3)], [.int z3], (0, 0), hp2) _ from ?_)
    refine bs_ifne rfl (fun c4 => ?_) (fun c4 => ?_)
    · skip
      obtain ⟨y5, hy5, ly5, gy5⟩ := (xhp2 _ _ rfl).1 _ rfl (by omega)
      refine Ev.step (j := 12) (s' := ([some (.ref 69), some (.int x1), some (.int x2), some (.int x3)], [.ref 69], (0, 0), hp2)) rfl rfl ?_
      refine bs_getU (g := 11) (g1 := 133) rfl rfl Hhp2 (bs_R.uq Hhp2 (g := 11) rfl) (by decide) rfl rfl ?_
      refine Ev.step (j := 16) (s' := ([some (.ref 69), some (.int x1), some (.int x2), some (.int x3)], [.int x1, .ref 72], (0, 0), hp2)) rfl rfl ?_
      refine Ev.step (j := 17) (s' := ([some (.ref 69), some (.int x1), some (.int x2), some (.int x3)], [.ref 69, .int x1, .ref 72], (0, 0), hp2)) rfl rfl ?_
      refine bs_getI 11 rfl rfl rfl Hhp2 (bs_R.uq Hhp2 (g := 11) rfl) (by decide) rfl fun z6 hz6 lz6 gz6 => ?_
      have e7 : z6.toInt = y5 := Option.some.inj (hz6.symm.trans hy5)
      refine bs_stv (W := [(133, 4, 51)]) (g := 133) 4 51 (0, 250) rfl Hhp2 (bs_R.uq Hhp2 (g := 133) rfl) (by decide) rfl rfl (by decide) rfl rfl (by omega) (by omega) (by dsimp only; omega) (by dsimp only; omega) fun hp8 Hhp8 fhp8 rhp8 ehp8 qhp8 nhp8 => ?_
      have Fhp8 := sf_fr_tr Fhp2 (sf_fr_wider (W := [(11, 4, 4), (11, 11, 18), (133, 4, 51)]) rfl fhp8)
      have h9 : sf_rd hp8 69 18 = some y5 := (ehp8 _ _ (Or.inl (by decide))).trans hy5
      refine bs_lit (k := 1) rfl rfl fun z10 hz10 => ?_
      exact bs_zret rfl rfl (by omega) (by omega) (by rw [hQ]; exact ⟨thp2, Hhp8, Fhp8, bs_an0, sf_S_cons (sf_s1 (x := z10.toInt) rfl (by omega) (by omega)) (sf_S_nil), (fun p lo hi B n lim i ha hK => by
              cases ha
              obtain ⟨q1, rq1, X1⟩ := (xhp2 _ _ rfl).2 B n lim i hK
              obtain rfl := Value.int.inj (Option.some.inj rq1)
              obtain ⟨Y0, Y1, Y2, Y3, Y4, Y5⟩ := X1.resolve_right (fun h => absurd h.1 (by omega))
              have VV : y5 = (tok B n lim i).v := Option.some.inj (hy5.symm.trans Y4)
              exact ⟨z10, rfl, Or.inl ⟨by omega, Y1, Y2, Y3, rhp8.trans (congrArg some (by omega)), fun q hq => ((ehp8 _ _ (Or.inr (by omega))).trans (fhp2.2.2.1 _ (bs_R.uq H (g := 133) (p := 72) rfl).1 _ (by rw [(bs_R.uq H (g := 133) (p := 72) rfl).2]; rfl))), RK_keep Hhp2 fhp8 rfl rfl (nhp8 _ _) Y5⟩⟩)⟩)
    · skip
      have c11 : z3.toInt = 0 := by omega
      refine bs_lit (k := 0) rfl rfl fun z12 hz12 => ?_
      exact bs_zret rfl rfl (by omega) (by omega) (by rw [hQ]; exact ⟨thp2, Hhp2, Fhp2, bs_an0, sf_S_cons (sf_s1 (x := z12.toInt) rfl (by omega) (by omega)) (sf_S_nil), (fun p lo hi B n lim i ha hK => by
              cases ha
              obtain ⟨q1, rq1, X1⟩ := (xhp2 _ _ rfl).2 B n lim i hK
              obtain rfl := Value.int.inj (Option.some.inj rq1)
              obtain ⟨Y0, Y1, Y2⟩ := X1.resolve_left (fun h => absurd h.1 (by omega))
              exact ⟨z12, rfl, Or.inr ⟨by omega, Y1, Y2⟩⟩)⟩)
theorem ct_X11_puts_v2 : sf_ct kq_X11_puts_v2 Z_X11_puts := ce_X11_puts_v2.ct
def kq_X11_puts_v3 : sf_Q := ([(1, 11, 0), (0, 0, 0), (0, 0, 0), (0, 0, 0)], [(1, 3, 0, 100, 119, 0), (1, 6, 0, 0, 0, 0), (1, 9, 0, 60, 60, 0)], some (0, 0, 0), [(1, 0, 0, 0, 1, 0)], [(11, 4, 4), (11, 11, 18), (133, 100, 119)])
def ke_X11_puts_v3 : List Value → ab_H → Option Value → ab_H → Prop := fun as hp r hp' => ∀ (p lo hi : Int32) (B : Nat → Int) (n lim i : Nat), as = [.ref 69, .int p, .int lo, .int hi] → RK hp B n lim i → ∃ z : Int32, r = some (.int z) ∧ ((z.toInt = 1 ∧ (tok B n lim i).k = 3 ∧ lo.toInt ≤ (tok B n lim i).v ∧ (tok B n lim i).v ≤ hi.toInt ∧ sf_rd hp' 72 p.toInt.toNat = some (tok B n lim i).v ∧ (∀ q, q ≠ p.toInt.toNat → sf_rd hp' 72 q = sf_rd hp 72 q) ∧ RK hp' B n lim (i + 1)) ∨ (z.toInt = 0 ∧ sf_rd hp' 69 16 = some (tok B n lim i).pl ∧ (((tok B n lim i).k ≠ 3 ∧ sf_rd hp' 69 15 = some 1) ∨ (((tok B n lim i).k = 3 ∧ ((tok B n lim i).v < lo.toInt ∨ hi.toInt < (tok B n lim i).v)) ∧ sf_rd hp' 69 15 = some 2))))
set_option maxRecDepth 100000 in
set_option maxHeartbeats 4000000 in
theorem ce_X11_puts_v3 : sf_cE kq_X11_puts_v3 Z_X11_puts ke_X11_puts_v3 := by
  intro t hp as H hl hj hpre
  match as, hl with
  | [v0, v1, v2, v3], _ =>
    obtain ⟨a0, rfl, ra0⟩ := bs_aR (hj 0 _ rfl)
    obtain rfl := ra0.eq H (p := 69) rfl
    obtain ⟨x1, rfl⟩ := bs_aI (hj 1 _ rfl)
    have rg1 := n_range x1
    obtain ⟨x2, rfl⟩ := bs_aI (hj 2 _ rfl)
    have rg2 := n_range x2
    obtain ⟨x3, rfl⟩ := bs_aI (hj 3 _ rfl)
    have rg3 := n_range x3
    obtain ⟨pl0, ph0⟩ := bs_s1 (x := x1.toInt) rfl (hpre _ (List.mem_of_getElem? (i := 0) rfl))
    obtain ⟨pl1, ph1⟩ := bs_s1 (x := x2.toInt) rfl (hpre _ (List.mem_of_getElem? (i := 1) rfl))
    obtain ⟨pl2, ph2⟩ := bs_s1 (x := x3.toInt) rfl (hpre _ (List.mem_of_getElem? (i := 2) rfl))
    clear hpre hj
    have F0 : sf_fr [(11, 4, 4), (11, 11, 18), (133, 100, 119)] t hp t hp := sf_fr_rf
    refine bs_finx (E := ke_X11_puts_v3) (K := kq_X11_puts_v3) (L := (L_X11_puts Z_X11_takes)) (nL := 4) (Nat.le_of_ble_eq_true rfl) ?_
    obtain ⟨Q, hQ⟩ : ∃ Q : ab_O → Prop, Q = (fun o => ∃ t', sf_h t' o.2 ∧ sf_fr (kq_X11_puts_v3).2.2.2.2 t hp t' o.2 ∧ sf_an t' o.2.1 (kq_X11_puts_v3).2.2.1 o.1 ∧ sf_S (sf_v1 o.1 [.ref 69, .int x1, .int x2, .int x3] o.2) (kq_X11_puts_v3).2.2.2.1 ∧ ke_X11_puts_v3 [.ref 69, .int x1, .int x2, .int x3] hp o.1 o.2) := ⟨_, rfl⟩
    rw [← hQ]
    refine (show Ev (ab_T (L_X11_puts Z_X11_takes)) 0 ([some (.ref 69), some (.int x1), some (.int x2), some (.int x3)], [], (0, 0), hp) Q from ?_)
    refine Ev.step (j := 1) (s' := ([some (.ref 69), some (.int x1), some (.int x2), some (.int x3)], [.ref 69], (0, 0), hp)) rfl rfl ?_
    refine Ev.step (j := 2) (s' := ([some (.ref 69), some (.int x1), some (.int x2), some (.int x3)], [.int x2, .ref 69], (0, 0), hp)) rfl rfl ?_
    refine Ev.step (j := 3) (s' := ([some (.ref 69), some (.int x1), some (.int x2), some (.int x3)], [.int x3, .int x2, .ref 69], (0, 0), hp)) rfl rfl ?_
    refine bs_callx (K := kq_X11_takes_v) [.ref 69, .int x2, .int x3] [] rfl ce_X11_takes_v H rfl rfl rfl (bs_rcv (g := 11) H (bs_R.uq H (g := 11) rfl) (by decide) rfl) rfl ?_ (sf_S_cons (sf_s1 (x := x2.toInt) rfl (by omega) (by omega)) (sf_S_cons (sf_s1 (x := x3.toInt) rfl (by omega) (by omega)) (sf_S_nil))) fun r1 hp2 thp2 Hhp2 fhp2 ahp2 php2 xhp2 => ?_
    · intro q k h
      match q, h with
      | 0, h => cases h; exact bs_jR (bs_R.uq H (g := 11) rfl)
      | 1, h => cases h; exact sf_j0
      | 2, h => cases h; exact sf_j0
      | q + 3, h => cases h
    obtain ⟨z3, rfl⟩ := bs_anI ahp2
    have rgz3 := n_range z3
    have Fhp2 := sf_fr_tr F0 (sf_fr_wider (W := [(11, 4, 4), (11, 11, 18), (133, 100, 119)]) rfl fhp2)
    obtain ⟨uz3, vz3⟩ := bs_s1 (x := z3.toInt) rfl (php2 _ (List.mem_of_getElem? (i := 0) rfl))
    refine (show Ev _ 6 ([some (.ref 69), some (.int x1), some (.int x2), some (.int x3)], [.int z3], (0, 0), hp2) _ from ?_)
    refine bs_ifne rfl (fun c4 => ?_) (fun c4 => ?_)
    · skip
      obtain ⟨y5, hy5, ly5, gy5⟩ := (xhp2 _ _ rfl).1 _ rfl (by omega)
      refine Ev.step (j := 12) (s' := ([some (.ref 69), some (.int x1), some (.int x2), some (.int x3)], [.ref 69], (0, 0), hp2)) rfl rfl ?_
      refine bs_getU (g := 11) (g1 := 133) rfl rfl Hhp2 (bs_R.uq Hhp2 (g := 11) rfl) (by decide) rfl rfl ?_
      refine Ev.step (j := 16) (s' := ([some (.ref 69), some (.int x1), some (.int x2), some (.int x3)], [.int x1, .ref 72], (0, 0), hp2)) rfl rfl ?_
      refine Ev.step (j := 17) (s' := ([some (.ref 69), some (.int x1), some (.int x2), some (.int x3)], [.ref 69, .int x1, .ref 72], (0, 0), hp2)) rfl rfl ?_
      refine bs_getI 11 rfl rfl rfl Hhp2 (bs_R.uq Hhp2 (g := 11) rfl) (by decide) rfl fun z6 hz6 lz6 gz6 => ?_
      have e7 : z6.toInt = y5 := Option.some.inj (hz6.symm.trans hy5)
      refine bs_stv (W := [(133, 100, 119)]) (g := 133) 100 119 (-2147483648, 2147483647) rfl Hhp2 (bs_R.uq Hhp2 (g := 133) rfl) (by decide) rfl rfl (by decide) rfl rfl (by omega) (by omega) (by dsimp only; omega) (by dsimp only; omega) fun hp8 Hhp8 fhp8 rhp8 ehp8 qhp8 nhp8 => ?_
      have Fhp8 := sf_fr_tr Fhp2 (sf_fr_wider (W := [(11, 4, 4), (11, 11, 18), (133, 100, 119)]) rfl fhp8)
      have h9 : sf_rd hp8 69 18 = some y5 := (ehp8 _ _ (Or.inl (by decide))).trans hy5
      refine bs_lit (k := 1) rfl rfl fun z10 hz10 => ?_
      exact bs_zret rfl rfl (by omega) (by omega) (by rw [hQ]; exact ⟨thp2, Hhp8, Fhp8, bs_an0, sf_S_cons (sf_s1 (x := z10.toInt) rfl (by omega) (by omega)) (sf_S_nil), (fun p lo hi B n lim i ha hK => by
              cases ha
              obtain ⟨q1, rq1, X1⟩ := (xhp2 _ _ rfl).2 B n lim i hK
              obtain rfl := Value.int.inj (Option.some.inj rq1)
              obtain ⟨Y0, Y1, Y2, Y3, Y4, Y5⟩ := X1.resolve_right (fun h => absurd h.1 (by omega))
              have VV : y5 = (tok B n lim i).v := Option.some.inj (hy5.symm.trans Y4)
              exact ⟨z10, rfl, Or.inl ⟨by omega, Y1, Y2, Y3, rhp8.trans (congrArg some (by omega)), fun q hq => ((ehp8 _ _ (Or.inr (by omega))).trans (fhp2.2.2.1 _ (bs_R.uq H (g := 133) (p := 72) rfl).1 _ (by rw [(bs_R.uq H (g := 133) (p := 72) rfl).2]; rfl))), RK_keep Hhp2 fhp8 rfl rfl (nhp8 _ _) Y5⟩⟩)⟩)
    · skip
      have c11 : z3.toInt = 0 := by omega
      refine bs_lit (k := 0) rfl rfl fun z12 hz12 => ?_
      exact bs_zret rfl rfl (by omega) (by omega) (by rw [hQ]; exact ⟨thp2, Hhp2, Fhp2, bs_an0, sf_S_cons (sf_s1 (x := z12.toInt) rfl (by omega) (by omega)) (sf_S_nil), (fun p lo hi B n lim i ha hK => by
              cases ha
              obtain ⟨q1, rq1, X1⟩ := (xhp2 _ _ rfl).2 B n lim i hK
              obtain rfl := Value.int.inj (Option.some.inj rq1)
              obtain ⟨Y0, Y1, Y2⟩ := X1.resolve_left (fun h => absurd h.1 (by omega))
              exact ⟨z12, rfl, Or.inr ⟨by omega, Y1, Y2⟩⟩)⟩)
theorem ct_X11_puts_v3 : sf_ct kq_X11_puts_v3 Z_X11_puts := ce_X11_puts_v3.ct
def kq_X11_isWord_v : sf_Q := ([(1, 11, 0), (2, 0, 0)], [], some (0, 0, 0), [(1, 0, 0, 0, 1, 0)], [])
def ke_X11_isWord_v : List Value → ab_H → Option Value → ab_H → Prop := fun as hp r _ => ∀ (w : Int64) (T : TT) (j : Nat), as = [.ref 69, .long w] → NT hp T → WOK T → T.k ≤ 88 → j < 25 → w.toInt = rwd.getD j 0 → ∃ z : Int32, r = some (.int z) ∧ (z.toInt = 1 → T.k = 64 + (j : Int)) ∧ (T.k = 64 + (j : Int) → z.toInt = 1)
set_option maxRecDepth 100000 in
set_option maxHeartbeats 4000000 in
theorem ce_X11_isWord_v : sf_cE kq_X11_isWord_v Z_X11_isWord ke_X11_isWord_v := by
  intro t hp as H hl hj hpre
  match as, hl with
  | [v0, v1], _ =>
    obtain ⟨a0, rfl, ra0⟩ := bs_aR (hj 0 _ rfl)
    obtain rfl := ra0.eq H (p := 69) rfl
    obtain ⟨wa1, rfl⟩ := bs_aL (hj 1 _ rfl)
    clear hpre hj
    have F0 : sf_fr [] t hp t hp := sf_fr_rf
    refine bs_finx (E := ke_X11_isWord_v) (K := kq_X11_isWord_v) (L := L_X11_isWord) (nL := 3) (Nat.le_of_ble_eq_true rfl) ?_
    obtain ⟨Q, hQ⟩ : ∃ Q : ab_O → Prop, Q = (fun o => ∃ t', sf_h t' o.2 ∧ sf_fr (kq_X11_isWord_v).2.2.2.2 t hp t' o.2 ∧ sf_an t' o.2.1 (kq_X11_isWord_v).2.2.1 o.1 ∧ sf_S (sf_v1 o.1 [.ref 69, .long wa1] o.2) (kq_X11_isWord_v).2.2.2.1 ∧ ke_X11_isWord_v [.ref 69, .long wa1] hp o.1 o.2) := ⟨_, rfl⟩
    rw [← hQ]
    refine (show Ev (ab_T L_X11_isWord) 0 ([some (.ref 69), some (.long wa1), none], [], (0, 0), hp) Q from ?_)
    refine Ev.step (j := 1) (s' := ([some (.ref 69), some (.long wa1), none], [.ref 69], (0, 0), hp)) rfl rfl ?_
    refine bs_getI 11 rfl rfl rfl H (bs_R.uq H (g := 11) rfl) (by decide) rfl fun z1 hz1 lz1 gz1 => ?_
    refine bs_lit (k := 1) rfl rfl fun z2 hz2 => ?_
    refine bs_ne rfl (fun c3 => ?_) (fun c3 => ?_)
    · skip
      refine bs_lit (k := 0) rfl rfl fun z4 hz4 => ?_
      exact bs_zret rfl rfl (by omega) (by omega) (by rw [hQ]; exact ⟨t, H, F0, bs_an0, sf_S_cons (sf_s1 (x := z4.toInt) rfl (by omega) (by omega)) (sf_S_nil), (fun w T j ha hN hW h8 hj hw => by
              cases ha
              have KK : z1.toInt = rkk T.k := Option.some.inj (hz1.symm.trans hN.2.2.1)
              exact ⟨z4, rfl, fun e => absurd e (by omega), fun e => by have K1 := rkk_w (k := T.k) (by omega); omega⟩)⟩)
    · skip
      have c5 : z1.toInt = 1 := by omega
      refine Ev.step (j := 9) (s' := ([some (.ref 69), some (.long wa1), none], [.ref 69], (0, 0), hp)) rfl rfl ?_
      refine bs_getLv (g := 11) rfl rfl H (bs_R.uq H (g := 11) rfl) (by decide) rfl fun w6 hw6 => ?_
      refine Ev.step (j := 13) (s' := ([some (.ref 69), some (.long wa1), none], [.long wa1, .long w6], (0, 0), hp)) rfl rfl ?_
      refine bs_lcmpv rfl fun z7 hz7 => ?_
      refine bs_ifne rfl (fun c8 => ?_) (fun c8 => ?_)
      · skip
        refine bs_lit (k := 0) rfl rfl fun z9 hz9 => ?_
        exact bs_zret rfl rfl (by omega) (by omega) (by rw [hQ]; exact ⟨t, H, F0, bs_an0, sf_S_cons (sf_s1 (x := z9.toInt) rfl (by omega) (by omega)) (sf_S_nil), (fun w T j ha hN hW h8 hj hw => by
                cases ha
                have KK : z1.toInt = rkk T.k := Option.some.inj (hz1.symm.trans hN.2.2.1)
                have K1 : rkk T.k = 1 := by omega
                obtain ⟨w2, g1, g2⟩ := hN.2.2.2.2.2 K1
                have EW : w2 = w6 := Option.some.inj (g1.symm.trans hw6)
                have E := (hW (rkk_1 K1)).2 j hj
                refine ⟨z9, rfl, fun e => E.mp ?_, fun e => ?_⟩
                · rw [← g2, EW, hz7.mp (by omega)]
                  exact hw
                · have e2 := E.mpr e
                  have e3 := hz7.mpr (Int64.toInt_inj.mp (by rw [← EW, g2, e2, hw]))
                  omega)⟩)
      · skip
        have c10 : z7.toInt = 0 := by omega
        refine bs_lit (k := 1) rfl rfl fun z11 hz11 => ?_
        refine Ev.step (j := 22) (s' := ([some (.ref 69), some (.long wa1), none], [.int z11], (0, 0), hp)) rfl rfl ?_
        exact bs_zret rfl rfl (by omega) (by omega) (by rw [hQ]; exact ⟨t, H, F0, bs_an0, sf_S_cons (sf_s1 (x := z11.toInt) rfl (by omega) (by omega)) (sf_S_nil), (fun w T j ha hN hW h8 hj hw => by
                cases ha
                have KK : z1.toInt = rkk T.k := Option.some.inj (hz1.symm.trans hN.2.2.1)
                have K1 : rkk T.k = 1 := by omega
                obtain ⟨w2, g1, g2⟩ := hN.2.2.2.2.2 K1
                have EW : w2 = w6 := Option.some.inj (g1.symm.trans hw6)
                have E := (hW (rkk_1 K1)).2 j hj
                refine ⟨z11, rfl, fun e => E.mp ?_, fun e => ?_⟩
                · rw [← g2, EW, hz7.mp (by omega)]
                  exact hw
                · have e2 := E.mpr e
                  have e3 := hz7.mpr (Int64.toInt_inj.mp (by rw [← EW, g2, e2, hw]))
                  omega)⟩)
theorem ct_X11_isWord_v : sf_ct kq_X11_isWord_v Z_X11_isWord := ce_X11_isWord_v.ct
def kq_X11_sign_v : sf_Q := ([(1, 11, 0), (0, 0, 0)], [(1, 3, 0, 59, 59, 0)], some (0, 0, 0), [(1, 0, 0, 0, 1, 0)], [(11, 4, 4), (11, 11, 18)])
def ke_X11_sign_v : List Value → ab_H → Option Value → ab_H → Prop := fun as hp r hp' => ∀ (c : Int32) (B : Nat → Int) (n lim i : Nat), as = [.ref 69, .int c] → RK hp B n lim i → ∃ z : Int32, r = some (.int z) ∧ ((z.toInt = 1 ∧ (tok B n lim i).k = 59 ∧ RK hp' B n lim (i + 1) ∧ sf_psi hp' ≤ 2 * (940 - (tps B n lim (i + 1) : Int))) ∨ (z.toInt = 0 ∧ sf_rd hp' 69 16 = some (tok B n lim i).pl ∧ (tok B n lim i).k ≠ 59 ∧ sf_rd hp' 69 15 = some 1))
set_option maxRecDepth 100000 in
set_option maxHeartbeats 4000000 in
theorem ce_X11_sign_v : sf_cE kq_X11_sign_v Z_X11_sign ke_X11_sign_v := by
  intro t hp as H hl hj hpre
  match as, hl with
  | [v0, v1], _ =>
    obtain ⟨a0, rfl, ra0⟩ := bs_aR (hj 0 _ rfl)
    obtain rfl := ra0.eq H (p := 69) rfl
    obtain ⟨x1, rfl⟩ := bs_aI (hj 1 _ rfl)
    have rg1 := n_range x1
    obtain ⟨pl0, ph0⟩ := bs_s1 (x := x1.toInt) rfl (hpre _ (List.mem_of_getElem? (i := 0) rfl))
    clear hpre hj
    have F0 : sf_fr [(11, 4, 4), (11, 11, 18)] t hp t hp := sf_fr_rf
    refine bs_finx (E := ke_X11_sign_v) (K := kq_X11_sign_v) (L := (L_X11_sign Z_X11_isSign Z_X11_bad Z_X11_next)) (nL := 2) (Nat.le_of_ble_eq_true rfl) ?_
    obtain ⟨Q, hQ⟩ : ∃ Q : ab_O → Prop, Q = (fun o => ∃ t', sf_h t' o.2 ∧ sf_fr (kq_X11_sign_v).2.2.2.2 t hp t' o.2 ∧ sf_an t' o.2.1 (kq_X11_sign_v).2.2.1 o.1 ∧ sf_S (sf_v1 o.1 [.ref 69, .int x1] o.2) (kq_X11_sign_v).2.2.2.1 ∧ ke_X11_sign_v [.ref 69, .int x1] hp o.1 o.2) := ⟨_, rfl⟩
    rw [← hQ]
    refine (show Ev (ab_T (L_X11_sign Z_X11_isSign Z_X11_bad Z_X11_next)) 0 ([some (.ref 69), some (.int x1)], [], (0, 0), hp) Q from ?_)
    refine Ev.step (j := 1) (s' := ([some (.ref 69), some (.int x1)], [.ref 69], (0, 0), hp)) rfl rfl ?_
    refine Ev.step (j := 2) (s' := ([some (.ref 69), some (.int x1)], [.int x1, .ref 69], (0, 0), hp)) rfl rfl ?_
    refine Ev.inl (L := L_X11_isSign) (nL := 2) rfl (bs_rcv (g := 11) H (bs_R.uq H (g := 11) rfl) (by decide) rfl) rfl (Nat.le_of_ble_eq_true rfl) ?_
    generalize hQ1 : (fun (o : ab_O) => Ev _ _ _ _) = Q1
    refine (show Ev (ab_T L_X11_isSign) 0 ([some (.ref 69), some (.int x1)], [], (0, 0), hp) Q1 from ?_)
    refine Ev.step (j := 1) (s' := ([some (.ref 69), some (.int x1)], [.ref 69], (0, 0), hp)) rfl rfl ?_
    refine bs_getI 11 rfl rfl rfl H (bs_R.uq H (g := 11) rfl) (by decide) rfl fun z2 hz2 lz2 gz2 => ?_
    refine bs_lit (k := 3) rfl rfl fun z3 hz3 => ?_
    refine bs_ne rfl (fun c4 => ?_) (fun c4 => ?_)
    · skip
      refine bs_lit (k := 0) rfl rfl fun z5 hz5 => ?_
      refine bs_zret rfl rfl (by omega) (by omega) ?_
      rw [← hQ1]
      refine (show Ev _ 5 ([some (.ref 69), some (.int x1)], [.int z5], (0, 0), hp) _ from ?_)
      refine bs_ifne rfl (fun c6 => ?_) (fun c6 => ?_)
      · exfalso; omega
      · skip
        refine Ev.step (j := 9) (s' := ([some (.ref 69), some (.int x1)], [.ref 69], (0, 0), hp)) rfl rfl ?_
        refine bs_lit (k := 1) rfl rfl fun z7 hz7 => ?_
        refine Ev.inl (L := L_X11_bad) (nL := 2) rfl (bs_rcv (g := 11) H (bs_R.uq H (g := 11) rfl) (by decide) rfl) rfl (Nat.le_of_ble_eq_true rfl) ?_
        generalize hQ8 : (fun (o : ab_O) => Ev _ _ _ _) = Q8
        refine (show Ev (ab_T L_X11_bad) 0 ([some (.ref 69), some (.int z7)], [], (0, 0), hp) Q8 from ?_)
        refine Ev.step (j := 1) (s' := ([some (.ref 69), some (.int z7)], [.ref 69], (0, 0), hp)) rfl rfl ?_
        refine Ev.step (j := 2) (s' := ([some (.ref 69), some (.int z7)], [.int z7, .ref 69], (0, 0), hp)) rfl rfl ?_
        refine bs_putIv (W := [(11, 15, 15)]) (g := 11) rfl rfl H (bs_R.uq H (g := 11) rfl) (by decide) rfl rfl rfl rfl (Or.inl rfl) (by omega) (by omega) fun hp9 Hhp9 fhp9 rhp9 ehp9 qhp9 nhp9 => ?_
        have Fhp9 := sf_fr_tr F0 (sf_fr_wider (W := [(11, 4, 4), (11, 11, 18)]) rfl fhp9)
        have h10 : sf_rd hp9 69 11 = some z2.toInt := (ehp9 _ _ (Or.inr (by omega))).trans hz2
        refine Ev.step (j := 6) (s' := ([some (.ref 69), some (.int z7)], [.ref 69], (0, 0), hp9)) rfl rfl ?_
        refine Ev.step (j := 7) (s' := ([some (.ref 69), some (.int z7)], [.ref 69, .ref 69], (0, 0), hp9)) rfl rfl ?_
        refine bs_getI 11 rfl rfl rfl Hhp9 (bs_R.uq Hhp9 (g := 11) rfl) (by decide) rfl fun z11 hz11 lz11 gz11 => ?_
        refine bs_putIv (W := [(11, 16, 16)]) (g := 11) rfl rfl Hhp9 (bs_R.uq Hhp9 (g := 11) rfl) (by decide) rfl rfl rfl rfl (Or.inl rfl) (by omega) (by omega) fun hp12 Hhp12 fhp12 rhp12 ehp12 qhp12 nhp12 => ?_
        have Fhp12 := sf_fr_tr Fhp9 (sf_fr_wider (W := [(11, 4, 4), (11, 11, 18)]) rfl fhp12)
        have h13 : sf_rd hp12 69 11 = some z2.toInt := (ehp12 _ _ (Or.inr (by omega))).trans h10
        have h14 : sf_rd hp12 69 15 = some z7.toInt := (ehp12 _ _ (Or.inr (by omega))).trans rhp9
        have h15 : sf_rd hp12 69 12 = some z11.toInt := (ehp12 _ _ (Or.inr (by omega))).trans hz11
        refine bs_lit (k := 0) rfl rfl fun z16 hz16 => ?_
        refine bs_zret rfl rfl (by omega) (by omega) ?_
        rw [← hQ8]
        refine (show Ev _ 13 ([some (.ref 69), some (.int x1)], [.int z16], (0, 0), hp12) _ from ?_)
        exact bs_zret rfl rfl (by omega) (by omega) (by rw [hQ]; exact ⟨t, Hhp12, Fhp12, bs_an0, sf_S_cons (sf_s1 (x := z16.toInt) rfl (by omega) (by omega)) (sf_S_nil), (fun c B n lim i ha hK => by
                cases ha
                have KK := RK_k hK hz2
                have PL : z11.toInt = (tok B n lim i).pl := Option.some.inj (hz11.symm.trans (((ehp9 _ _ (Or.inr (by omega)))).trans (RK_pl hK)))
                have K9 : (tok B n lim i).k ≠ 59 := fun e => by rw [e, rkk_59] at KK; omega
                exact ⟨z16, rfl, Or.inr ⟨by omega, rhp12.trans (congrArg some PL), K9, h14.trans (congrArg some (by omega))⟩⟩)⟩)
    · skip
      have c17 : z2.toInt = 3 := by omega
      refine Ev.step (j := 9) (s' := ([some (.ref 69), some (.int x1)], [.ref 69], (0, 0), hp)) rfl rfl ?_
      refine bs_getI 11 rfl rfl rfl H (bs_R.uq H (g := 11) rfl) (by decide) rfl fun z18 hz18 lz18 gz18 => ?_
      refine Ev.step (j := 13) (s' := ([some (.ref 69), some (.int x1)], [.int x1, .int z18], (0, 0), hp)) rfl rfl ?_
      refine bs_ne rfl (fun c19 => ?_) (fun c19 => ?_)
      · skip
        refine bs_lit (k := 0) rfl rfl fun z20 hz20 => ?_
        refine bs_zret rfl rfl (by omega) (by omega) ?_
        rw [← hQ1]
        refine (show Ev _ 5 ([some (.ref 69), some (.int x1)], [.int z20], (0, 0), hp) _ from ?_)
        refine bs_ifne rfl (fun c21 => ?_) (fun c21 => ?_)
        · exfalso; omega
        · skip
          refine Ev.step (j := 9) (s' := ([some (.ref 69), some (.int x1)], [.ref 69], (0, 0), hp)) rfl rfl ?_
          refine bs_lit (k := 1) rfl rfl fun z22 hz22 => ?_
          refine Ev.inl (L := L_X11_bad) (nL := 2) rfl (bs_rcv (g := 11) H (bs_R.uq H (g := 11) rfl) (by decide) rfl) rfl (Nat.le_of_ble_eq_true rfl) ?_
          generalize hQ23 : (fun (o : ab_O) => Ev _ _ _ _) = Q23
          refine (show Ev (ab_T L_X11_bad) 0 ([some (.ref 69), some (.int z22)], [], (0, 0), hp) Q23 from ?_)
          refine Ev.step (j := 1) (s' := ([some (.ref 69), some (.int z22)], [.ref 69], (0, 0), hp)) rfl rfl ?_
          refine Ev.step (j := 2) (s' := ([some (.ref 69), some (.int z22)], [.int z22, .ref 69], (0, 0), hp)) rfl rfl ?_
          refine bs_putIv (W := [(11, 15, 15)]) (g := 11) rfl rfl H (bs_R.uq H (g := 11) rfl) (by decide) rfl rfl rfl rfl (Or.inl rfl) (by omega) (by omega) fun hp24 Hhp24 fhp24 rhp24 ehp24 qhp24 nhp24 => ?_
          have Fhp24 := sf_fr_tr F0 (sf_fr_wider (W := [(11, 4, 4), (11, 11, 18)]) rfl fhp24)
          have h25 : sf_rd hp24 69 11 = some z2.toInt := (ehp24 _ _ (Or.inr (by omega))).trans hz2
          have h26 : sf_rd hp24 69 14 = some z18.toInt := (ehp24 _ _ (Or.inr (by omega))).trans hz18
          refine Ev.step (j := 6) (s' := ([some (.ref 69), some (.int z22)], [.ref 69], (0, 0), hp24)) rfl rfl ?_
          refine Ev.step (j := 7) (s' := ([some (.ref 69), some (.int z22)], [.ref 69, .ref 69], (0, 0), hp24)) rfl rfl ?_
          refine bs_getI 11 rfl rfl rfl Hhp24 (bs_R.uq Hhp24 (g := 11) rfl) (by decide) rfl fun z27 hz27 lz27 gz27 => ?_
          refine bs_putIv (W := [(11, 16, 16)]) (g := 11) rfl rfl Hhp24 (bs_R.uq Hhp24 (g := 11) rfl) (by decide) rfl rfl rfl rfl (Or.inl rfl) (by omega) (by omega) fun hp28 Hhp28 fhp28 rhp28 ehp28 qhp28 nhp28 => ?_
          have Fhp28 := sf_fr_tr Fhp24 (sf_fr_wider (W := [(11, 4, 4), (11, 11, 18)]) rfl fhp28)
          have h29 : sf_rd hp28 69 11 = some z2.toInt := (ehp28 _ _ (Or.inr (by omega))).trans h25
          have h30 : sf_rd hp28 69 14 = some z18.toInt := (ehp28 _ _ (Or.inr (by omega))).trans h26
          have h31 : sf_rd hp28 69 15 = some z22.toInt := (ehp28 _ _ (Or.inr (by omega))).trans rhp24
          have h32 : sf_rd hp28 69 12 = some z27.toInt := (ehp28 _ _ (Or.inr (by omega))).trans hz27
          refine bs_lit (k := 0) rfl rfl fun z33 hz33 => ?_
          refine bs_zret rfl rfl (by omega) (by omega) ?_
          rw [← hQ23]
          refine (show Ev _ 13 ([some (.ref 69), some (.int x1)], [.int z33], (0, 0), hp28) _ from ?_)
          exact bs_zret rfl rfl (by omega) (by omega) (by rw [hQ]; exact ⟨t, Hhp28, Fhp28, bs_an0, sf_S_cons (sf_s1 (x := z33.toInt) rfl (by omega) (by omega)) (sf_S_nil), (fun c B n lim i ha hK => by
                  cases ha
                  have KK := RK_k hK hz2
                  have PL : z27.toInt = (tok B n lim i).pl := Option.some.inj (hz27.symm.trans (((ehp24 _ _ (Or.inr (by omega)))).trans (RK_pl hK)))
                  have VV := RK_s hK (by omega) hz18
                  have K9 : (tok B n lim i).k ≠ 59 := by omega
                  exact ⟨z33, rfl, Or.inr ⟨by omega, rhp28.trans (congrArg some PL), K9, h31.trans (congrArg some (by omega))⟩⟩)⟩)
      · skip
        refine bs_lit (k := 1) rfl rfl fun z34 hz34 => ?_
        refine Ev.step (j := 21) (s' := ([some (.ref 69), some (.int x1)], [.int z34], (0, 0), hp)) rfl rfl ?_
        refine bs_zret rfl rfl (by omega) (by omega) ?_
        rw [← hQ1]
        refine (show Ev _ 5 ([some (.ref 69), some (.int x1)], [.int z34], (0, 0), hp) _ from ?_)
        refine bs_ifne rfl (fun c35 => ?_) (fun c35 => ?_)
        · skip
          refine Ev.step (j := 15) (s' := ([some (.ref 69), some (.int x1)], [.ref 69], (0, 0), hp)) rfl rfl ?_
          refine bs_callx (K := kq_X11_next_v) [.ref 69] [] rfl ce_X11_next_v H rfl rfl rfl (bs_rcv (g := 11) H (bs_R.uq H (g := 11) rfl) (by decide) rfl) rfl ?_ (sf_S_nil) fun r36 hp37 thp37 Hhp37 fhp37 ahp37 php37 xhp37 => ?_
          · intro q k h
            match q, h with
            | 0, h => cases h; exact bs_jR (bs_R.uq H (g := 11) rfl)
            | q + 1, h => cases h
          obtain rfl := ahp37.1 rfl
          have Fhp37 := sf_fr_tr F0 (sf_fr_wider (W := [(11, 4, 4), (11, 11, 18)]) rfl fhp37)
          refine (show Ev _ 18 ([some (.ref 69), some (.int x1)], [], (0, 0), hp37) _ from ?_)
          refine bs_lit (k := 1) rfl rfl fun z38 hz38 => ?_
          exact bs_zret rfl rfl (by omega) (by omega) (by rw [hQ]; exact ⟨thp37, Hhp37, Fhp37, bs_an0, sf_S_cons (sf_s1 (x := z38.toInt) rfl (by omega) (by omega)) (sf_S_nil), (fun c B n lim i ha hK => by
                  cases ha
                  have KK := RK_k hK hz2
                  have VV := RK_s hK (by omega) hz18
                  obtain ⟨K2, PS⟩ := RK_next H fhp37 rfl rfl rfl xhp37 hK
                  exact ⟨z38, rfl, Or.inl ⟨by omega, by omega, K2, PS⟩⟩)⟩)
        · exfalso; omega
theorem ct_X11_sign_v : sf_ct kq_X11_sign_v Z_X11_sign := ce_X11_sign_v.ct
def kq_X11_fresh_v : sf_Q := ([(1, 11, 0), (0, 0, 0)], [(1, 3, 0, 14, 27, 0)], some (0, 0, 0), [(1, 0, 0, 0, 1, 0)], [(11, 4, 4), (11, 11, 18), (135, 0, 0)])
def ke_X11_fresh_v : List Value → ab_H → Option Value → ab_H → Prop := fun as hp r hp' => ∀ (p : Int32) (s : PS) (B : Nat → Int) (n lim i : Nat), as = [.ref 69, .int p] → SR hp s → RES hp → RK hp B n lim i → ∃ z : Int32, r = some (.int z) ∧ ((z.toInt = 1 ∧ (tok B n lim i).k = 2 ∧ ¬ (0 ≤ fnd s.nm 0 (s.h 0) (tok B n lim i).v ∨ 0 ≤ fnd s.nm 6 (s.h 1) (tok B n lim i).v) ∧ RK hp' B n lim (i + 1) ∧ (∃ w, sf_rl hp' 74 p.toInt.toNat = some w ∧ w.toInt = (tok B n lim i).v) ∧ (∀ q, q ≠ p.toInt.toNat → sf_rl hp' 74 q = sf_rl hp 74 q)) ∨ (z.toInt = 0 ∧ sf_rd hp' 69 16 = some (tok B n lim i).pl ∧ (((tok B n lim i).k ≠ 2 ∧ sf_rd hp' 69 15 = some 1) ∨ (((tok B n lim i).k = 2 ∧ (0 ≤ fnd s.nm 0 (s.h 0) (tok B n lim i).v ∨ 0 ≤ fnd s.nm 6 (s.h 1) (tok B n lim i).v)) ∧ sf_rd hp' 69 15 = some 3))))
set_option maxRecDepth 100000 in
set_option maxHeartbeats 4000000 in
theorem ce_X11_fresh_v : sf_cE kq_X11_fresh_v Z_X11_fresh ke_X11_fresh_v := by
  intro t hp as H hl hj hpre
  match as, hl with
  | [v0, v1], _ =>
    obtain ⟨a0, rfl, ra0⟩ := bs_aR (hj 0 _ rfl)
    obtain rfl := ra0.eq H (p := 69) rfl
    obtain ⟨x1, rfl⟩ := bs_aI (hj 1 _ rfl)
    have rg1 := n_range x1
    obtain ⟨pl0, ph0⟩ := bs_s1 (x := x1.toInt) rfl (hpre _ (List.mem_of_getElem? (i := 0) rfl))
    clear hpre hj
    have F0 : sf_fr [(11, 4, 4), (11, 11, 18), (135, 0, 0)] t hp t hp := sf_fr_rf
    refine bs_finx (E := ke_X11_fresh_v) (K := kq_X11_fresh_v) (L := (L_X11_fresh Z_X11_isName Z_X11_bad Z_X11_find Z_X11_next)) (nL := 2) (Nat.le_of_ble_eq_true rfl) ?_
    obtain ⟨Q, hQ⟩ : ∃ Q : ab_O → Prop, Q = (fun o => ∃ t', sf_h t' o.2 ∧ sf_fr (kq_X11_fresh_v).2.2.2.2 t hp t' o.2 ∧ sf_an t' o.2.1 (kq_X11_fresh_v).2.2.1 o.1 ∧ sf_S (sf_v1 o.1 [.ref 69, .int x1] o.2) (kq_X11_fresh_v).2.2.2.1 ∧ ke_X11_fresh_v [.ref 69, .int x1] hp o.1 o.2) := ⟨_, rfl⟩
    rw [← hQ]
    refine (show Ev (ab_T (L_X11_fresh Z_X11_isName Z_X11_bad Z_X11_find Z_X11_next)) 0 ([some (.ref 69), some (.int x1)], [], (0, 0), hp) Q from ?_)
    refine Ev.step (j := 1) (s' := ([some (.ref 69), some (.int x1)], [.ref 69], (0, 0), hp)) rfl rfl ?_
    refine bs_callx (K := kq_X11_isName_v) [.ref 69] [] rfl ce_X11_isName_v H rfl rfl rfl (bs_rcv (g := 11) H (bs_R.uq H (g := 11) rfl) (by decide) rfl) rfl ?_ (sf_S_nil) fun r1 hp2 thp2 Hhp2 fhp2 ahp2 php2 xhp2 => ?_
    · intro q k h
      match q, h with
      | 0, h => cases h; exact bs_jR (bs_R.uq H (g := 11) rfl)
      | q + 1, h => cases h
    obtain ⟨z3, rfl⟩ := bs_anI ahp2
    have rgz3 := n_range z3
    have Fhp2 := sf_fr_tr F0 (sf_fr_wider (W := [(11, 4, 4), (11, 11, 18), (135, 0, 0)]) rfl fhp2)
    obtain ⟨uz3, vz3⟩ := bs_s1 (x := z3.toInt) rfl (php2 _ (List.mem_of_getElem? (i := 0) rfl))
    refine (show Ev _ 4 ([some (.ref 69), some (.int x1)], [.int z3], (0, 0), hp2) _ from ?_)
    refine bs_ifne rfl (fun c4 => ?_) (fun c4 => ?_)
    · skip
      refine Ev.step (j := 14) (s' := ([some (.ref 69), some (.int x1)], [.ref 69], (0, 0), hp2)) rfl rfl ?_
      refine bs_lit (k := 14) rfl rfl fun z5 hz5 => ?_
      refine Ev.step (j := 17) (s' := ([some (.ref 69), some (.int x1)], [.ref 69, .int z5, .ref 69], (0, 0), hp2)) rfl rfl ?_
      refine bs_getU (g := 11) (g1 := 133) rfl rfl Hhp2 (bs_R.uq Hhp2 (g := 11) rfl) (by decide) rfl rfl ?_
      refine bs_lit (k := 0) rfl rfl fun z6 hz6 => ?_
      refine bs_ld (g := 133) 0 0 (0, 6) rfl Hhp2 (bs_R.uq Hhp2 (g := 133) rfl) (by decide) rfl (by decide) (by decide) rfl (by decide) (by omega) (by omega) fun z7 hz7 lz7 gz7 => ?_
      dsimp only at lz7 gz7
      replace hz7 := bs_at hz7 (show z6.toInt.toNat = 0 by omega)
      refine bs_callx (K := kq_X11_find_v) [.ref 69, .int z5, .int z7] [] rfl ce_X11_find_v Hhp2 rfl rfl rfl (bs_rcv (g := 11) Hhp2 (bs_R.uq Hhp2 (g := 11) rfl) (by decide) rfl) rfl ?_ (sf_S_cons (sf_s1 (x := z5.toInt) rfl (by omega) (by omega)) (sf_S_cons (sf_s1 (x := z7.toInt) rfl (by omega) (by omega)) (sf_S_nil))) fun r8 hp9 thp9 Hhp9 fhp9 ahp9 php9 xhp9 => ?_
      · intro q k h
        match q, h with
        | 0, h => cases h; exact bs_jR (bs_R.uq Hhp2 (g := 11) rfl)
        | 1, h => cases h; exact sf_j0
        | 2, h => cases h; exact sf_j0
        | q + 3, h => cases h
      obtain ⟨z10, rfl⟩ := bs_anI ahp9
      have rgz10 := n_range z10
      have Fhp9 := sf_fr_tr Fhp2 (sf_fr_wider (W := [(11, 4, 4), (11, 11, 18), (135, 0, 0)]) rfl fhp9)
      have h11 : sf_rd hp9 72 0 = some z7.toInt := (fhp9.2.2.1 _ (bs_R.uq Hhp2 (g := 133) (p := 72) rfl).1 _ (by rw [(bs_R.uq Hhp2 (g := 133) (p := 72) rfl).2]; rfl)).trans hz7
      obtain ⟨uz10, vz10⟩ := bs_s1 (x := z10.toInt) rfl (php9 _ (List.mem_of_getElem? (i := 0) rfl))
      refine (show Ev _ 25 ([some (.ref 69), some (.int x1)], [.int z10], (0, 0), hp9) _ from ?_)
      refine bs_ifge rfl (fun c12 => ?_) (fun c12 => ?_)
      · skip
        refine Ev.step (j := 44) (s' := ([some (.ref 69), some (.int x1)], [.ref 69], (0, 0), hp9)) rfl rfl ?_
        refine bs_lit (k := 3) rfl rfl fun z13 hz13 => ?_
        refine Ev.inl (L := L_X11_bad) (nL := 2) rfl (bs_rcv (g := 11) Hhp9 (bs_R.uq Hhp9 (g := 11) rfl) (by decide) rfl) rfl (Nat.le_of_ble_eq_true rfl) ?_
        generalize hQ14 : (fun (o : ab_O) => Ev _ _ _ _) = Q14
        refine (show Ev (ab_T L_X11_bad) 0 ([some (.ref 69), some (.int z13)], [], (0, 0), hp9) Q14 from ?_)
        refine Ev.step (j := 1) (s' := ([some (.ref 69), some (.int z13)], [.ref 69], (0, 0), hp9)) rfl rfl ?_
        refine Ev.step (j := 2) (s' := ([some (.ref 69), some (.int z13)], [.int z13, .ref 69], (0, 0), hp9)) rfl rfl ?_
        refine bs_putIv (W := [(11, 15, 15)]) (g := 11) rfl rfl Hhp9 (bs_R.uq Hhp9 (g := 11) rfl) (by decide) rfl rfl rfl rfl (Or.inl rfl) (by omega) (by omega) fun hp15 Hhp15 fhp15 rhp15 ehp15 qhp15 nhp15 => ?_
        have Fhp15 := sf_fr_tr Fhp9 (sf_fr_wider (W := [(11, 4, 4), (11, 11, 18), (135, 0, 0)]) rfl fhp15)
        have h16 : sf_rd hp15 72 0 = some z7.toInt := (ehp15 _ _ (Or.inl (by decide))).trans h11
        refine Ev.step (j := 6) (s' := ([some (.ref 69), some (.int z13)], [.ref 69], (0, 0), hp15)) rfl rfl ?_
        refine Ev.step (j := 7) (s' := ([some (.ref 69), some (.int z13)], [.ref 69, .ref 69], (0, 0), hp15)) rfl rfl ?_
        refine bs_getI 11 rfl rfl rfl Hhp15 (bs_R.uq Hhp15 (g := 11) rfl) (by decide) rfl fun z17 hz17 lz17 gz17 => ?_
        refine bs_putIv (W := [(11, 16, 16)]) (g := 11) rfl rfl Hhp15 (bs_R.uq Hhp15 (g := 11) rfl) (by decide) rfl rfl rfl rfl (Or.inl rfl) (by omega) (by omega) fun hp18 Hhp18 fhp18 rhp18 ehp18 qhp18 nhp18 => ?_
        have Fhp18 := sf_fr_tr Fhp15 (sf_fr_wider (W := [(11, 4, 4), (11, 11, 18), (135, 0, 0)]) rfl fhp18)
        have h19 : sf_rd hp18 72 0 = some z7.toInt := (ehp18 _ _ (Or.inl (by decide))).trans h16
        have h20 : sf_rd hp18 69 15 = some z13.toInt := (ehp18 _ _ (Or.inr (by omega))).trans rhp15
        have h21 : sf_rd hp18 69 12 = some z17.toInt := (ehp18 _ _ (Or.inr (by omega))).trans hz17
        refine bs_lit (k := 0) rfl rfl fun z22 hz22 => ?_
        refine bs_zret rfl rfl (by omega) (by omega) ?_
        rw [← hQ14]
        refine (show Ev _ 48 ([some (.ref 69), some (.int x1)], [.int z22], (0, 0), hp18) _ from ?_)
        exact bs_zret rfl rfl (by omega) (by omega) (by rw [hQ]; exact ⟨thp9, Hhp18, Fhp18, bs_an0, sf_S_cons (sf_s1 (x := z22.toInt) rfl (by omega) (by omega)) (sf_S_nil), (fun p s B n lim i ha hS hR hK => by
                cases ha
                obtain ⟨q1, rq1, N1, N2⟩ := xhp2 (tok B n lim i) hK.1 (tok_wok B n lim i) (tok_k88 B n lim i) hR
                obtain rfl := Value.int.inj (Option.some.inj rq1)
                have T2 := N1 (by omega)
                have KW_ := RK_w hK (by rw [T2]; rfl)
                have K1 := RK_nil H fhp2 hK
                have S1 := SR_nil H fhp2 hS
                have K2 := RK_nil Hhp2 fhp9 K1
                have S2 := SR_nil Hhp2 fhp9 S1
                have C0 : z7.toInt = s.h 0 := Option.some.inj (hz7.symm.trans (S1.1 0 (by decide)))
                obtain ⟨q2, rq2, G0⟩ := xhp9 _ _ s.nm 0 (tok B n lim i).v rfl (fun k hk => by rw [show z5.toInt.toNat + k = 14 + k by omega, Nat.zero_add]; exact S1.2.2.2.1 k (by omega)) (RK_w K1 (by rw [T2]; rfl))
                obtain rfl := Value.int.inj (Option.some.inj rq2)
                rw [C0] at G0
                have PL : z17.toInt = (tok B n lim i).pl := Option.some.inj (hz17.symm.trans (((ehp15 _ _ (Or.inr (by omega)))).trans (RK_pl K2)))
                exact ⟨z22, rfl, Or.inr ⟨by omega, rhp18.trans (congrArg some PL), Or.inr ⟨⟨T2, by omega⟩, h20.trans (congrArg some (by omega))⟩⟩⟩)⟩)
      · skip
        refine Ev.step (j := 29) (s' := ([some (.ref 69), some (.int x1)], [.ref 69], (0, 0), hp9)) rfl rfl ?_
        refine bs_lit (k := 20) rfl rfl fun z23 hz23 => ?_
        refine Ev.step (j := 32) (s' := ([some (.ref 69), some (.int x1)], [.ref 69, .int z23, .ref 69], (0, 0), hp9)) rfl rfl ?_
        refine bs_getU (g := 11) (g1 := 133) rfl rfl Hhp9 (bs_R.uq Hhp9 (g := 11) rfl) (by decide) rfl rfl ?_
        refine bs_lit (k := 1) rfl rfl fun z24 hz24 => ?_
        refine bs_ld (g := 133) 1 1 (0, 8) rfl Hhp9 (bs_R.uq Hhp9 (g := 133) rfl) (by decide) rfl (by decide) (by decide) rfl (by decide) (by omega) (by omega) fun z25 hz25 lz25 gz25 => ?_
        dsimp only at lz25 gz25
        replace hz25 := bs_at hz25 (show z24.toInt.toNat = 1 by omega)
        refine bs_callx (K := kq_X11_find_v) [.ref 69, .int z23, .int z25] [] rfl ce_X11_find_v Hhp9 rfl rfl rfl (bs_rcv (g := 11) Hhp9 (bs_R.uq Hhp9 (g := 11) rfl) (by decide) rfl) rfl ?_ (sf_S_cons (sf_s1 (x := z23.toInt) rfl (by omega) (by omega)) (sf_S_cons (sf_s1 (x := z25.toInt) rfl (by omega) (by omega)) (sf_S_nil))) fun r26 hp27 thp27 Hhp27 fhp27 ahp27 php27 xhp27 => ?_
        · intro q k h
          match q, h with
          | 0, h => cases h; exact bs_jR (bs_R.uq Hhp9 (g := 11) rfl)
          | 1, h => cases h; exact sf_j0
          | 2, h => cases h; exact sf_j0
          | q + 3, h => cases h
        obtain ⟨z28, rfl⟩ := bs_anI ahp27
        have rgz28 := n_range z28
        have Fhp27 := sf_fr_tr Fhp9 (sf_fr_wider (W := [(11, 4, 4), (11, 11, 18), (135, 0, 0)]) rfl fhp27)
        have h29 : sf_rd hp27 72 0 = some z7.toInt := (fhp27.2.2.1 _ (bs_R.uq Hhp9 (g := 133) (p := 72) rfl).1 _ (by rw [(bs_R.uq Hhp9 (g := 133) (p := 72) rfl).2]; rfl)).trans h11
        have h30 : sf_rd hp27 72 1 = some z25.toInt := (fhp27.2.2.1 _ (bs_R.uq Hhp9 (g := 133) (p := 72) rfl).1 _ (by rw [(bs_R.uq Hhp9 (g := 133) (p := 72) rfl).2]; rfl)).trans hz25
        obtain ⟨uz28, vz28⟩ := bs_s1 (x := z28.toInt) rfl (php27 _ (List.mem_of_getElem? (i := 0) rfl))
        refine (show Ev _ 40 ([some (.ref 69), some (.int x1)], [.int z28], (0, 0), hp27) _ from ?_)
        refine bs_iflt rfl (fun c31 => ?_) (fun c31 => ?_)
        · skip
          refine Ev.step (j := 50) (s' := ([some (.ref 69), some (.int x1)], [.ref 69], (0, 0), hp27)) rfl rfl ?_
          refine bs_getU (g := 11) (g1 := 135) rfl rfl Hhp27 (bs_R.uq Hhp27 (g := 11) rfl) (by decide) rfl rfl ?_
          refine Ev.step (j := 54) (s' := ([some (.ref 69), some (.int x1)], [.int x1, .ref 74], (0, 0), hp27)) rfl rfl ?_
          refine Ev.step (j := 55) (s' := ([some (.ref 69), some (.int x1)], [.ref 69, .int x1, .ref 74], (0, 0), hp27)) rfl rfl ?_
          refine bs_getLv (g := 11) rfl rfl Hhp27 (bs_R.uq Hhp27 (g := 11) rfl) (by decide) rfl fun w32 hw32 => ?_
          refine bs_lastv (W := [(135, 0, 0)]) (g := 135) rfl Hhp27 (bs_R.uq Hhp27 (g := 135) rfl) (by decide) rfl rfl (by omega) (by show _ < ((28 : Nat) : Int); omega) fun hp33 Hhp33 fhp33 mhp33 lhp33 ehp33 qhp33 => ?_
          have Fhp33 := sf_fr_tr Fhp27 (sf_fr_wider (W := [(11, 4, 4), (11, 11, 18), (135, 0, 0)]) rfl fhp33)
          have h34 : sf_rd hp33 72 0 = some z7.toInt := (ehp33 _ _).trans h29
          have h35 : sf_rd hp33 72 1 = some z25.toInt := (ehp33 _ _).trans h30
          have h36 : sf_rl hp33 69 17 = some w32 := (lhp33 _ _ (Or.inl (by decide))).trans hw32
          refine Ev.step (j := 60) (s' := ([some (.ref 69), some (.int x1)], [.ref 69], (0, 0), hp33)) rfl rfl ?_
          refine bs_callx (K := kq_X11_next_v) [.ref 69] [] rfl ce_X11_next_v Hhp33 rfl rfl rfl (bs_rcv (g := 11) Hhp33 (bs_R.uq Hhp33 (g := 11) rfl) (by decide) rfl) rfl ?_ (sf_S_nil) fun r37 hp38 thp38 Hhp38 fhp38 ahp38 php38 xhp38 => ?_
          · intro q k h
            match q, h with
            | 0, h => cases h; exact bs_jR (bs_R.uq Hhp33 (g := 11) rfl)
            | q + 1, h => cases h
          obtain rfl := ahp38.1 rfl
          have Fhp38 := sf_fr_tr Fhp33 (sf_fr_wider (W := [(11, 4, 4), (11, 11, 18), (135, 0, 0)]) rfl fhp38)
          have h39 : sf_rd hp38 72 0 = some z7.toInt := (fhp38.2.2.1 _ (bs_R.uq Hhp33 (g := 133) (p := 72) rfl).1 _ (by rw [(bs_R.uq Hhp33 (g := 133) (p := 72) rfl).2]; rfl)).trans h34
          have h40 : sf_rd hp38 72 1 = some z25.toInt := (fhp38.2.2.1 _ (bs_R.uq Hhp33 (g := 133) (p := 72) rfl).1 _ (by rw [(bs_R.uq Hhp33 (g := 133) (p := 72) rfl).2]; rfl)).trans h35
          have h41 : sf_rl hp38 74 x1.toInt.toNat = some w32 := (sf_rl_cell (fhp38.2.2.2.1 _ (bs_R.uq Hhp33 (g := 135) (p := 74) rfl).1 (by rw [(bs_R.uq Hhp33 (g := 135) (p := 74) rfl).2]; rfl))).trans mhp33
          refine (show Ev _ 63 ([some (.ref 69), some (.int x1)], [], (0, 0), hp38) _ from ?_)
          refine bs_lit (k := 1) rfl rfl fun z42 hz42 => ?_
          exact bs_zret rfl rfl (by omega) (by omega) (by rw [hQ]; exact ⟨thp38, Hhp38, Fhp38, bs_an0, sf_S_cons (sf_s1 (x := z42.toInt) rfl (by omega) (by omega)) (sf_S_nil), (fun p s B n lim i ha hS hR hK => by
                  cases ha
                  obtain ⟨q1, rq1, N1, N2⟩ := xhp2 (tok B n lim i) hK.1 (tok_wok B n lim i) (tok_k88 B n lim i) hR
                  obtain rfl := Value.int.inj (Option.some.inj rq1)
                  have T2 := N1 (by omega)
                  have KW_ := RK_w hK (by rw [T2]; rfl)
                  have K1 := RK_nil H fhp2 hK
                  have S1 := SR_nil H fhp2 hS
                  have K2 := RK_nil Hhp2 fhp9 K1
                  have S2 := SR_nil Hhp2 fhp9 S1
                  have K3 := RK_nil Hhp9 fhp27 K2
                  have S3 := SR_nil Hhp9 fhp27 S2
                  have C0 : z7.toInt = s.h 0 := Option.some.inj (hz7.symm.trans (S1.1 0 (by decide)))
                  obtain ⟨q2, rq2, G0⟩ := xhp9 _ _ s.nm 0 (tok B n lim i).v rfl (fun k hk => by rw [show z5.toInt.toNat + k = 14 + k by omega, Nat.zero_add]; exact S1.2.2.2.1 k (by omega)) (RK_w K1 (by rw [T2]; rfl))
                  obtain rfl := Value.int.inj (Option.some.inj rq2)
                  rw [C0] at G0
                  have C1 : z25.toInt = s.h 1 := Option.some.inj (hz25.symm.trans (S2.1 1 (by decide)))
                  obtain ⟨q3, rq3, G1⟩ := xhp27 _ _ s.nm 6 (tok B n lim i).v rfl (fun k hk => by rw [show z23.toInt.toNat + k = 20 + k by omega]; exact S2.2.2.2.2 k (by omega)) (RK_w K2 (by rw [T2]; rfl))
                  obtain rfl := Value.int.inj (Option.some.inj rq3)
                  rw [C1] at G1
                  have K4 := RK_keep Hhp27 fhp33 rfl rfl (lhp33 _ _ (Or.inl (by decide))) K3
                  have K5 := (RK_next Hhp33 fhp38 rfl rfl rfl xhp38 K4).1
                  obtain ⟨wq, g1, g2⟩ := RK_w K3 (by rw [T2]; rfl)
                  have EW : w32 = wq := Option.some.inj (hw32.symm.trans g1)
                  exact ⟨z42, rfl, Or.inl ⟨by omega, T2, by omega, K5, ⟨_, h41, by rw [EW]; exact g2⟩, fun q hq => ((sf_rl_cell (fhp38.2.2.2.1 _ (bs_R.uq Hhp33 (g := 135) (p := 74) rfl).1 (by rw [(bs_R.uq Hhp33 (g := 135) (p := 74) rfl).2]; rfl))).trans ((lhp33 _ _ (Or.inr (by omega))).trans ((sf_rl_cell (fhp27.2.2.2.1 _ (bs_R.uq Hhp9 (g := 135) (p := 74) rfl).1 (by rw [(bs_R.uq Hhp9 (g := 135) (p := 74) rfl).2]; rfl))).trans ((sf_rl_cell (fhp9.2.2.2.1 _ (bs_R.uq Hhp2 (g := 135) (p := 74) rfl).1 (by rw [(bs_R.uq Hhp2 (g := 135) (p := 74) rfl).2]; rfl))).trans (sf_rl_cell (fhp2.2.2.2.1 _ (bs_R.uq H (g := 135) (p := 74) rfl).1 (by rw [(bs_R.uq H (g := 135) (p := 74) rfl).2]; rfl)))))))⟩⟩)⟩)
        · skip
          refine Ev.step (j := 44) (s' := ([some (.ref 69), some (.int x1)], [.ref 69], (0, 0), hp27)) rfl rfl ?_
          refine bs_lit (k := 3) rfl rfl fun z43 hz43 => ?_
          refine Ev.inl (L := L_X11_bad) (nL := 2) rfl (bs_rcv (g := 11) Hhp27 (bs_R.uq Hhp27 (g := 11) rfl) (by decide) rfl) rfl (Nat.le_of_ble_eq_true rfl) ?_
          generalize hQ44 : (fun (o : ab_O) => Ev _ _ _ _) = Q44
          refine (show Ev (ab_T L_X11_bad) 0 ([some (.ref 69), some (.int z43)], [], (0, 0), hp27) Q44 from ?_)
          refine Ev.step (j := 1) (s' := ([some (.ref 69), some (.int z43)], [.ref 69], (0, 0), hp27)) rfl rfl ?_
          refine Ev.step (j := 2) (s' := ([some (.ref 69), some (.int z43)], [.int z43, .ref 69], (0, 0), hp27)) rfl rfl ?_
          refine bs_putIv (W := [(11, 15, 15)]) (g := 11) rfl rfl Hhp27 (bs_R.uq Hhp27 (g := 11) rfl) (by decide) rfl rfl rfl rfl (Or.inl rfl) (by omega) (by omega) fun hp45 Hhp45 fhp45 rhp45 ehp45 qhp45 nhp45 => ?_
          have Fhp45 := sf_fr_tr Fhp27 (sf_fr_wider (W := [(11, 4, 4), (11, 11, 18), (135, 0, 0)]) rfl fhp45)
          have h46 : sf_rd hp45 72 0 = some z7.toInt := (ehp45 _ _ (Or.inl (by decide))).trans h29
          have h47 : sf_rd hp45 72 1 = some z25.toInt := (ehp45 _ _ (Or.inl (by decide))).trans h30
          refine Ev.step (j := 6) (s' := ([some (.ref 69), some (.int z43)], [.ref 69], (0, 0), hp45)) rfl rfl ?_
          refine Ev.step (j := 7) (s' := ([some (.ref 69), some (.int z43)], [.ref 69, .ref 69], (0, 0), hp45)) rfl rfl ?_
          refine bs_getI 11 rfl rfl rfl Hhp45 (bs_R.uq Hhp45 (g := 11) rfl) (by decide) rfl fun z48 hz48 lz48 gz48 => ?_
          refine bs_putIv (W := [(11, 16, 16)]) (g := 11) rfl rfl Hhp45 (bs_R.uq Hhp45 (g := 11) rfl) (by decide) rfl rfl rfl rfl (Or.inl rfl) (by omega) (by omega) fun hp49 Hhp49 fhp49 rhp49 ehp49 qhp49 nhp49 => ?_
          have Fhp49 := sf_fr_tr Fhp45 (sf_fr_wider (W := [(11, 4, 4), (11, 11, 18), (135, 0, 0)]) rfl fhp49)
          have h50 : sf_rd hp49 72 0 = some z7.toInt := (ehp49 _ _ (Or.inl (by decide))).trans h46
          have h51 : sf_rd hp49 72 1 = some z25.toInt := (ehp49 _ _ (Or.inl (by decide))).trans h47
          have h52 : sf_rd hp49 69 15 = some z43.toInt := (ehp49 _ _ (Or.inr (by omega))).trans rhp45
          have h53 : sf_rd hp49 69 12 = some z48.toInt := (ehp49 _ _ (Or.inr (by omega))).trans hz48
          refine bs_lit (k := 0) rfl rfl fun z54 hz54 => ?_
          refine bs_zret rfl rfl (by omega) (by omega) ?_
          rw [← hQ44]
          refine (show Ev _ 48 ([some (.ref 69), some (.int x1)], [.int z54], (0, 0), hp49) _ from ?_)
          exact bs_zret rfl rfl (by omega) (by omega) (by rw [hQ]; exact ⟨thp27, Hhp49, Fhp49, bs_an0, sf_S_cons (sf_s1 (x := z54.toInt) rfl (by omega) (by omega)) (sf_S_nil), (fun p s B n lim i ha hS hR hK => by
                  cases ha
                  obtain ⟨q1, rq1, N1, N2⟩ := xhp2 (tok B n lim i) hK.1 (tok_wok B n lim i) (tok_k88 B n lim i) hR
                  obtain rfl := Value.int.inj (Option.some.inj rq1)
                  have T2 := N1 (by omega)
                  have KW_ := RK_w hK (by rw [T2]; rfl)
                  have K1 := RK_nil H fhp2 hK
                  have S1 := SR_nil H fhp2 hS
                  have K2 := RK_nil Hhp2 fhp9 K1
                  have S2 := SR_nil Hhp2 fhp9 S1
                  have K3 := RK_nil Hhp9 fhp27 K2
                  have S3 := SR_nil Hhp9 fhp27 S2
                  have C0 : z7.toInt = s.h 0 := Option.some.inj (hz7.symm.trans (S1.1 0 (by decide)))
                  obtain ⟨q2, rq2, G0⟩ := xhp9 _ _ s.nm 0 (tok B n lim i).v rfl (fun k hk => by rw [show z5.toInt.toNat + k = 14 + k by omega, Nat.zero_add]; exact S1.2.2.2.1 k (by omega)) (RK_w K1 (by rw [T2]; rfl))
                  obtain rfl := Value.int.inj (Option.some.inj rq2)
                  rw [C0] at G0
                  have C1 : z25.toInt = s.h 1 := Option.some.inj (hz25.symm.trans (S2.1 1 (by decide)))
                  obtain ⟨q3, rq3, G1⟩ := xhp27 _ _ s.nm 6 (tok B n lim i).v rfl (fun k hk => by rw [show z23.toInt.toNat + k = 20 + k by omega]; exact S2.2.2.2.2 k (by omega)) (RK_w K2 (by rw [T2]; rfl))
                  obtain rfl := Value.int.inj (Option.some.inj rq3)
                  rw [C1] at G1
                  have PL : z48.toInt = (tok B n lim i).pl := Option.some.inj (hz48.symm.trans (((ehp45 _ _ (Or.inr (by omega)))).trans (RK_pl K3)))
                  exact ⟨z54, rfl, Or.inr ⟨by omega, rhp49.trans (congrArg some PL), Or.inr ⟨⟨T2, by omega⟩, h52.trans (congrArg some (by omega))⟩⟩⟩)⟩)
    · skip
      have c55 : z3.toInt = 0 := by omega
      refine Ev.step (j := 8) (s' := ([some (.ref 69), some (.int x1)], [.ref 69], (0, 0), hp2)) rfl rfl ?_
      refine bs_lit (k := 1) rfl rfl fun z56 hz56 => ?_
      refine Ev.inl (L := L_X11_bad) (nL := 2) rfl (bs_rcv (g := 11) Hhp2 (bs_R.uq Hhp2 (g := 11) rfl) (by decide) rfl) rfl (Nat.le_of_ble_eq_true rfl) ?_
      generalize hQ57 : (fun (o : ab_O) => Ev _ _ _ _) = Q57
      refine (show Ev (ab_T L_X11_bad) 0 ([some (.ref 69), some (.int z56)], [], (0, 0), hp2) Q57 from ?_)
      refine Ev.step (j := 1) (s' := ([some (.ref 69), some (.int z56)], [.ref 69], (0, 0), hp2)) rfl rfl ?_
      refine Ev.step (j := 2) (s' := ([some (.ref 69), some (.int z56)], [.int z56, .ref 69], (0, 0), hp2)) rfl rfl ?_
      refine bs_putIv (W := [(11, 15, 15)]) (g := 11) rfl rfl Hhp2 (bs_R.uq Hhp2 (g := 11) rfl) (by decide) rfl rfl rfl rfl (Or.inl rfl) (by omega) (by omega) fun hp58 Hhp58 fhp58 rhp58 ehp58 qhp58 nhp58 => ?_
      have Fhp58 := sf_fr_tr Fhp2 (sf_fr_wider (W := [(11, 4, 4), (11, 11, 18), (135, 0, 0)]) rfl fhp58)
      refine Ev.step (j := 6) (s' := ([some (.ref 69), some (.int z56)], [.ref 69], (0, 0), hp58)) rfl rfl ?_
      refine Ev.step (j := 7) (s' := ([some (.ref 69), some (.int z56)], [.ref 69, .ref 69], (0, 0), hp58)) rfl rfl ?_
      refine bs_getI 11 rfl rfl rfl Hhp58 (bs_R.uq Hhp58 (g := 11) rfl) (by decide) rfl fun z59 hz59 lz59 gz59 => ?_
      refine bs_putIv (W := [(11, 16, 16)]) (g := 11) rfl rfl Hhp58 (bs_R.uq Hhp58 (g := 11) rfl) (by decide) rfl rfl rfl rfl (Or.inl rfl) (by omega) (by omega) fun hp60 Hhp60 fhp60 rhp60 ehp60 qhp60 nhp60 => ?_
      have Fhp60 := sf_fr_tr Fhp58 (sf_fr_wider (W := [(11, 4, 4), (11, 11, 18), (135, 0, 0)]) rfl fhp60)
      have h61 : sf_rd hp60 69 15 = some z56.toInt := (ehp60 _ _ (Or.inr (by omega))).trans rhp58
      have h62 : sf_rd hp60 69 12 = some z59.toInt := (ehp60 _ _ (Or.inr (by omega))).trans hz59
      refine bs_lit (k := 0) rfl rfl fun z63 hz63 => ?_
      refine bs_zret rfl rfl (by omega) (by omega) ?_
      rw [← hQ57]
      refine (show Ev _ 12 ([some (.ref 69), some (.int x1)], [.int z63], (0, 0), hp60) _ from ?_)
      exact bs_zret rfl rfl (by omega) (by omega) (by rw [hQ]; exact ⟨thp2, Hhp60, Fhp60, bs_an0, sf_S_cons (sf_s1 (x := z63.toInt) rfl (by omega) (by omega)) (sf_S_nil), (fun p s B n lim i ha hS hR hK => by
              cases ha
              obtain ⟨q1, rq1, N1, N2⟩ := xhp2 (tok B n lim i) hK.1 (tok_wok B n lim i) (tok_k88 B n lim i) hR
              obtain rfl := Value.int.inj (Option.some.inj rq1)
              have K1 := RK_nil H fhp2 hK
              have PL : z59.toInt = (tok B n lim i).pl := Option.some.inj (hz59.symm.trans (((ehp58 _ _ (Or.inr (by omega)))).trans (RK_pl K1)))
              exact ⟨z63, rfl, Or.inr ⟨by omega, rhp60.trans (congrArg some PL), Or.inl ⟨fun e => absurd (N2 e) (by omega), h61.trans (congrArg some (by omega))⟩⟩⟩)⟩)
theorem ct_X11_fresh_v : sf_ct kq_X11_fresh_v Z_X11_fresh := ce_X11_fresh_v.ct
def kq_X11_looksAt_v : sf_Q := ([(1, 11, 0), (0, 0, 0), (0, 0, 0)], [(1, 3, 0, 14, 20, 0), (1, 6, 0, 0, 8, 0)], some (0, 0, 0), [(1, 0, 0, 0, 1, 0)], [(11, 15, 16), (11, 18, 18)])
def ke_X11_looksAt_v : List Value → ab_H → Option Value → ab_H → Prop := fun as hp r hp' => ∀ (x y : Int32) (nm : Nat → Int) (q : Nat) (B : Nat → Int) (n lim i : Nat), as = [.ref 69, .int x, .int y] → (∀ k : Nat, (k : Int) < y.toInt → ∃ w, sf_rl hp 74 (x.toInt.toNat + k) = some w ∧ w.toInt = nm (q + k)) → RES hp → RK hp B n lim i → ∃ z : Int32, r = some (.int z) ∧ ((z.toInt = 1 ∧ (tok B n lim i).k = 2 ∧ 0 ≤ fnd nm q y.toInt (tok B n lim i).v ∧ sf_rd hp' 69 18 = some (fnd nm q y.toInt (tok B n lim i).v) ∧ RK hp' B n lim i) ∨ (z.toInt = 0 ∧ sf_rd hp' 69 16 = some (tok B n lim i).pl ∧ (((tok B n lim i).k ≠ 2 ∧ sf_rd hp' 69 15 = some 1) ∨ (((tok B n lim i).k = 2 ∧ fnd nm q y.toInt (tok B n lim i).v < 0) ∧ sf_rd hp' 69 15 = some 3))))
set_option maxRecDepth 100000 in
set_option maxHeartbeats 4000000 in
theorem ce_X11_looksAt_v : sf_cE kq_X11_looksAt_v Z_X11_looksAt ke_X11_looksAt_v := by
  intro t hp as H hl hj hpre
  match as, hl with
  | [v0, v1, v2], _ =>
    obtain ⟨a0, rfl, ra0⟩ := bs_aR (hj 0 _ rfl)
    obtain rfl := ra0.eq H (p := 69) rfl
    obtain ⟨x1, rfl⟩ := bs_aI (hj 1 _ rfl)
    have rg1 := n_range x1
    obtain ⟨x2, rfl⟩ := bs_aI (hj 2 _ rfl)
    have rg2 := n_range x2
    obtain ⟨pl0, ph0⟩ := bs_s1 (x := x1.toInt) rfl (hpre _ (List.mem_of_getElem? (i := 0) rfl))
    obtain ⟨pl1, ph1⟩ := bs_s1 (x := x2.toInt) rfl (hpre _ (List.mem_of_getElem? (i := 1) rfl))
    clear hpre hj
    have F0 : sf_fr [(11, 15, 16), (11, 18, 18)] t hp t hp := sf_fr_rf
    refine bs_finx (E := ke_X11_looksAt_v) (K := kq_X11_looksAt_v) (L := (L_X11_looksAt Z_X11_isName Z_X11_bad Z_X11_find)) (nL := 3) (Nat.le_of_ble_eq_true rfl) ?_
    obtain ⟨Q, hQ⟩ : ∃ Q : ab_O → Prop, Q = (fun o => ∃ t', sf_h t' o.2 ∧ sf_fr (kq_X11_looksAt_v).2.2.2.2 t hp t' o.2 ∧ sf_an t' o.2.1 (kq_X11_looksAt_v).2.2.1 o.1 ∧ sf_S (sf_v1 o.1 [.ref 69, .int x1, .int x2] o.2) (kq_X11_looksAt_v).2.2.2.1 ∧ ke_X11_looksAt_v [.ref 69, .int x1, .int x2] hp o.1 o.2) := ⟨_, rfl⟩
    rw [← hQ]
    refine (show Ev (ab_T (L_X11_looksAt Z_X11_isName Z_X11_bad Z_X11_find)) 0 ([some (.ref 69), some (.int x1), some (.int x2)], [], (0, 0), hp) Q from ?_)
    refine Ev.step (j := 1) (s' := ([some (.ref 69), some (.int x1), some (.int x2)], [.ref 69], (0, 0), hp)) rfl rfl ?_
    refine bs_callx (K := kq_X11_isName_v) [.ref 69] [] rfl ce_X11_isName_v H rfl rfl rfl (bs_rcv (g := 11) H (bs_R.uq H (g := 11) rfl) (by decide) rfl) rfl ?_ (sf_S_nil) fun r1 hp2 thp2 Hhp2 fhp2 ahp2 php2 xhp2 => ?_
    · intro q k h
      match q, h with
      | 0, h => cases h; exact bs_jR (bs_R.uq H (g := 11) rfl)
      | q + 1, h => cases h
    obtain ⟨z3, rfl⟩ := bs_anI ahp2
    have rgz3 := n_range z3
    have Fhp2 := sf_fr_tr F0 (sf_fr_wider (W := [(11, 15, 16), (11, 18, 18)]) rfl fhp2)
    obtain ⟨uz3, vz3⟩ := bs_s1 (x := z3.toInt) rfl (php2 _ (List.mem_of_getElem? (i := 0) rfl))
    refine (show Ev _ 4 ([some (.ref 69), some (.int x1), some (.int x2)], [.int z3], (0, 0), hp2) _ from ?_)
    refine bs_ifne rfl (fun c4 => ?_) (fun c4 => ?_)
    · skip
      refine Ev.step (j := 14) (s' := ([some (.ref 69), some (.int x1), some (.int x2)], [.ref 69], (0, 0), hp2)) rfl rfl ?_
      refine Ev.step (j := 15) (s' := ([some (.ref 69), some (.int x1), some (.int x2)], [.ref 69, .ref 69], (0, 0), hp2)) rfl rfl ?_
      refine Ev.step (j := 16) (s' := ([some (.ref 69), some (.int x1), some (.int x2)], [.int x1, .ref 69, .ref 69], (0, 0), hp2)) rfl rfl ?_
      refine Ev.step (j := 17) (s' := ([some (.ref 69), some (.int x1), some (.int x2)], [.int x2, .int x1, .ref 69, .ref 69], (0, 0), hp2)) rfl rfl ?_
      refine bs_callx (K := kq_X11_find_v) [.ref 69, .int x1, .int x2] [.ref 69] rfl ce_X11_find_v Hhp2 rfl rfl rfl (bs_rcv (g := 11) Hhp2 (bs_R.uq Hhp2 (g := 11) rfl) (by decide) rfl) rfl ?_ (sf_S_cons (sf_s1 (x := x1.toInt) rfl (by omega) (by omega)) (sf_S_cons (sf_s1 (x := x2.toInt) rfl (by omega) (by omega)) (sf_S_nil))) fun r5 hp6 thp6 Hhp6 fhp6 ahp6 php6 xhp6 => ?_
      · intro q k h
        match q, h with
        | 0, h => cases h; exact bs_jR (bs_R.uq Hhp2 (g := 11) rfl)
        | 1, h => cases h; exact sf_j0
        | 2, h => cases h; exact sf_j0
        | q + 3, h => cases h
      obtain ⟨z7, rfl⟩ := bs_anI ahp6
      have rgz7 := n_range z7
      have Fhp6 := sf_fr_tr Fhp2 (sf_fr_wider (W := [(11, 15, 16), (11, 18, 18)]) rfl fhp6)
      obtain ⟨uz7, vz7⟩ := bs_s1 (x := z7.toInt) rfl (php6 _ (List.mem_of_getElem? (i := 0) rfl))
      refine (show Ev _ 20 ([some (.ref 69), some (.int x1), some (.int x2)], [.int z7, .ref 69], (0, 0), hp6) _ from ?_)
      refine bs_putIv (W := [(11, 18, 18)]) (g := 11) rfl rfl Hhp6 (bs_R.uq Hhp6 (g := 11) rfl) (by decide) rfl rfl rfl rfl (Or.inl rfl) (by omega) (by omega) fun hp8 Hhp8 fhp8 rhp8 ehp8 qhp8 nhp8 => ?_
      have Fhp8 := sf_fr_tr Fhp6 (sf_fr_wider (W := [(11, 15, 16), (11, 18, 18)]) rfl fhp8)
      refine Ev.step (j := 24) (s' := ([some (.ref 69), some (.int x1), some (.int x2)], [.ref 69], (0, 0), hp8)) rfl rfl ?_
      refine bs_getI 11 rfl rfl rfl Hhp8 (bs_R.uq Hhp8 (g := 11) rfl) (by decide) rfl fun z9 hz9 lz9 gz9 => ?_
      have e10 : z9.toInt = z7.toInt := Option.some.inj (hz9.symm.trans rhp8)
      refine bs_ifge rfl (fun c11 => ?_) (fun c11 => ?_)
      · skip
        refine bs_lit (k := 1) rfl rfl fun z12 hz12 => ?_
        refine Ev.step (j := 43) (s' := ([some (.ref 69), some (.int x1), some (.int x2)], [.int z12], (0, 0), hp8)) rfl rfl ?_
        exact bs_zret rfl rfl (by omega) (by omega) (by rw [hQ]; exact ⟨thp6, Hhp8, Fhp8, bs_an0, sf_S_cons (sf_s1 (x := z12.toInt) rfl (by omega) (by omega)) (sf_S_nil), (fun x y nm q B n lim i ha hN hR hK => by
                cases ha
                obtain ⟨q1, rq1, N1, N2⟩ := xhp2 (tok B n lim i) hK.1 (tok_wok B n lim i) (tok_k88 B n lim i) hR
                obtain rfl := Value.int.inj (Option.some.inj rq1)
                have T2 := N1 (by omega)
                have K1 := RK_nil H fhp2 hK
                have K2 := RK_nil Hhp2 fhp6 K1
                obtain ⟨q2, rq2, G2⟩ := xhp6 _ _ nm q (tok B n lim i).v rfl (fun k hk => by rw [sf_rl_cell (fhp2.2.2.2.1 _ (bs_R.uq H (g := 135) (p := 74) rfl).1 rfl)]; exact hN k hk) (RK_w K1 (by rw [T2]; rfl))
                obtain rfl := Value.int.inj (Option.some.inj rq2)
                have K3 := RK_keep Hhp6 fhp8 rfl rfl (nhp8 _ _) K2
                exact ⟨z12, rfl, Or.inl ⟨by omega, T2, by omega, rhp8.trans (congrArg some G2), K3⟩⟩)⟩)
      · skip
        refine Ev.step (j := 31) (s' := ([some (.ref 69), some (.int x1), some (.int x2)], [.ref 69], (0, 0), hp8)) rfl rfl ?_
        refine bs_lit (k := 3) rfl rfl fun z13 hz13 => ?_
        refine Ev.inl (L := L_X11_bad) (nL := 2) rfl (bs_rcv (g := 11) Hhp8 (bs_R.uq Hhp8 (g := 11) rfl) (by decide) rfl) rfl (Nat.le_of_ble_eq_true rfl) ?_
        generalize hQ14 : (fun (o : ab_O) => Ev _ _ _ _) = Q14
        refine (show Ev (ab_T L_X11_bad) 0 ([some (.ref 69), some (.int z13)], [], (0, 0), hp8) Q14 from ?_)
        refine Ev.step (j := 1) (s' := ([some (.ref 69), some (.int z13)], [.ref 69], (0, 0), hp8)) rfl rfl ?_
        refine Ev.step (j := 2) (s' := ([some (.ref 69), some (.int z13)], [.int z13, .ref 69], (0, 0), hp8)) rfl rfl ?_
        refine bs_putIv (W := [(11, 15, 15)]) (g := 11) rfl rfl Hhp8 (bs_R.uq Hhp8 (g := 11) rfl) (by decide) rfl rfl rfl rfl (Or.inl rfl) (by omega) (by omega) fun hp15 Hhp15 fhp15 rhp15 ehp15 qhp15 nhp15 => ?_
        have Fhp15 := sf_fr_tr Fhp8 (sf_fr_wider (W := [(11, 15, 16), (11, 18, 18)]) rfl fhp15)
        have h16 : sf_rd hp15 69 18 = some z7.toInt := (ehp15 _ _ (Or.inr (by omega))).trans rhp8
        refine Ev.step (j := 6) (s' := ([some (.ref 69), some (.int z13)], [.ref 69], (0, 0), hp15)) rfl rfl ?_
        refine Ev.step (j := 7) (s' := ([some (.ref 69), some (.int z13)], [.ref 69, .ref 69], (0, 0), hp15)) rfl rfl ?_
        refine bs_getI 11 rfl rfl rfl Hhp15 (bs_R.uq Hhp15 (g := 11) rfl) (by decide) rfl fun z17 hz17 lz17 gz17 => ?_
        refine bs_putIv (W := [(11, 16, 16)]) (g := 11) rfl rfl Hhp15 (bs_R.uq Hhp15 (g := 11) rfl) (by decide) rfl rfl rfl rfl (Or.inl rfl) (by omega) (by omega) fun hp18 Hhp18 fhp18 rhp18 ehp18 qhp18 nhp18 => ?_
        have Fhp18 := sf_fr_tr Fhp15 (sf_fr_wider (W := [(11, 15, 16), (11, 18, 18)]) rfl fhp18)
        have h19 : sf_rd hp18 69 18 = some z7.toInt := (ehp18 _ _ (Or.inr (by omega))).trans h16
        have h20 : sf_rd hp18 69 15 = some z13.toInt := (ehp18 _ _ (Or.inr (by omega))).trans rhp15
        have h21 : sf_rd hp18 69 12 = some z17.toInt := (ehp18 _ _ (Or.inr (by omega))).trans hz17
        refine bs_lit (k := 0) rfl rfl fun z22 hz22 => ?_
        refine bs_zret rfl rfl (by omega) (by omega) ?_
        rw [← hQ14]
        refine (show Ev _ 35 ([some (.ref 69), some (.int x1), some (.int x2)], [.int z22], (0, 0), hp18) _ from ?_)
        refine bs_ifeq rfl (fun c23 => ?_) (fun c23 => ?_)
        · skip
          refine bs_lit (k := 0) rfl rfl fun z24 hz24 => ?_
          exact bs_zret rfl rfl (by omega) (by omega) (by rw [hQ]; exact ⟨thp6, Hhp18, Fhp18, bs_an0, sf_S_cons (sf_s1 (x := z24.toInt) rfl (by omega) (by omega)) (sf_S_nil), (fun x y nm q B n lim i ha hN hR hK => by
                  cases ha
                  obtain ⟨q1, rq1, N1, N2⟩ := xhp2 (tok B n lim i) hK.1 (tok_wok B n lim i) (tok_k88 B n lim i) hR
                  obtain rfl := Value.int.inj (Option.some.inj rq1)
                  have T2 := N1 (by omega)
                  have K1 := RK_nil H fhp2 hK
                  have K2 := RK_nil Hhp2 fhp6 K1
                  obtain ⟨q2, rq2, G2⟩ := xhp6 _ _ nm q (tok B n lim i).v rfl (fun k hk => by rw [sf_rl_cell (fhp2.2.2.2.1 _ (bs_R.uq H (g := 135) (p := 74) rfl).1 rfl)]; exact hN k hk) (RK_w K1 (by rw [T2]; rfl))
                  obtain rfl := Value.int.inj (Option.some.inj rq2)
                  have K3 := RK_keep Hhp6 fhp8 rfl rfl (nhp8 _ _) K2
                  have PL : z17.toInt = (tok B n lim i).pl := Option.some.inj (hz17.symm.trans (((ehp15 _ _ (Or.inr (by omega)))).trans (RK_pl K3)))
                  exact ⟨z24, rfl, Or.inr ⟨by omega, rhp18.trans (congrArg some PL), Or.inr ⟨⟨T2, by omega⟩, h20.trans (congrArg some (by omega))⟩⟩⟩)⟩)
        · exfalso; omega
    · skip
      have c25 : z3.toInt = 0 := by omega
      refine Ev.step (j := 8) (s' := ([some (.ref 69), some (.int x1), some (.int x2)], [.ref 69], (0, 0), hp2)) rfl rfl ?_
      refine bs_lit (k := 1) rfl rfl fun z26 hz26 => ?_
      refine Ev.inl (L := L_X11_bad) (nL := 2) rfl (bs_rcv (g := 11) Hhp2 (bs_R.uq Hhp2 (g := 11) rfl) (by decide) rfl) rfl (Nat.le_of_ble_eq_true rfl) ?_
      generalize hQ27 : (fun (o : ab_O) => Ev _ _ _ _) = Q27
      refine (show Ev (ab_T L_X11_bad) 0 ([some (.ref 69), some (.int z26)], [], (0, 0), hp2) Q27 from ?_)
      refine Ev.step (j := 1) (s' := ([some (.ref 69), some (.int z26)], [.ref 69], (0, 0), hp2)) rfl rfl ?_
      refine Ev.step (j := 2) (s' := ([some (.ref 69), some (.int z26)], [.int z26, .ref 69], (0, 0), hp2)) rfl rfl ?_
      refine bs_putIv (W := [(11, 15, 15)]) (g := 11) rfl rfl Hhp2 (bs_R.uq Hhp2 (g := 11) rfl) (by decide) rfl rfl rfl rfl (Or.inl rfl) (by omega) (by omega) fun hp28 Hhp28 fhp28 rhp28 ehp28 qhp28 nhp28 => ?_
      have Fhp28 := sf_fr_tr Fhp2 (sf_fr_wider (W := [(11, 15, 16), (11, 18, 18)]) rfl fhp28)
      refine Ev.step (j := 6) (s' := ([some (.ref 69), some (.int z26)], [.ref 69], (0, 0), hp28)) rfl rfl ?_
      refine Ev.step (j := 7) (s' := ([some (.ref 69), some (.int z26)], [.ref 69, .ref 69], (0, 0), hp28)) rfl rfl ?_
      refine bs_getI 11 rfl rfl rfl Hhp28 (bs_R.uq Hhp28 (g := 11) rfl) (by decide) rfl fun z29 hz29 lz29 gz29 => ?_
      refine bs_putIv (W := [(11, 16, 16)]) (g := 11) rfl rfl Hhp28 (bs_R.uq Hhp28 (g := 11) rfl) (by decide) rfl rfl rfl rfl (Or.inl rfl) (by omega) (by omega) fun hp30 Hhp30 fhp30 rhp30 ehp30 qhp30 nhp30 => ?_
      have Fhp30 := sf_fr_tr Fhp28 (sf_fr_wider (W := [(11, 15, 16), (11, 18, 18)]) rfl fhp30)
      have h31 : sf_rd hp30 69 15 = some z26.toInt := (ehp30 _ _ (Or.inr (by omega))).trans rhp28
      have h32 : sf_rd hp30 69 12 = some z29.toInt := (ehp30 _ _ (Or.inr (by omega))).trans hz29
      refine bs_lit (k := 0) rfl rfl fun z33 hz33 => ?_
      refine bs_zret rfl rfl (by omega) (by omega) ?_
      rw [← hQ27]
      refine (show Ev _ 12 ([some (.ref 69), some (.int x1), some (.int x2)], [.int z33], (0, 0), hp30) _ from ?_)
      exact bs_zret rfl rfl (by omega) (by omega) (by rw [hQ]; exact ⟨thp2, Hhp30, Fhp30, bs_an0, sf_S_cons (sf_s1 (x := z33.toInt) rfl (by omega) (by omega)) (sf_S_nil), (fun x y nm q B n lim i ha hN hR hK => by
              cases ha
              obtain ⟨q1, rq1, N1, N2⟩ := xhp2 (tok B n lim i) hK.1 (tok_wok B n lim i) (tok_k88 B n lim i) hR
              obtain rfl := Value.int.inj (Option.some.inj rq1)
              have K1 := RK_nil H fhp2 hK
              have PL : z29.toInt = (tok B n lim i).pl := Option.some.inj (hz29.symm.trans (((ehp28 _ _ (Or.inr (by omega)))).trans (RK_pl K1)))
              exact ⟨z33, rfl, Or.inr ⟨by omega, rhp30.trans (congrArg some PL), Or.inl ⟨fun e => absurd (N2 e) (by omega), h31.trans (congrArg some (by omega))⟩⟩⟩)⟩)
theorem ct_X11_looksAt_v : sf_ct kq_X11_looksAt_v Z_X11_looksAt := ce_X11_looksAt_v.ct
def kq_X11_takesName_v : sf_Q := ([(1, 11, 0), (0, 0, 0), (0, 0, 0)], [(1, 3, 0, 14, 20, 0), (1, 6, 0, 0, 8, 0)], some (0, 0, 0), [(1, 0, 0, 0, 1, 0)], [(11, 4, 4), (11, 11, 18)])
def ke_X11_takesName_v : List Value → ab_H → Option Value → ab_H → Prop := fun as hp r hp' => ∀ (x y : Int32) (nm : Nat → Int) (q : Nat) (B : Nat → Int) (n lim i : Nat), as = [.ref 69, .int x, .int y] → (∀ k : Nat, (k : Int) < y.toInt → ∃ w, sf_rl hp 74 (x.toInt.toNat + k) = some w ∧ w.toInt = nm (q + k)) → RES hp → RK hp B n lim i → ∃ z : Int32, r = some (.int z) ∧ ((z.toInt = 1 ∧ (tok B n lim i).k = 2 ∧ 0 ≤ fnd nm q y.toInt (tok B n lim i).v ∧ sf_rd hp' 69 18 = some (fnd nm q y.toInt (tok B n lim i).v) ∧ RK hp' B n lim (i + 1)) ∨ (z.toInt = 0 ∧ sf_rd hp' 69 16 = some (tok B n lim i).pl ∧ (((tok B n lim i).k ≠ 2 ∧ sf_rd hp' 69 15 = some 1) ∨ (((tok B n lim i).k = 2 ∧ fnd nm q y.toInt (tok B n lim i).v < 0) ∧ sf_rd hp' 69 15 = some 3))))
set_option maxRecDepth 100000 in
set_option maxHeartbeats 4000000 in
theorem ce_X11_takesName_v : sf_cE kq_X11_takesName_v Z_X11_takesName ke_X11_takesName_v := by
  intro t hp as H hl hj hpre
  match as, hl with
  | [v0, v1, v2], _ =>
    obtain ⟨a0, rfl, ra0⟩ := bs_aR (hj 0 _ rfl)
    obtain rfl := ra0.eq H (p := 69) rfl
    obtain ⟨x1, rfl⟩ := bs_aI (hj 1 _ rfl)
    have rg1 := n_range x1
    obtain ⟨x2, rfl⟩ := bs_aI (hj 2 _ rfl)
    have rg2 := n_range x2
    obtain ⟨pl0, ph0⟩ := bs_s1 (x := x1.toInt) rfl (hpre _ (List.mem_of_getElem? (i := 0) rfl))
    obtain ⟨pl1, ph1⟩ := bs_s1 (x := x2.toInt) rfl (hpre _ (List.mem_of_getElem? (i := 1) rfl))
    clear hpre hj
    have F0 : sf_fr [(11, 4, 4), (11, 11, 18)] t hp t hp := sf_fr_rf
    refine bs_finx (E := ke_X11_takesName_v) (K := kq_X11_takesName_v) (L := (L_X11_takesName Z_X11_looksAt Z_X11_next)) (nL := 3) (Nat.le_of_ble_eq_true rfl) ?_
    obtain ⟨Q, hQ⟩ : ∃ Q : ab_O → Prop, Q = (fun o => ∃ t', sf_h t' o.2 ∧ sf_fr (kq_X11_takesName_v).2.2.2.2 t hp t' o.2 ∧ sf_an t' o.2.1 (kq_X11_takesName_v).2.2.1 o.1 ∧ sf_S (sf_v1 o.1 [.ref 69, .int x1, .int x2] o.2) (kq_X11_takesName_v).2.2.2.1 ∧ ke_X11_takesName_v [.ref 69, .int x1, .int x2] hp o.1 o.2) := ⟨_, rfl⟩
    rw [← hQ]
    refine (show Ev (ab_T (L_X11_takesName Z_X11_looksAt Z_X11_next)) 0 ([some (.ref 69), some (.int x1), some (.int x2)], [], (0, 0), hp) Q from ?_)
    refine Ev.step (j := 1) (s' := ([some (.ref 69), some (.int x1), some (.int x2)], [.ref 69], (0, 0), hp)) rfl rfl ?_
    refine Ev.step (j := 2) (s' := ([some (.ref 69), some (.int x1), some (.int x2)], [.int x1, .ref 69], (0, 0), hp)) rfl rfl ?_
    refine Ev.step (j := 3) (s' := ([some (.ref 69), some (.int x1), some (.int x2)], [.int x2, .int x1, .ref 69], (0, 0), hp)) rfl rfl ?_
    refine bs_callx (K := kq_X11_looksAt_v) [.ref 69, .int x1, .int x2] [] rfl ce_X11_looksAt_v H rfl rfl rfl (bs_rcv (g := 11) H (bs_R.uq H (g := 11) rfl) (by decide) rfl) rfl ?_ (sf_S_cons (sf_s1 (x := x1.toInt) rfl (by omega) (by omega)) (sf_S_cons (sf_s1 (x := x2.toInt) rfl (by omega) (by omega)) (sf_S_nil))) fun r1 hp2 thp2 Hhp2 fhp2 ahp2 php2 xhp2 => ?_
    · intro q k h
      match q, h with
      | 0, h => cases h; exact bs_jR (bs_R.uq H (g := 11) rfl)
      | 1, h => cases h; exact sf_j0
      | 2, h => cases h; exact sf_j0
      | q + 3, h => cases h
    obtain ⟨z3, rfl⟩ := bs_anI ahp2
    have rgz3 := n_range z3
    have Fhp2 := sf_fr_tr F0 (sf_fr_wider (W := [(11, 4, 4), (11, 11, 18)]) rfl fhp2)
    obtain ⟨uz3, vz3⟩ := bs_s1 (x := z3.toInt) rfl (php2 _ (List.mem_of_getElem? (i := 0) rfl))
    refine (show Ev _ 6 ([some (.ref 69), some (.int x1), some (.int x2)], [.int z3], (0, 0), hp2) _ from ?_)
    refine bs_ifne rfl (fun c4 => ?_) (fun c4 => ?_)
    · skip
      refine Ev.step (j := 12) (s' := ([some (.ref 69), some (.int x1), some (.int x2)], [.ref 69], (0, 0), hp2)) rfl rfl ?_
      refine bs_callx (K := kq_X11_next_v) [.ref 69] [] rfl ce_X11_next_v Hhp2 rfl rfl rfl (bs_rcv (g := 11) Hhp2 (bs_R.uq Hhp2 (g := 11) rfl) (by decide) rfl) rfl ?_ (sf_S_nil) fun r5 hp6 thp6 Hhp6 fhp6 ahp6 php6 xhp6 => ?_
      · intro q k h
        match q, h with
        | 0, h => cases h; exact bs_jR (bs_R.uq Hhp2 (g := 11) rfl)
        | q + 1, h => cases h
      obtain rfl := ahp6.1 rfl
      have Fhp6 := sf_fr_tr Fhp2 (sf_fr_wider (W := [(11, 4, 4), (11, 11, 18)]) rfl fhp6)
      refine (show Ev _ 15 ([some (.ref 69), some (.int x1), some (.int x2)], [], (0, 0), hp6) _ from ?_)
      refine bs_lit (k := 1) rfl rfl fun z7 hz7 => ?_
      exact bs_zret rfl rfl (by omega) (by omega) (by rw [hQ]; exact ⟨thp6, Hhp6, Fhp6, bs_an0, sf_S_cons (sf_s1 (x := z7.toInt) rfl (by omega) (by omega)) (sf_S_nil), (fun x y nm q B n lim i ha hN hR hK => by
              cases ha
              obtain ⟨q1, rq1, X1⟩ := xhp2 _ _ nm q B n lim i rfl hN hR hK
              obtain rfl := Value.int.inj (Option.some.inj rq1)
              obtain ⟨Y0, Y1, Y2, Y3, Y4⟩ := X1.resolve_right (fun h => absurd h.1 (by omega))
              have K2 := (RK_next Hhp2 fhp6 rfl rfl rfl xhp6 Y4).1
              exact ⟨z7, rfl, Or.inl ⟨by omega, Y1, Y2, ((fhp6.2.2.1 _ (bs_R.uq Hhp2 (g := 11) (p := 69) rfl).1 _ (by rw [(bs_R.uq Hhp2 (g := 11) (p := 69) rfl).2]; rfl))).trans Y3, K2⟩⟩)⟩)
    · skip
      have c8 : z3.toInt = 0 := by omega
      refine bs_lit (k := 0) rfl rfl fun z9 hz9 => ?_
      exact bs_zret rfl rfl (by omega) (by omega) (by rw [hQ]; exact ⟨thp2, Hhp2, Fhp2, bs_an0, sf_S_cons (sf_s1 (x := z9.toInt) rfl (by omega) (by omega)) (sf_S_nil), (fun x y nm q B n lim i ha hN hR hK => by
              cases ha
              obtain ⟨q1, rq1, X1⟩ := xhp2 _ _ nm q B n lim i rfl hN hR hK
              obtain rfl := Value.int.inj (Option.some.inj rq1)
              obtain ⟨Y0, Y1, Y2⟩ := X1.resolve_left (fun h => absurd h.1 (by omega))
              exact ⟨z9, rfl, Or.inr ⟨by omega, Y1, Y2⟩⟩)⟩)
theorem ct_X11_takesName_v : sf_ct kq_X11_takesName_v Z_X11_takesName := ce_X11_takesName_v.ct
