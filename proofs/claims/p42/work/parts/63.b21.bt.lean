def bt (x : Int32) (j : Nat) : Int := (ab_nar 0 ((x >>> (Int32.ofInt (24 - 8 * (j : Int)) &&& 31)).toInt8.toInt32)).toInt
def kq_X8_put_b : sf_Q := ([(1, 8, 0), (0, 0, 0)], [(1, 27005, 0, 0, 936, 0)], none, [], [(8, 1, 1), (123, 0, 939)])
def ke_X8_put_b : List Value → ab_H → Option Value → ab_H → Prop := fun as hp _ hp' => ∀ (v : Int) (x : Int32), as[1]? = some (Value.int x) → sf_rd hp 1 1 = some v → sf_rd hp' 1 1 = some (v + 4) ∧ (∀ q : Nat, ((q : Int) < v ∨ v + 4 ≤ q) → sf_rd hp' 2 q = sf_rd hp 2 q) ∧ ∀ j : Nat, j < 4 → sf_rd hp' 2 (v.toNat + j) = some (bt x j)
set_option maxRecDepth 100000 in
set_option maxHeartbeats 4000000 in
theorem ce_X8_put_b : sf_cE kq_X8_put_b Z_X8_put ke_X8_put_b := by
  intro t hp as H hl hj hpre
  match as, hl with
  | [v0, v1], _ =>
    obtain ⟨a0, rfl, ra0⟩ := bs_aR (hj 0 _ rfl)
    obtain rfl := ra0.eq H (p := 1) rfl
    obtain ⟨x1, rfl⟩ := bs_aI (hj 1 _ rfl)
    have rg1 := n_range x1
    obtain ⟨pv0, pe0, pl0, ph0⟩ := (hpre _ (List.mem_of_getElem? (i := 0) rfl)).1 rfl
    replace pe0 : sf_rd hp 1 1 = some pv0 := pe0
    replace pl0 : (0 : Int) ≤ pv0 := pl0
    replace ph0 : pv0 ≤ (936 : Int) := ph0
    clear hpre hj
    have F0 : sf_fr [(8, 1, 1), (123, 0, 939)] t hp t hp := sf_fr_rf
    refine bs_finx (E := ke_X8_put_b) (K := kq_X8_put_b) (L := L_X8_put) (nL := 3) (Nat.le_of_ble_eq_true rfl) ?_
    obtain ⟨Q, hQ⟩ : ∃ Q : ab_O → Prop, Q = (fun o => ∃ t', sf_h t' o.2 ∧ sf_fr (kq_X8_put_b).2.2.2.2 t hp t' o.2 ∧ sf_an t' o.2.1 (kq_X8_put_b).2.2.1 o.1 ∧ sf_S (sf_v1 o.1 [.ref 1, .int x1] o.2) (kq_X8_put_b).2.2.2.1 ∧ ke_X8_put_b [.ref 1, .int x1] hp o.1 o.2) := ⟨_, rfl⟩
    rw [← hQ]
    refine (show Ev (ab_T L_X8_put) 0 ([some (.ref 1), some (.int x1), none], [], (0, 0), hp) Q from ?_)
    refine bs_lit (k := 24) rfl rfl fun z1 hz1 => ?_
    refine Ev.step (j := 3) (s' := ([some (.ref 1), some (.int x1), some (.int z1)], [], (0, 0), hp)) rfl rfl ?_
    have INV : ∃ v : Int, sf_rd hp 1 1 = some v ∧ 8 * v + z1.toInt = 8 * pv0 + 24 ∧ pv0 ≤ v ∧ -8 ≤ z1.toInt ∧ (∀ q : Nat, ((q : Int) < pv0 ∨ v ≤ q) → sf_rd hp 2 q = sf_rd hp 2 q) ∧ ∀ j : Nat, pv0 + j < v → sf_rd hp 2 (pv0.toNat + j) = some (bt x1 j) := ⟨_, pe0, by omega, by omega, by omega, fun q _ => rfl, fun j hj => absurd hj (by omega)⟩
    refine bs_loop (ι := Int32 × ab_H × (Nat → Nat)) (fun ⟨k2, hp3, t4⟩ => ([some (.ref 1), some (.int x1), some (.int k2)], [], (0, 0), hp3)) (fun ⟨k2, hp3, t4⟩ => (sf_h t4 hp3) ∧ (sf_fr [(8, 1, 1), (123, 0, 939)] t hp t4 hp3) ∧ (∃ v : Int, sf_rd hp3 1 1 = some v ∧ 8 * v + k2.toInt = 8 * pv0 + 24 ∧ pv0 ≤ v ∧ -8 ≤ k2.toInt ∧ (∀ q : Nat, ((q : Int) < pv0 ∨ v ≤ q) → sf_rd hp3 2 q = sf_rd hp 2 q) ∧ ∀ j : Nat, pv0 + j < v → sf_rd hp3 2 (pv0.toNat + j) = some (bt x1 j))) (fun ⟨k2, hp3, t4⟩ => (k2.toInt + 8).toNat) ?_ (z1, hp, t) ⟨H, F0, (by exact INV)⟩
    rintro ⟨k2, hp3, t4⟩ ⟨Hhp3, Fhp3, i6⟩ ih5
    refine (show Ev _ 3 ([some (.ref 1), some (.int x1), some (.int k2)], [], (0, 0), hp3) _ from ?_)
    obtain ⟨y7, hy7, ly7, gy7, dy7, fay7, fby7⟩ := i6
    refine Ev.step (j := 4) (s' := ([some (.ref 1), some (.int x1), some (.int k2)], [.int k2], (0, 0), hp3)) rfl rfl ?_
    refine bs_iflt rfl (fun c8 => ?_) (fun c8 => ?_)
    · skip
      exact Ev.ret rfl rfl (by rw [hQ]; exact ⟨t4, Hhp3, Fhp3, bs_anU, sf_S_nil, (fun v x hx hv => by have e : v = pv0 := Option.some.inj (hv.symm.trans pe0); subst e; have hx2 : some (Value.int x1) = some (Value.int x) := hx; obtain rfl := Value.int.inj (Option.some.inj hx2); exact ⟨hy7.trans (congrArg some (by omega)), fun q hq => fay7 q (by omega), fun j hj => fby7 j (by omega)⟩)⟩)
    · skip
      refine Ev.step (j := 8) (s' := ([some (.ref 1), some (.int x1), some (.int k2)], [.ref 1], (0, 0), hp3)) rfl rfl ?_
      refine bs_getI 8 rfl rfl rfl Hhp3 (bs_R.uq Hhp3 (g := 8) rfl) (by decide) rfl fun z9 hz9 lz9 gz9 => ?_
      have e10 : z9.toInt = y7 := Option.some.inj (hz9.symm.trans hy7)
      refine bs_lit (k := 940) rfl rfl fun z11 hz11 => ?_
      refine bs_ge rfl (fun c12 => ?_) (fun c12 => ?_)
      · skip
        exact Ev.ret rfl rfl (by rw [hQ]; exact ⟨t4, Hhp3, Fhp3, bs_anU, sf_S_nil, (fun v x hx hv => by have e : v = pv0 := Option.some.inj (hv.symm.trans pe0); subst e; have hx2 : some (Value.int x1) = some (Value.int x) := hx; obtain rfl := Value.int.inj (Option.some.inj hx2); exact ⟨hy7.trans (congrArg some (by omega)), fun q hq => fay7 q (by omega), fun j hj => fby7 j (by omega)⟩)⟩)
      · skip
        refine Ev.step (j := 18) (s' := ([some (.ref 1), some (.int x1), some (.int k2)], [.ref 1], (0, 0), hp3)) rfl rfl ?_
        refine bs_getU (g := 8) (g1 := 123) rfl rfl Hhp3 (bs_R.uq Hhp3 (g := 8) rfl) (by decide) rfl rfl ?_
        refine Ev.step (j := 22) (s' := ([some (.ref 1), some (.int x1), some (.int k2)], [.ref 1, .ref 2], (0, 0), hp3)) rfl rfl ?_
        refine bs_getI 8 rfl rfl rfl Hhp3 (bs_R.uq Hhp3 (g := 8) rfl) (by decide) rfl fun z13 hz13 lz13 gz13 => ?_
        have e14 : z13.toInt = y7 := Option.some.inj (hz13.symm.trans hy7)
        refine Ev.step (j := 26) (s' := ([some (.ref 1), some (.int x1), some (.int k2)], [.int x1, .int z13, .ref 2], (0, 0), hp3)) rfl rfl ?_
        refine Ev.step (j := 27) (s' := ([some (.ref 1), some (.int x1), some (.int k2)], [.int k2, .int x1, .int z13, .ref 2], (0, 0), hp3)) rfl rfl ?_
        refine Ev.step (j := 28) (s' := ([some (.ref 1), some (.int x1), some (.int k2)], [.int (x1 >>> (k2 &&& 31)), .int z13, .ref 2], (0, 0), hp3)) rfl rfl ?_
        refine Ev.step (j := 29) (s' := ([some (.ref 1), some (.int x1), some (.int k2)], [.int ((x1 >>> (k2 &&& 31)).toInt8.toInt32), .int z13, .ref 2], (0, 0), hp3)) rfl rfl ?_
        refine bs_stT (W := [(123, 0, 939)]) (g := 123) 0 939 rfl Hhp3 (bs_R.uq Hhp3 (g := 123) rfl) (by decide) rfl (by decide) (by decide) rfl (by decide) rfl rfl (by omega) (by omega) fun hp16 Hhp16 fhp16 rhp16 ehp16 qhp16 nhp16 => ?_
        have Fhp16 := sf_fr_tr Fhp3 (sf_fr_wider (W := [(8, 1, 1), (123, 0, 939)]) rfl fhp16)
        have h17 : sf_rd hp16 1 1 = some y7 := (ehp16 _ _ (Or.inl (by decide))).trans hy7
        refine Ev.step (j := 31) (s' := ([some (.ref 1), some (.int x1), some (.int k2)], [.ref 1], (0, 0), hp16)) rfl rfl ?_
        refine Ev.step (j := 32) (s' := ([some (.ref 1), some (.int x1), some (.int k2)], [.ref 1, .ref 1], (0, 0), hp16)) rfl rfl ?_
        refine bs_getI 8 rfl rfl rfl Hhp16 (bs_R.uq Hhp16 (g := 8) rfl) (by decide) rfl fun z18 hz18 lz18 gz18 => ?_
        have e19 : z18.toInt = y7 := Option.some.inj (hz18.symm.trans h17)
        refine bs_lit (k := 1) rfl rfl fun z20 hz20 => ?_
        first | (refine bs_add rfl (by omega) (by omega) fun z21 hz21 => ?_) | (refine bs_any rfl fun z21 => ?_)
        have rz21 := n_range z21
        refine bs_putI (W := [(8, 1, 1)]) (g := 8) rfl rfl Hhp16 (bs_R.uq Hhp16 (g := 8) rfl) (by decide) rfl rfl rfl rfl (Or.inl rfl) (by omega) (by omega) fun hp22 Hhp22 fhp22 rhp22 ehp22 qhp22 nhp22 => ?_
        have Fhp22 := sf_fr_tr Fhp16 (sf_fr_wider (W := [(8, 1, 1), (123, 0, 939)]) rfl fhp22)
        refine bs_iinc (-8) rfl rfl rfl rfl (by omega) (by omega) fun z23 hz23 => ?_
        refine (show Ev _ 43 ([some (.ref 1), some (.int x1), some (.int z23)], [], (0, 0), hp22) _ from ?_)
        refine Ev.step (j := 3) (s' := ([some (.ref 1), some (.int x1), some (.int z23)], [], (0, 0), hp22)) rfl rfl ?_
        have FA : ∀ q : Nat, ((q : Int) < pv0 ∨ z21.toInt ≤ q) → sf_rd hp22 2 q = sf_rd hp 2 q := fun q hq => (((ehp22 _ _ (Or.inl (by decide))).trans (ehp16 _ _ (Or.inr (by omega))))).trans (fay7 q (by omega))
        have FB : ∀ j : Nat, pv0 + j < z21.toInt → sf_rd hp22 2 (pv0.toNat + j) = some (bt x1 j) := by
          intro j hj
          by_cases e : pv0 + j < y7
          · exact (((ehp22 _ _ (Or.inl (by decide))).trans (ehp16 _ _ (Or.inr (by omega))))).trans (fby7 j e)
          · refine ((ehp22 _ _ (Or.inl (by decide)))).trans ((bs_at rhp16 (by omega)).trans ?_)
            unfold bt
            rw [show Int32.ofInt (24 - 8 * (j : Int)) = k2 from Int32.toInt_inj.mp (by rw [Int32.toInt_ofInt_of_le (by omega) (by omega)]; omega)]
        have INV : ∃ v : Int, sf_rd hp22 1 1 = some v ∧ 8 * v + z23.toInt = 8 * pv0 + 24 ∧ pv0 ≤ v ∧ -8 ≤ z23.toInt ∧ (∀ q : Nat, ((q : Int) < pv0 ∨ v ≤ q) → sf_rd hp22 2 q = sf_rd hp 2 q) ∧ ∀ j : Nat, pv0 + j < v → sf_rd hp22 2 (pv0.toNat + j) = some (bt x1 j) := ⟨_, rhp22, by omega, by omega, by omega, FA, FB⟩
        refine ih5 (z23, hp22, t4) ⟨Hhp22, Fhp22, (by exact INV)⟩ ?_
        show (z23.toInt + 8).toNat < (k2.toInt + 8).toNat
        omega
theorem ct_X8_put_b : sf_ct kq_X8_put_b Z_X8_put := ce_X8_put_b.ct
def kq_X11_four_b : sf_Q := ([(1, 11, 0), (0, 0, 0)], [(1, 36008, 0, 0, 936, 0)], none, [], [(11, 2, 2), (131, 0, 939)])
def ke_X11_four_b : List Value → ab_H → Option Value → ab_H → Prop := fun as hp _ hp' => ∀ (v : Int) (x : Int32), as[1]? = some (Value.int x) → sf_rd hp 69 2 = some v → sf_rd hp' 69 2 = some (v + 4) ∧ (∀ q : Nat, ((q : Int) < v ∨ v + 4 ≤ q) → sf_rd hp' 70 q = sf_rd hp 70 q) ∧ ∀ j : Nat, j < 4 → sf_rd hp' 70 (v.toNat + j) = some (bt x j)
set_option maxRecDepth 100000 in
set_option maxHeartbeats 4000000 in
theorem ce_X11_four_b : sf_cE kq_X11_four_b Z_X11_four ke_X11_four_b := by
  intro t hp as H hl hj hpre
  match as, hl with
  | [v0, v1], _ =>
    obtain ⟨a0, rfl, ra0⟩ := bs_aR (hj 0 _ rfl)
    obtain rfl := ra0.eq H (p := 69) rfl
    obtain ⟨x1, rfl⟩ := bs_aI (hj 1 _ rfl)
    have rg1 := n_range x1
    obtain ⟨pv0, pe0, pl0, ph0⟩ := (hpre _ (List.mem_of_getElem? (i := 0) rfl)).1 rfl
    replace pe0 : sf_rd hp 69 2 = some pv0 := pe0
    replace pl0 : (0 : Int) ≤ pv0 := pl0
    replace ph0 : pv0 ≤ (936 : Int) := ph0
    clear hpre hj
    have F0 : sf_fr [(11, 2, 2), (131, 0, 939)] t hp t hp := sf_fr_rf
    refine bs_finx (E := ke_X11_four_b) (K := kq_X11_four_b) (L := L_X11_four) (nL := 3) (Nat.le_of_ble_eq_true rfl) ?_
    obtain ⟨Q, hQ⟩ : ∃ Q : ab_O → Prop, Q = (fun o => ∃ t', sf_h t' o.2 ∧ sf_fr (kq_X11_four_b).2.2.2.2 t hp t' o.2 ∧ sf_an t' o.2.1 (kq_X11_four_b).2.2.1 o.1 ∧ sf_S (sf_v1 o.1 [.ref 69, .int x1] o.2) (kq_X11_four_b).2.2.2.1 ∧ ke_X11_four_b [.ref 69, .int x1] hp o.1 o.2) := ⟨_, rfl⟩
    rw [← hQ]
    refine (show Ev (ab_T L_X11_four) 0 ([some (.ref 69), some (.int x1), none], [], (0, 0), hp) Q from ?_)
    refine bs_lit (k := 24) rfl rfl fun z1 hz1 => ?_
    refine Ev.step (j := 3) (s' := ([some (.ref 69), some (.int x1), some (.int z1)], [], (0, 0), hp)) rfl rfl ?_
    have INV : ∃ v : Int, sf_rd hp 69 2 = some v ∧ 8 * v + z1.toInt = 8 * pv0 + 24 ∧ pv0 ≤ v ∧ -8 ≤ z1.toInt ∧ (∀ q : Nat, ((q : Int) < pv0 ∨ v ≤ q) → sf_rd hp 70 q = sf_rd hp 70 q) ∧ ∀ j : Nat, pv0 + j < v → sf_rd hp 70 (pv0.toNat + j) = some (bt x1 j) := ⟨_, pe0, by omega, by omega, by omega, fun q _ => rfl, fun j hj => absurd hj (by omega)⟩
    refine bs_loop (ι := Int32 × ab_H × (Nat → Nat)) (fun ⟨k2, hp3, t4⟩ => ([some (.ref 69), some (.int x1), some (.int k2)], [], (0, 0), hp3)) (fun ⟨k2, hp3, t4⟩ => (sf_h t4 hp3) ∧ (sf_fr [(11, 2, 2), (131, 0, 939)] t hp t4 hp3) ∧ (∃ v : Int, sf_rd hp3 69 2 = some v ∧ 8 * v + k2.toInt = 8 * pv0 + 24 ∧ pv0 ≤ v ∧ -8 ≤ k2.toInt ∧ (∀ q : Nat, ((q : Int) < pv0 ∨ v ≤ q) → sf_rd hp3 70 q = sf_rd hp 70 q) ∧ ∀ j : Nat, pv0 + j < v → sf_rd hp3 70 (pv0.toNat + j) = some (bt x1 j))) (fun ⟨k2, hp3, t4⟩ => (k2.toInt + 8).toNat) ?_ (z1, hp, t) ⟨H, F0, (by exact INV)⟩
    rintro ⟨k2, hp3, t4⟩ ⟨Hhp3, Fhp3, i6⟩ ih5
    refine (show Ev _ 3 ([some (.ref 69), some (.int x1), some (.int k2)], [], (0, 0), hp3) _ from ?_)
    obtain ⟨y7, hy7, ly7, gy7, dy7, fay7, fby7⟩ := i6
    refine Ev.step (j := 4) (s' := ([some (.ref 69), some (.int x1), some (.int k2)], [.int k2], (0, 0), hp3)) rfl rfl ?_
    refine bs_iflt rfl (fun c8 => ?_) (fun c8 => ?_)
    · skip
      exact Ev.ret rfl rfl (by rw [hQ]; exact ⟨t4, Hhp3, Fhp3, bs_anU, sf_S_nil, (fun v x hx hv => by have e : v = pv0 := Option.some.inj (hv.symm.trans pe0); subst e; have hx2 : some (Value.int x1) = some (Value.int x) := hx; obtain rfl := Value.int.inj (Option.some.inj hx2); exact ⟨hy7.trans (congrArg some (by omega)), fun q hq => fay7 q (by omega), fun j hj => fby7 j (by omega)⟩)⟩)
    · skip
      refine Ev.step (j := 8) (s' := ([some (.ref 69), some (.int x1), some (.int k2)], [.ref 69], (0, 0), hp3)) rfl rfl ?_
      refine bs_getU (g := 11) (g1 := 131) rfl rfl Hhp3 (bs_R.uq Hhp3 (g := 11) rfl) (by decide) rfl rfl ?_
      refine Ev.step (j := 12) (s' := ([some (.ref 69), some (.int x1), some (.int k2)], [.ref 69, .ref 70], (0, 0), hp3)) rfl rfl ?_
      refine bs_getI 11 rfl rfl rfl Hhp3 (bs_R.uq Hhp3 (g := 11) rfl) (by decide) rfl fun z9 hz9 lz9 gz9 => ?_
      have e10 : z9.toInt = y7 := Option.some.inj (hz9.symm.trans hy7)
      refine Ev.step (j := 16) (s' := ([some (.ref 69), some (.int x1), some (.int k2)], [.int x1, .int z9, .ref 70], (0, 0), hp3)) rfl rfl ?_
      refine Ev.step (j := 17) (s' := ([some (.ref 69), some (.int x1), some (.int k2)], [.int k2, .int x1, .int z9, .ref 70], (0, 0), hp3)) rfl rfl ?_
      refine Ev.step (j := 18) (s' := ([some (.ref 69), some (.int x1), some (.int k2)], [.int (x1 >>> (k2 &&& 31)), .int z9, .ref 70], (0, 0), hp3)) rfl rfl ?_
      refine Ev.step (j := 19) (s' := ([some (.ref 69), some (.int x1), some (.int k2)], [.int ((x1 >>> (k2 &&& 31)).toInt8.toInt32), .int z9, .ref 70], (0, 0), hp3)) rfl rfl ?_
      refine bs_stT (W := [(131, 0, 939)]) (g := 131) 0 939 rfl Hhp3 (bs_R.uq Hhp3 (g := 131) rfl) (by decide) rfl (by decide) (by decide) rfl (by decide) rfl rfl (by omega) (by omega) fun hp12 Hhp12 fhp12 rhp12 ehp12 qhp12 nhp12 => ?_
      have Fhp12 := sf_fr_tr Fhp3 (sf_fr_wider (W := [(11, 2, 2), (131, 0, 939)]) rfl fhp12)
      have h13 : sf_rd hp12 69 2 = some y7 := (ehp12 _ _ (Or.inl (by decide))).trans hy7
      refine Ev.step (j := 21) (s' := ([some (.ref 69), some (.int x1), some (.int k2)], [.ref 69], (0, 0), hp12)) rfl rfl ?_
      refine Ev.step (j := 22) (s' := ([some (.ref 69), some (.int x1), some (.int k2)], [.ref 69, .ref 69], (0, 0), hp12)) rfl rfl ?_
      refine bs_getI 11 rfl rfl rfl Hhp12 (bs_R.uq Hhp12 (g := 11) rfl) (by decide) rfl fun z14 hz14 lz14 gz14 => ?_
      have e15 : z14.toInt = y7 := Option.some.inj (hz14.symm.trans h13)
      refine bs_lit (k := 1) rfl rfl fun z16 hz16 => ?_
      first | (refine bs_add rfl (by omega) (by omega) fun z17 hz17 => ?_) | (refine bs_any rfl fun z17 => ?_)
      have rz17 := n_range z17
      refine bs_putI (W := [(11, 2, 2)]) (g := 11) rfl rfl Hhp12 (bs_R.uq Hhp12 (g := 11) rfl) (by decide) rfl rfl rfl rfl (Or.inl rfl) (by omega) (by omega) fun hp18 Hhp18 fhp18 rhp18 ehp18 qhp18 nhp18 => ?_
      have Fhp18 := sf_fr_tr Fhp12 (sf_fr_wider (W := [(11, 2, 2), (131, 0, 939)]) rfl fhp18)
      refine bs_iinc (-8) rfl rfl rfl rfl (by omega) (by omega) fun z19 hz19 => ?_
      refine (show Ev _ 33 ([some (.ref 69), some (.int x1), some (.int z19)], [], (0, 0), hp18) _ from ?_)
      refine Ev.step (j := 3) (s' := ([some (.ref 69), some (.int x1), some (.int z19)], [], (0, 0), hp18)) rfl rfl ?_
      have FA : ∀ q : Nat, ((q : Int) < pv0 ∨ z17.toInt ≤ q) → sf_rd hp18 70 q = sf_rd hp 70 q := fun q hq => (((ehp18 _ _ (Or.inl (by decide))).trans (ehp12 _ _ (Or.inr (by omega))))).trans (fay7 q (by omega))
      have FB : ∀ j : Nat, pv0 + j < z17.toInt → sf_rd hp18 70 (pv0.toNat + j) = some (bt x1 j) := by
        intro j hj
        by_cases e : pv0 + j < y7
        · exact (((ehp18 _ _ (Or.inl (by decide))).trans (ehp12 _ _ (Or.inr (by omega))))).trans (fby7 j e)
        · refine ((ehp18 _ _ (Or.inl (by decide)))).trans ((bs_at rhp12 (by omega)).trans ?_)
          unfold bt
          rw [show Int32.ofInt (24 - 8 * (j : Int)) = k2 from Int32.toInt_inj.mp (by rw [Int32.toInt_ofInt_of_le (by omega) (by omega)]; omega)]
      have INV : ∃ v : Int, sf_rd hp18 69 2 = some v ∧ 8 * v + z19.toInt = 8 * pv0 + 24 ∧ pv0 ≤ v ∧ -8 ≤ z19.toInt ∧ (∀ q : Nat, ((q : Int) < pv0 ∨ v ≤ q) → sf_rd hp18 70 q = sf_rd hp 70 q) ∧ ∀ j : Nat, pv0 + j < v → sf_rd hp18 70 (pv0.toNat + j) = some (bt x1 j) := ⟨_, rhp18, by omega, by omega, by omega, FA, FB⟩
      refine ih5 (z19, hp18, t4) ⟨Hhp18, Fhp18, (by exact INV)⟩ ?_
      show (z19.toInt + 8).toNat < (k2.toInt + 8).toNat
      omega
theorem ct_X11_four_b : sf_ct kq_X11_four_b Z_X11_four := ce_X11_four_b.ct
def kq_X10_feed_b : sf_Q := ([(1, 10, 0), (0, 0, 0), (0, 0, 0), (0, 0, 0), (0, 0, 0), (0, 0, 0)], [], some (0, 0, 0), [], [(8, 1, 1), (123, 0, 939)])
def ke_X10_feed_b : List Value → ab_H → Option Value → ab_H → Prop := fun as hp r hp' => ∀ v : Int, sf_rd hp 1 1 = some v → ∃ z : Int32, r = some (.int z) ∧ z.toInt = fd_z v ∧ sf_rd hp' 1 1 = some (fd_n v) ∧ (∀ q : Nat, (q : Int) < v → sf_rd hp' 2 q = sf_rd hp 2 q) ∧ (v + 20 ≤ 940 → ∀ (i : Nat) (x : Int32), i < 5 → as[i + 1]? = some (Value.int x) → ∀ j : Nat, j < 4 → sf_rd hp' 2 (v.toNat + 4 * i + j) = some (bt x j))
set_option maxRecDepth 100000 in
set_option maxHeartbeats 4000000 in
theorem ce_X10_feed_b : sf_cE kq_X10_feed_b Z_X10_feed ke_X10_feed_b := by
  intro t hp as H hl hj hpre
  match as, hl with
  | [v0, v1, v2, v3, v4, v5], _ =>
    obtain ⟨a0, rfl, ra0⟩ := bs_aR (hj 0 _ rfl)
    obtain rfl := ra0.eq H (p := 0) rfl
    obtain ⟨x1, rfl⟩ := bs_aI (hj 1 _ rfl)
    have rg1 := n_range x1
    obtain ⟨x2, rfl⟩ := bs_aI (hj 2 _ rfl)
    have rg2 := n_range x2
    obtain ⟨x3, rfl⟩ := bs_aI (hj 3 _ rfl)
    have rg3 := n_range x3
    obtain ⟨x4, rfl⟩ := bs_aI (hj 4 _ rfl)
    have rg4 := n_range x4
    obtain ⟨x5, rfl⟩ := bs_aI (hj 5 _ rfl)
    have rg5 := n_range x5
    clear hpre hj
    have F0 : sf_fr [(8, 1, 1), (123, 0, 939)] t hp t hp := sf_fr_rf
    refine bs_finx (E := ke_X10_feed_b) (K := kq_X10_feed_b) (L := (L_X10_feed Z_X8_put)) (nL := 6) (Nat.le_of_ble_eq_true rfl) ?_
    obtain ⟨Q, hQ⟩ : ∃ Q : ab_O → Prop, Q = (fun o => ∃ t', sf_h t' o.2 ∧ sf_fr (kq_X10_feed_b).2.2.2.2 t hp t' o.2 ∧ sf_an t' o.2.1 (kq_X10_feed_b).2.2.1 o.1 ∧ sf_S (sf_v1 o.1 [.ref 0, .int x1, .int x2, .int x3, .int x4, .int x5] o.2) (kq_X10_feed_b).2.2.2.1 ∧ ke_X10_feed_b [.ref 0, .int x1, .int x2, .int x3, .int x4, .int x5] hp o.1 o.2) := ⟨_, rfl⟩
    rw [← hQ]
    refine (show Ev (ab_T (L_X10_feed Z_X8_put)) 0 ([some (.ref 0), some (.int x1), some (.int x2), some (.int x3), some (.int x4), some (.int x5)], [], (0, 0), hp) Q from ?_)
    obtain ⟨L0, hL0, lL0, uL0⟩ := bs_fld (k := 1) H (bs_R.uq H (g := 8) rfl) (by decide) rfl
    refine Ev.step (j := 1) (s' := ([some (.ref 0), some (.int x1), some (.int x2), some (.int x3), some (.int x4), some (.int x5)], [.ref 0], (0, 0), hp)) rfl rfl ?_
    refine bs_getU (g := 10) (g1 := 8) rfl rfl H (bs_R.uq H (g := 10) rfl) (by decide) rfl rfl ?_
    refine bs_getI 8 rfl rfl rfl H (bs_R.uq H (g := 8) rfl) (by decide) rfl fun z1 hz1 lz1 gz1 => ?_
    have e2 : z1.toInt = L0 := Option.some.inj (hz1.symm.trans hL0)
    refine bs_lit (k := 20) rfl rfl fun z3 hz3 => ?_
    first | (refine bs_add rfl (by omega) (by omega) fun z4 hz4 => ?_) | (refine bs_any rfl fun z4 => ?_)
    have rz4 := n_range z4
    refine bs_lit (k := 940) rfl rfl fun z5 hz5 => ?_
    refine bs_le rfl (fun c6 => ?_) (fun c6 => ?_)
    · skip
      refine Ev.step (j := 19) (s' := ([some (.ref 0), some (.int x1), some (.int x2), some (.int x3), some (.int x4), some (.int x5)], [.ref 0], (0, 0), hp)) rfl rfl ?_
      refine bs_getU (g := 10) (g1 := 8) rfl rfl H (bs_R.uq H (g := 10) rfl) (by decide) rfl rfl ?_
      refine Ev.step (j := 23) (s' := ([some (.ref 0), some (.int x1), some (.int x2), some (.int x3), some (.int x4), some (.int x5)], [.int x1, .ref 1], (0, 0), hp)) rfl rfl ?_
      refine bs_callx (K := kq_X8_put_b) [.ref 1, .int x1] [] rfl ce_X8_put_b H rfl rfl rfl (bs_rcv (g := 8) H (bs_R.uq H (g := 8) rfl) (by decide) rfl) rfl ?_ (sf_S_cons (sf_s1 (x := L0) (show sf_v0 _ _ 27005 = _ from hL0) (by omega) (by omega)) (sf_S_nil)) fun r7 hp8 thp8 Hhp8 fhp8 ahp8 php8 xhp8 => ?_
      · intro q k h
        match q, h with
        | 0, h => cases h; exact bs_jR (bs_R.uq H (g := 8) rfl)
        | 1, h => cases h; exact sf_j0
        | q + 2, h => cases h
      obtain rfl := ahp8.1 rfl
      have Fhp8 := sf_fr_tr F0 (sf_fr_wider (W := [(8, 1, 1), (123, 0, 939)]) rfl fhp8)
      refine (show Ev _ 26 ([some (.ref 0), some (.int x1), some (.int x2), some (.int x3), some (.int x4), some (.int x5)], [], (0, 0), hp8) _ from ?_)
      obtain ⟨h9, ah9, bh9⟩ := xhp8 _ _ rfl hL0
      refine Ev.step (j := 27) (s' := ([some (.ref 0), some (.int x1), some (.int x2), some (.int x3), some (.int x4), some (.int x5)], [.ref 0], (0, 0), hp8)) rfl rfl ?_
      refine bs_getU (g := 10) (g1 := 8) rfl rfl Hhp8 (bs_R.uq Hhp8 (g := 10) rfl) (by decide) rfl rfl ?_
      refine Ev.step (j := 31) (s' := ([some (.ref 0), some (.int x1), some (.int x2), some (.int x3), some (.int x4), some (.int x5)], [.int x2, .ref 1], (0, 0), hp8)) rfl rfl ?_
      refine bs_callx (K := kq_X8_put_b) [.ref 1, .int x2] [] rfl ce_X8_put_b Hhp8 rfl rfl rfl (bs_rcv (g := 8) Hhp8 (bs_R.uq Hhp8 (g := 8) rfl) (by decide) rfl) rfl ?_ (sf_S_cons (sf_s1 (x := (L0 + 4)) (show sf_v0 _ _ 27005 = _ from h9) (by omega) (by omega)) (sf_S_nil)) fun r10 hp11 thp11 Hhp11 fhp11 ahp11 php11 xhp11 => ?_
      · intro q k h
        match q, h with
        | 0, h => cases h; exact bs_jR (bs_R.uq Hhp8 (g := 8) rfl)
        | 1, h => cases h; exact sf_j0
        | q + 2, h => cases h
      obtain rfl := ahp11.1 rfl
      have Fhp11 := sf_fr_tr Fhp8 (sf_fr_wider (W := [(8, 1, 1), (123, 0, 939)]) rfl fhp11)
      refine (show Ev _ 34 ([some (.ref 0), some (.int x1), some (.int x2), some (.int x3), some (.int x4), some (.int x5)], [], (0, 0), hp11) _ from ?_)
      obtain ⟨h12, ah12, bh12⟩ := xhp11 _ _ rfl h9
      refine Ev.step (j := 35) (s' := ([some (.ref 0), some (.int x1), some (.int x2), some (.int x3), some (.int x4), some (.int x5)], [.ref 0], (0, 0), hp11)) rfl rfl ?_
      refine bs_getU (g := 10) (g1 := 8) rfl rfl Hhp11 (bs_R.uq Hhp11 (g := 10) rfl) (by decide) rfl rfl ?_
      refine Ev.step (j := 39) (s' := ([some (.ref 0), some (.int x1), some (.int x2), some (.int x3), some (.int x4), some (.int x5)], [.int x3, .ref 1], (0, 0), hp11)) rfl rfl ?_
      refine bs_callx (K := kq_X8_put_b) [.ref 1, .int x3] [] rfl ce_X8_put_b Hhp11 rfl rfl rfl (bs_rcv (g := 8) Hhp11 (bs_R.uq Hhp11 (g := 8) rfl) (by decide) rfl) rfl ?_ (sf_S_cons (sf_s1 (x := ((L0 + 4) + 4)) (show sf_v0 _ _ 27005 = _ from h12) (by omega) (by omega)) (sf_S_nil)) fun r13 hp14 thp14 Hhp14 fhp14 ahp14 php14 xhp14 => ?_
      · intro q k h
        match q, h with
        | 0, h => cases h; exact bs_jR (bs_R.uq Hhp11 (g := 8) rfl)
        | 1, h => cases h; exact sf_j0
        | q + 2, h => cases h
      obtain rfl := ahp14.1 rfl
      have Fhp14 := sf_fr_tr Fhp11 (sf_fr_wider (W := [(8, 1, 1), (123, 0, 939)]) rfl fhp14)
      refine (show Ev _ 42 ([some (.ref 0), some (.int x1), some (.int x2), some (.int x3), some (.int x4), some (.int x5)], [], (0, 0), hp14) _ from ?_)
      obtain ⟨h15, ah15, bh15⟩ := xhp14 _ _ rfl h12
      refine Ev.step (j := 43) (s' := ([some (.ref 0), some (.int x1), some (.int x2), some (.int x3), some (.int x4), some (.int x5)], [.ref 0], (0, 0), hp14)) rfl rfl ?_
      refine bs_getU (g := 10) (g1 := 8) rfl rfl Hhp14 (bs_R.uq Hhp14 (g := 10) rfl) (by decide) rfl rfl ?_
      refine Ev.step (j := 48) (s' := ([some (.ref 0), some (.int x1), some (.int x2), some (.int x3), some (.int x4), some (.int x5)], [.int x4, .ref 1], (0, 0), hp14)) rfl rfl ?_
      refine bs_callx (K := kq_X8_put_b) [.ref 1, .int x4] [] rfl ce_X8_put_b Hhp14 rfl rfl rfl (bs_rcv (g := 8) Hhp14 (bs_R.uq Hhp14 (g := 8) rfl) (by decide) rfl) rfl ?_ (sf_S_cons (sf_s1 (x := (((L0 + 4) + 4) + 4)) (show sf_v0 _ _ 27005 = _ from h15) (by omega) (by omega)) (sf_S_nil)) fun r16 hp17 thp17 Hhp17 fhp17 ahp17 php17 xhp17 => ?_
      · intro q k h
        match q, h with
        | 0, h => cases h; exact bs_jR (bs_R.uq Hhp14 (g := 8) rfl)
        | 1, h => cases h; exact sf_j0
        | q + 2, h => cases h
      obtain rfl := ahp17.1 rfl
      have Fhp17 := sf_fr_tr Fhp14 (sf_fr_wider (W := [(8, 1, 1), (123, 0, 939)]) rfl fhp17)
      refine (show Ev _ 51 ([some (.ref 0), some (.int x1), some (.int x2), some (.int x3), some (.int x4), some (.int x5)], [], (0, 0), hp17) _ from ?_)
      obtain ⟨h18, ah18, bh18⟩ := xhp17 _ _ rfl h15
      refine Ev.step (j := 52) (s' := ([some (.ref 0), some (.int x1), some (.int x2), some (.int x3), some (.int x4), some (.int x5)], [.ref 0], (0, 0), hp17)) rfl rfl ?_
      refine bs_getU (g := 10) (g1 := 8) rfl rfl Hhp17 (bs_R.uq Hhp17 (g := 10) rfl) (by decide) rfl rfl ?_
      refine Ev.step (j := 57) (s' := ([some (.ref 0), some (.int x1), some (.int x2), some (.int x3), some (.int x4), some (.int x5)], [.int x5, .ref 1], (0, 0), hp17)) rfl rfl ?_
      refine bs_callx (K := kq_X8_put_b) [.ref 1, .int x5] [] rfl ce_X8_put_b Hhp17 rfl rfl rfl (bs_rcv (g := 8) Hhp17 (bs_R.uq Hhp17 (g := 8) rfl) (by decide) rfl) rfl ?_ (sf_S_cons (sf_s1 (x := ((((L0 + 4) + 4) + 4) + 4)) (show sf_v0 _ _ 27005 = _ from h18) (by omega) (by omega)) (sf_S_nil)) fun r19 hp20 thp20 Hhp20 fhp20 ahp20 php20 xhp20 => ?_
      · intro q k h
        match q, h with
        | 0, h => cases h; exact bs_jR (bs_R.uq Hhp17 (g := 8) rfl)
        | 1, h => cases h; exact sf_j0
        | q + 2, h => cases h
      obtain rfl := ahp20.1 rfl
      have Fhp20 := sf_fr_tr Fhp17 (sf_fr_wider (W := [(8, 1, 1), (123, 0, 939)]) rfl fhp20)
      refine (show Ev _ 60 ([some (.ref 0), some (.int x1), some (.int x2), some (.int x3), some (.int x4), some (.int x5)], [], (0, 0), hp20) _ from ?_)
      obtain ⟨h21, ah21, bh21⟩ := xhp20 _ _ rfl h18
      refine Ev.step (j := 61) (s' := ([some (.ref 0), some (.int x1), some (.int x2), some (.int x3), some (.int x4), some (.int x5)], [.ref 0], (0, 0), hp20)) rfl rfl ?_
      refine bs_getU (g := 10) (g1 := 8) rfl rfl Hhp20 (bs_R.uq Hhp20 (g := 10) rfl) (by decide) rfl rfl ?_
      refine bs_getI 8 rfl rfl rfl Hhp20 (bs_R.uq Hhp20 (g := 8) rfl) (by decide) rfl fun z22 hz22 lz22 gz22 => ?_
      have e23 : z22.toInt = (((((L0 + 4) + 4) + 4) + 4) + 4) := Option.some.inj (hz22.symm.trans h21)
      exact Ev.ret rfl rfl (by rw [hQ]; exact ⟨thp20, Hhp20, Fhp20, bs_an0, sf_S_nil, (fun v hv => by have e : v = L0 := Option.some.inj (hv.symm.trans hL0); subst e; exact ⟨z22, rfl, by unfold fd_z; split <;> omega, by unfold fd_n; split <;> exact h21.trans (congrArg some (by omega)), fun q hq => ((ah21 _ (by omega)).trans ((ah18 _ (by omega)).trans ((ah15 _ (by omega)).trans ((ah12 _ (by omega)).trans (ah9 _ (by omega)))))), fun _ i x hi hx j hj => match i, hi, hx with | 0, _, hx => (by have hx2 : some (Value.int x1) = some (Value.int x) := hx; obtain rfl := Value.int.inj (Option.some.inj hx2); exact (bs_at (((ah21 _ (by omega)).trans ((ah18 _ (by omega)).trans ((ah15 _ (by omega)).trans (ah12 _ (by omega))))).trans (bh9 j hj)) (show _ = v.toNat + 4 * 0 + j by omega))) | 1, _, hx => (by have hx2 : some (Value.int x2) = some (Value.int x) := hx; obtain rfl := Value.int.inj (Option.some.inj hx2); exact (bs_at (((ah21 _ (by omega)).trans ((ah18 _ (by omega)).trans (ah15 _ (by omega)))).trans (bh12 j hj)) (show _ = v.toNat + 4 * 1 + j by omega))) | 2, _, hx => (by have hx2 : some (Value.int x3) = some (Value.int x) := hx; obtain rfl := Value.int.inj (Option.some.inj hx2); exact (bs_at (((ah21 _ (by omega)).trans (ah18 _ (by omega))).trans (bh15 j hj)) (show _ = v.toNat + 4 * 2 + j by omega))) | 3, _, hx => (by have hx2 : some (Value.int x4) = some (Value.int x) := hx; obtain rfl := Value.int.inj (Option.some.inj hx2); exact (bs_at ((ah21 _ (by omega)).trans (bh18 j hj)) (show _ = v.toNat + 4 * 3 + j by omega))) | 4, _, hx => (by have hx2 : some (Value.int x5) = some (Value.int x) := hx; obtain rfl := Value.int.inj (Option.some.inj hx2); exact (bs_at ((bh21 j hj)) (show _ = v.toNat + 4 * 4 + j by omega))) | i + 5, h, _ => absurd h (by omega)⟩)⟩)
    · skip
      refine bs_lit (k := -1) rfl rfl fun z24 hz24 => ?_
      exact Ev.ret rfl rfl (by rw [hQ]; exact ⟨t, H, F0, bs_an0, sf_S_nil, (fun v hv => by have e : v = L0 := Option.some.inj (hv.symm.trans hL0); subst e; exact ⟨z24, rfl, by unfold fd_z; split <;> omega, by unfold fd_n; split <;> exact hL0.trans (congrArg some (by omega)), fun q hq => rfl, fun h => absurd h (by omega)⟩)⟩)
theorem ct_X10_feed_b : sf_ct kq_X10_feed_b Z_X10_feed := ce_X10_feed_b.ct
def kq_X11_feed_b : sf_Q := ([(1, 11, 0), (0, 0, 0), (0, 0, 0), (0, 0, 0), (0, 0, 0), (0, 0, 0)], [], some (0, 0, 0), [], [(11, 0, 0), (11, 2, 2), (131, 0, 939)])
def ke_X11_feed_b : List Value → ab_H → Option Value → ab_H → Prop := fun as hp r hp' => ∀ v : Int, sf_rd hp 69 2 = some v → ∃ z : Int32, r = some (.int z) ∧ z.toInt = fd_z v ∧ sf_rd hp' 69 2 = some (fd_n v) ∧ (∀ q : Nat, (q : Int) < v → sf_rd hp' 70 q = sf_rd hp 70 q) ∧ (v + 20 ≤ 940 → ∀ (i : Nat) (x : Int32), i < 5 → as[i + 1]? = some (Value.int x) → ∀ j : Nat, j < 4 → sf_rd hp' 70 (v.toNat + 4 * i + j) = some (bt x j))
set_option maxRecDepth 100000 in
set_option maxHeartbeats 4000000 in
theorem ce_X11_feed_b : sf_cE kq_X11_feed_b Z_X11_feed ke_X11_feed_b := by
  intro t hp as H hl hj hpre
  match as, hl with
  | [v0, v1, v2, v3, v4, v5], _ =>
    obtain ⟨a0, rfl, ra0⟩ := bs_aR (hj 0 _ rfl)
    obtain rfl := ra0.eq H (p := 69) rfl
    obtain ⟨x1, rfl⟩ := bs_aI (hj 1 _ rfl)
    have rg1 := n_range x1
    obtain ⟨x2, rfl⟩ := bs_aI (hj 2 _ rfl)
    have rg2 := n_range x2
    obtain ⟨x3, rfl⟩ := bs_aI (hj 3 _ rfl)
    have rg3 := n_range x3
    obtain ⟨x4, rfl⟩ := bs_aI (hj 4 _ rfl)
    have rg4 := n_range x4
    obtain ⟨x5, rfl⟩ := bs_aI (hj 5 _ rfl)
    have rg5 := n_range x5
    clear hpre hj
    have F0 : sf_fr [(11, 0, 0), (11, 2, 2), (131, 0, 939)] t hp t hp := sf_fr_rf
    refine bs_finx (E := ke_X11_feed_b) (K := kq_X11_feed_b) (L := (L_X11_feed Z_X11_four)) (nL := 6) (Nat.le_of_ble_eq_true rfl) ?_
    obtain ⟨Q, hQ⟩ : ∃ Q : ab_O → Prop, Q = (fun o => ∃ t', sf_h t' o.2 ∧ sf_fr (kq_X11_feed_b).2.2.2.2 t hp t' o.2 ∧ sf_an t' o.2.1 (kq_X11_feed_b).2.2.1 o.1 ∧ sf_S (sf_v1 o.1 [.ref 69, .int x1, .int x2, .int x3, .int x4, .int x5] o.2) (kq_X11_feed_b).2.2.2.1 ∧ ke_X11_feed_b [.ref 69, .int x1, .int x2, .int x3, .int x4, .int x5] hp o.1 o.2) := ⟨_, rfl⟩
    rw [← hQ]
    refine (show Ev (ab_T (L_X11_feed Z_X11_four)) 0 ([some (.ref 69), some (.int x1), some (.int x2), some (.int x3), some (.int x4), some (.int x5)], [], (0, 0), hp) Q from ?_)
    obtain ⟨L0, hL0, lL0, uL0⟩ := bs_fld (k := 2) H (bs_R.uq H (g := 11) rfl) (by decide) rfl
    refine Ev.step (j := 1) (s' := ([some (.ref 69), some (.int x1), some (.int x2), some (.int x3), some (.int x4), some (.int x5)], [.ref 69], (0, 0), hp)) rfl rfl ?_
    refine bs_lit (k := 0) rfl rfl fun z1 hz1 => ?_
    refine bs_putI (W := [(11, 0, 0)]) (g := 11) rfl rfl H (bs_R.uq H (g := 11) rfl) (by decide) rfl rfl rfl rfl (Or.inl rfl) (by omega) (by omega) fun hp2 Hhp2 fhp2 rhp2 ehp2 qhp2 nhp2 => ?_
    have Fhp2 := sf_fr_tr F0 (sf_fr_wider (W := [(11, 0, 0), (11, 2, 2), (131, 0, 939)]) rfl fhp2)
    have h3 : sf_rd hp2 69 2 = some L0 := (ehp2 _ _ (Or.inr (by omega))).trans hL0
    refine Ev.step (j := 6) (s' := ([some (.ref 69), some (.int x1), some (.int x2), some (.int x3), some (.int x4), some (.int x5)], [.ref 69], (0, 0), hp2)) rfl rfl ?_
    refine bs_getI 11 rfl rfl rfl Hhp2 (bs_R.uq Hhp2 (g := 11) rfl) (by decide) rfl fun z4 hz4 lz4 gz4 => ?_
    have e5 : z4.toInt = L0 := Option.some.inj (hz4.symm.trans h3)
    refine bs_lit (k := 20) rfl rfl fun z6 hz6 => ?_
    first | (refine bs_add rfl (by omega) (by omega) fun z7 hz7 => ?_) | (refine bs_any rfl fun z7 => ?_)
    have rz7 := n_range z7
    refine bs_lit (k := 940) rfl rfl fun z8 hz8 => ?_
    refine bs_le rfl (fun c9 => ?_) (fun c9 => ?_)
    · skip
      refine Ev.step (j := 21) (s' := ([some (.ref 69), some (.int x1), some (.int x2), some (.int x3), some (.int x4), some (.int x5)], [.ref 69], (0, 0), hp2)) rfl rfl ?_
      refine Ev.step (j := 22) (s' := ([some (.ref 69), some (.int x1), some (.int x2), some (.int x3), some (.int x4), some (.int x5)], [.int x1, .ref 69], (0, 0), hp2)) rfl rfl ?_
      refine bs_callx (K := kq_X11_four_b) [.ref 69, .int x1] [] rfl ce_X11_four_b Hhp2 rfl rfl rfl (bs_rcv (g := 11) Hhp2 (bs_R.uq Hhp2 (g := 11) rfl) (by decide) rfl) rfl ?_ (sf_S_cons (sf_s1 (x := L0) (show sf_v0 _ _ 36008 = _ from h3) (by omega) (by omega)) (sf_S_nil)) fun r10 hp11 thp11 Hhp11 fhp11 ahp11 php11 xhp11 => ?_
      · intro q k h
        match q, h with
        | 0, h => cases h; exact bs_jR (bs_R.uq Hhp2 (g := 11) rfl)
        | 1, h => cases h; exact sf_j0
        | q + 2, h => cases h
      obtain rfl := ahp11.1 rfl
      have Fhp11 := sf_fr_tr Fhp2 (sf_fr_wider (W := [(11, 0, 0), (11, 2, 2), (131, 0, 939)]) rfl fhp11)
      have h12 : sf_rd hp11 69 0 = some z1.toInt := (fhp11.2.2.1 _ (bs_R.uq Hhp2 (g := 11) (p := 69) rfl).1 _ (by rw [(bs_R.uq Hhp2 (g := 11) (p := 69) rfl).2]; rfl)).trans rhp2
      refine (show Ev _ 25 ([some (.ref 69), some (.int x1), some (.int x2), some (.int x3), some (.int x4), some (.int x5)], [], (0, 0), hp11) _ from ?_)
      obtain ⟨h13, ah13, bh13⟩ := xhp11 _ _ rfl h3
      refine Ev.step (j := 26) (s' := ([some (.ref 69), some (.int x1), some (.int x2), some (.int x3), some (.int x4), some (.int x5)], [.ref 69], (0, 0), hp11)) rfl rfl ?_
      refine Ev.step (j := 27) (s' := ([some (.ref 69), some (.int x1), some (.int x2), some (.int x3), some (.int x4), some (.int x5)], [.int x2, .ref 69], (0, 0), hp11)) rfl rfl ?_
      refine bs_callx (K := kq_X11_four_b) [.ref 69, .int x2] [] rfl ce_X11_four_b Hhp11 rfl rfl rfl (bs_rcv (g := 11) Hhp11 (bs_R.uq Hhp11 (g := 11) rfl) (by decide) rfl) rfl ?_ (sf_S_cons (sf_s1 (x := (L0 + 4)) (show sf_v0 _ _ 36008 = _ from h13) (by omega) (by omega)) (sf_S_nil)) fun r14 hp15 thp15 Hhp15 fhp15 ahp15 php15 xhp15 => ?_
      · intro q k h
        match q, h with
        | 0, h => cases h; exact bs_jR (bs_R.uq Hhp11 (g := 11) rfl)
        | 1, h => cases h; exact sf_j0
        | q + 2, h => cases h
      obtain rfl := ahp15.1 rfl
      have Fhp15 := sf_fr_tr Fhp11 (sf_fr_wider (W := [(11, 0, 0), (11, 2, 2), (131, 0, 939)]) rfl fhp15)
      have h16 : sf_rd hp15 69 0 = some z1.toInt := (fhp15.2.2.1 _ (bs_R.uq Hhp11 (g := 11) (p := 69) rfl).1 _ (by rw [(bs_R.uq Hhp11 (g := 11) (p := 69) rfl).2]; rfl)).trans h12
      refine (show Ev _ 30 ([some (.ref 69), some (.int x1), some (.int x2), some (.int x3), some (.int x4), some (.int x5)], [], (0, 0), hp15) _ from ?_)
      obtain ⟨h17, ah17, bh17⟩ := xhp15 _ _ rfl h13
      refine Ev.step (j := 31) (s' := ([some (.ref 69), some (.int x1), some (.int x2), some (.int x3), some (.int x4), some (.int x5)], [.ref 69], (0, 0), hp15)) rfl rfl ?_
      refine Ev.step (j := 32) (s' := ([some (.ref 69), some (.int x1), some (.int x2), some (.int x3), some (.int x4), some (.int x5)], [.int x3, .ref 69], (0, 0), hp15)) rfl rfl ?_
      refine bs_callx (K := kq_X11_four_b) [.ref 69, .int x3] [] rfl ce_X11_four_b Hhp15 rfl rfl rfl (bs_rcv (g := 11) Hhp15 (bs_R.uq Hhp15 (g := 11) rfl) (by decide) rfl) rfl ?_ (sf_S_cons (sf_s1 (x := ((L0 + 4) + 4)) (show sf_v0 _ _ 36008 = _ from h17) (by omega) (by omega)) (sf_S_nil)) fun r18 hp19 thp19 Hhp19 fhp19 ahp19 php19 xhp19 => ?_
      · intro q k h
        match q, h with
        | 0, h => cases h; exact bs_jR (bs_R.uq Hhp15 (g := 11) rfl)
        | 1, h => cases h; exact sf_j0
        | q + 2, h => cases h
      obtain rfl := ahp19.1 rfl
      have Fhp19 := sf_fr_tr Fhp15 (sf_fr_wider (W := [(11, 0, 0), (11, 2, 2), (131, 0, 939)]) rfl fhp19)
      have h20 : sf_rd hp19 69 0 = some z1.toInt := (fhp19.2.2.1 _ (bs_R.uq Hhp15 (g := 11) (p := 69) rfl).1 _ (by rw [(bs_R.uq Hhp15 (g := 11) (p := 69) rfl).2]; rfl)).trans h16
      refine (show Ev _ 35 ([some (.ref 69), some (.int x1), some (.int x2), some (.int x3), some (.int x4), some (.int x5)], [], (0, 0), hp19) _ from ?_)
      obtain ⟨h21, ah21, bh21⟩ := xhp19 _ _ rfl h17
      refine Ev.step (j := 36) (s' := ([some (.ref 69), some (.int x1), some (.int x2), some (.int x3), some (.int x4), some (.int x5)], [.ref 69], (0, 0), hp19)) rfl rfl ?_
      refine Ev.step (j := 38) (s' := ([some (.ref 69), some (.int x1), some (.int x2), some (.int x3), some (.int x4), some (.int x5)], [.int x4, .ref 69], (0, 0), hp19)) rfl rfl ?_
      refine bs_callx (K := kq_X11_four_b) [.ref 69, .int x4] [] rfl ce_X11_four_b Hhp19 rfl rfl rfl (bs_rcv (g := 11) Hhp19 (bs_R.uq Hhp19 (g := 11) rfl) (by decide) rfl) rfl ?_ (sf_S_cons (sf_s1 (x := (((L0 + 4) + 4) + 4)) (show sf_v0 _ _ 36008 = _ from h21) (by omega) (by omega)) (sf_S_nil)) fun r22 hp23 thp23 Hhp23 fhp23 ahp23 php23 xhp23 => ?_
      · intro q k h
        match q, h with
        | 0, h => cases h; exact bs_jR (bs_R.uq Hhp19 (g := 11) rfl)
        | 1, h => cases h; exact sf_j0
        | q + 2, h => cases h
      obtain rfl := ahp23.1 rfl
      have Fhp23 := sf_fr_tr Fhp19 (sf_fr_wider (W := [(11, 0, 0), (11, 2, 2), (131, 0, 939)]) rfl fhp23)
      have h24 : sf_rd hp23 69 0 = some z1.toInt := (fhp23.2.2.1 _ (bs_R.uq Hhp19 (g := 11) (p := 69) rfl).1 _ (by rw [(bs_R.uq Hhp19 (g := 11) (p := 69) rfl).2]; rfl)).trans h20
      refine (show Ev _ 41 ([some (.ref 69), some (.int x1), some (.int x2), some (.int x3), some (.int x4), some (.int x5)], [], (0, 0), hp23) _ from ?_)
      obtain ⟨h25, ah25, bh25⟩ := xhp23 _ _ rfl h21
      refine Ev.step (j := 42) (s' := ([some (.ref 69), some (.int x1), some (.int x2), some (.int x3), some (.int x4), some (.int x5)], [.ref 69], (0, 0), hp23)) rfl rfl ?_
      refine Ev.step (j := 44) (s' := ([some (.ref 69), some (.int x1), some (.int x2), some (.int x3), some (.int x4), some (.int x5)], [.int x5, .ref 69], (0, 0), hp23)) rfl rfl ?_
      refine bs_callx (K := kq_X11_four_b) [.ref 69, .int x5] [] rfl ce_X11_four_b Hhp23 rfl rfl rfl (bs_rcv (g := 11) Hhp23 (bs_R.uq Hhp23 (g := 11) rfl) (by decide) rfl) rfl ?_ (sf_S_cons (sf_s1 (x := ((((L0 + 4) + 4) + 4) + 4)) (show sf_v0 _ _ 36008 = _ from h25) (by omega) (by omega)) (sf_S_nil)) fun r26 hp27 thp27 Hhp27 fhp27 ahp27 php27 xhp27 => ?_
      · intro q k h
        match q, h with
        | 0, h => cases h; exact bs_jR (bs_R.uq Hhp23 (g := 11) rfl)
        | 1, h => cases h; exact sf_j0
        | q + 2, h => cases h
      obtain rfl := ahp27.1 rfl
      have Fhp27 := sf_fr_tr Fhp23 (sf_fr_wider (W := [(11, 0, 0), (11, 2, 2), (131, 0, 939)]) rfl fhp27)
      have h28 : sf_rd hp27 69 0 = some z1.toInt := (fhp27.2.2.1 _ (bs_R.uq Hhp23 (g := 11) (p := 69) rfl).1 _ (by rw [(bs_R.uq Hhp23 (g := 11) (p := 69) rfl).2]; rfl)).trans h24
      refine (show Ev _ 47 ([some (.ref 69), some (.int x1), some (.int x2), some (.int x3), some (.int x4), some (.int x5)], [], (0, 0), hp27) _ from ?_)
      obtain ⟨h29, ah29, bh29⟩ := xhp27 _ _ rfl h25
      refine Ev.step (j := 48) (s' := ([some (.ref 69), some (.int x1), some (.int x2), some (.int x3), some (.int x4), some (.int x5)], [.ref 69], (0, 0), hp27)) rfl rfl ?_
      refine bs_getI 11 rfl rfl rfl Hhp27 (bs_R.uq Hhp27 (g := 11) rfl) (by decide) rfl fun z30 hz30 lz30 gz30 => ?_
      have e31 : z30.toInt = (((((L0 + 4) + 4) + 4) + 4) + 4) := Option.some.inj (hz30.symm.trans h29)
      exact Ev.ret rfl rfl (by rw [hQ]; exact ⟨thp27, Hhp27, Fhp27, bs_an0, sf_S_nil, (fun v hv => by have e : v = L0 := Option.some.inj (hv.symm.trans hL0); subst e; exact ⟨z30, rfl, by unfold fd_z; split <;> omega, by unfold fd_n; split <;> exact h29.trans (congrArg some (by omega)), fun q hq => ((ah29 _ (by omega)).trans ((ah25 _ (by omega)).trans ((ah21 _ (by omega)).trans ((ah17 _ (by omega)).trans (ah13 _ (by omega)))))).trans (ehp2 _ _ (Or.inl (by decide))), fun _ i x hi hx j hj => match i, hi, hx with | 0, _, hx => (by have hx2 : some (Value.int x1) = some (Value.int x) := hx; obtain rfl := Value.int.inj (Option.some.inj hx2); exact (bs_at (((ah29 _ (by omega)).trans ((ah25 _ (by omega)).trans ((ah21 _ (by omega)).trans (ah17 _ (by omega))))).trans (bh13 j hj)) (show _ = v.toNat + 4 * 0 + j by omega))) | 1, _, hx => (by have hx2 : some (Value.int x2) = some (Value.int x) := hx; obtain rfl := Value.int.inj (Option.some.inj hx2); exact (bs_at (((ah29 _ (by omega)).trans ((ah25 _ (by omega)).trans (ah21 _ (by omega)))).trans (bh17 j hj)) (show _ = v.toNat + 4 * 1 + j by omega))) | 2, _, hx => (by have hx2 : some (Value.int x3) = some (Value.int x) := hx; obtain rfl := Value.int.inj (Option.some.inj hx2); exact (bs_at (((ah29 _ (by omega)).trans (ah25 _ (by omega))).trans (bh21 j hj)) (show _ = v.toNat + 4 * 2 + j by omega))) | 3, _, hx => (by have hx2 : some (Value.int x4) = some (Value.int x) := hx; obtain rfl := Value.int.inj (Option.some.inj hx2); exact (bs_at ((ah29 _ (by omega)).trans (bh25 j hj)) (show _ = v.toNat + 4 * 3 + j by omega))) | 4, _, hx => (by have hx2 : some (Value.int x5) = some (Value.int x) := hx; obtain rfl := Value.int.inj (Option.some.inj hx2); exact (bs_at ((bh29 j hj)) (show _ = v.toNat + 4 * 4 + j by omega))) | i + 5, h, _ => absurd h (by omega)⟩)⟩)
    · skip
      refine bs_lit (k := -1) rfl rfl fun z32 hz32 => ?_
      exact Ev.ret rfl rfl (by rw [hQ]; exact ⟨t, Hhp2, Fhp2, bs_an0, sf_S_nil, (fun v hv => by have e : v = L0 := Option.some.inj (hv.symm.trans hL0); subst e; exact ⟨z32, rfl, by unfold fd_z; split <;> omega, by unfold fd_n; split <;> exact h3.trans (congrArg some (by omega)), fun q hq => (ehp2 _ _ (Or.inl (by decide))), fun h => absurd h (by omega)⟩)⟩)
theorem ct_X11_feed_b : sf_ct kq_X11_feed_b Z_X11_feed := ce_X11_feed_b.ct
