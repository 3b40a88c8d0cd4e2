/-! ===== end, with its answer ===== -/
def en_z (v x : Int) : Int := if 0 ≤ x ∧ x ≤ v then 1 else 0
def kq_X10_end_r : sf_Q := ([(1, 10, 0), (0, 0, 0)], [], some (0, 0, 0), [(1, 0, 0, 0, 1, 0)], [(8, 1, 1)])
def ke_X10_end_r : List Value → ab_H → Option Value → ab_H → Prop := fun as hp r hp' => ∀ (v : Int) (x : Int32), as[1]? = some (Value.int x) → sf_rd hp 1 1 = some v → sf_rd hp' 1 1 = some (en_n v x.toInt) ∧ ∃ z : Int32, r = some (.int z) ∧ z.toInt = en_z v x.toInt
set_option maxRecDepth 100000 in
set_option maxHeartbeats 4000000 in
theorem ce_X10_end_r : sf_cE kq_X10_end_r Z_X10_end ke_X10_end_r := by
  intro t hp as H hl hj hpre
  match as, hl with
  | [v0, v1], _ =>
    obtain ⟨a0, rfl, ra0⟩ := bs_aR (hj 0 _ rfl)
    obtain rfl := ra0.eq H (p := 0) rfl
    obtain ⟨x1, rfl⟩ := bs_aI (hj 1 _ rfl)
    have rg1 := n_range x1
    clear hpre hj
    have F0 : sf_fr [(8, 1, 1)] t hp t hp := sf_fr_rf
    refine bs_finx (E := ke_X10_end_r) (K := kq_X10_end_r) (L := L_X10_end) (nL := 2) (Nat.le_of_ble_eq_true rfl) ?_
    obtain ⟨Q, hQ⟩ : ∃ Q : ab_O → Prop, Q = (fun o => ∃ t', sf_h t' o.2 ∧ sf_fr (kq_X10_end_r).2.2.2.2 t hp t' o.2 ∧ sf_an t' o.2.1 (kq_X10_end_r).2.2.1 o.1 ∧ sf_S (sf_v1 o.1 [.ref 0, .int x1] o.2) (kq_X10_end_r).2.2.2.1 ∧ ke_X10_end_r [.ref 0, .int x1] hp o.1 o.2) := ⟨_, rfl⟩
    rw [← hQ]
    refine (show Ev (ab_T L_X10_end) 0 ([some (.ref 0), some (.int x1)], [], (0, 0), hp) Q from ?_)
    obtain ⟨L0, hL0, lL0, uL0⟩ := bs_fld (k := 1) H (bs_R.uq H (g := 8) rfl) (by decide) rfl
    refine Ev.step (j := 1) (s' := ([some (.ref 0), some (.int x1)], [.int x1], (0, 0), hp)) rfl rfl ?_
    refine bs_iflt rfl (fun c1 => ?_) (fun c1 => ?_)
    · skip
      refine bs_lit (k := 0) rfl rfl fun z2 hz2 => ?_
      exact bs_zret rfl rfl (by omega) (by omega) (by rw [hQ]; exact ⟨t, H, F0, bs_an0, sf_S_cons (sf_s1 (x := z2.toInt) rfl (by omega) (by omega)) (sf_S_nil), (fun v x hx hv => by have e : v = L0 := Option.some.inj (hv.symm.trans hL0); subst e; have hx2 : some (Value.int x1) = some (Value.int x) := hx; obtain rfl := Value.int.inj (Option.some.inj hx2); exact ⟨by unfold en_n; split <;> exact hL0.trans (congrArg some (by omega)), z2, rfl, by unfold en_z; split <;> omega⟩)⟩)
    · skip
      refine Ev.step (j := 5) (s' := ([some (.ref 0), some (.int x1)], [.int x1], (0, 0), hp)) rfl rfl ?_
      refine Ev.step (j := 6) (s' := ([some (.ref 0), some (.int x1)], [.ref 0, .int x1], (0, 0), hp)) rfl rfl ?_
      refine bs_getU (g := 10) (g1 := 8) rfl rfl H (bs_R.uq H (g := 10) rfl) (by decide) rfl rfl ?_
      refine bs_getI 8 rfl rfl rfl H (bs_R.uq H (g := 8) rfl) (by decide) rfl fun z3 hz3 lz3 gz3 => ?_
      have e4 : z3.toInt = L0 := Option.some.inj (hz3.symm.trans hL0)
      refine bs_le rfl (fun c5 => ?_) (fun c5 => ?_)
      · skip
        refine Ev.step (j := 18) (s' := ([some (.ref 0), some (.int x1)], [.ref 0], (0, 0), hp)) rfl rfl ?_
        refine bs_getU (g := 10) (g1 := 8) rfl rfl H (bs_R.uq H (g := 10) rfl) (by decide) rfl rfl ?_
        refine Ev.step (j := 22) (s' := ([some (.ref 0), some (.int x1)], [.int x1, .ref 1], (0, 0), hp)) rfl rfl ?_
        refine bs_putI (W := [(8, 1, 1)]) (g := 8) rfl rfl H (bs_R.uq H (g := 8) rfl) (by decide) rfl rfl rfl rfl (Or.inl rfl) (by omega) (by omega) fun hp6 Hhp6 fhp6 rhp6 ehp6 qhp6 nhp6 => ?_
        have Fhp6 := sf_fr_tr F0 (sf_fr_wider (W := [(8, 1, 1)]) rfl fhp6)
        refine bs_lit (k := 1) rfl rfl fun z7 hz7 => ?_
        exact bs_zret rfl rfl (by omega) (by omega) (by rw [hQ]; exact ⟨t, Hhp6, Fhp6, bs_an0, sf_S_cons (sf_s1 (x := z7.toInt) rfl (by omega) (by omega)) (sf_S_nil), (fun v x hx hv => by have e : v = L0 := Option.some.inj (hv.symm.trans hL0); subst e; have hx2 : some (Value.int x1) = some (Value.int x) := hx; obtain rfl := Value.int.inj (Option.some.inj hx2); exact ⟨by unfold en_n; split <;> exact rhp6.trans (congrArg some (by omega)), z7, rfl, by unfold en_z; split <;> omega⟩)⟩)
      · skip
        refine bs_lit (k := 0) rfl rfl fun z8 hz8 => ?_
        exact bs_zret rfl rfl (by omega) (by omega) (by rw [hQ]; exact ⟨t, H, F0, bs_an0, sf_S_cons (sf_s1 (x := z8.toInt) rfl (by omega) (by omega)) (sf_S_nil), (fun v x hx hv => by have e : v = L0 := Option.some.inj (hv.symm.trans hL0); subst e; have hx2 : some (Value.int x1) = some (Value.int x) := hx; obtain rfl := Value.int.inj (Option.some.inj hx2); exact ⟨by unfold en_n; split <;> exact hL0.trans (congrArg some (by omega)), z8, rfl, by unfold en_z; split <;> omega⟩)⟩)
theorem ct_X10_end_r : sf_ct kq_X10_end_r Z_X10_end := ce_X10_end_r.ct
def kq_X11_end_r : sf_Q := ([(1, 11, 0), (0, 0, 0)], [], some (0, 0, 0), [(1, 0, 0, 0, 1, 0)], [(11, 0, 0), (11, 2, 2)])
def ke_X11_end_r : List Value → ab_H → Option Value → ab_H → Prop := fun as hp r hp' => ∀ (v : Int) (x : Int32), as[1]? = some (Value.int x) → sf_rd hp 69 2 = some v → sf_rd hp' 69 2 = some (en_n v x.toInt) ∧ ∃ z : Int32, r = some (.int z) ∧ z.toInt = en_z v x.toInt
set_option maxRecDepth 100000 in
set_option maxHeartbeats 4000000 in
theorem ce_X11_end_r : sf_cE kq_X11_end_r Z_X11_end ke_X11_end_r := by
  intro t hp as H hl hj hpre
  match as, hl with
  | [v0, v1], _ =>
    obtain ⟨a0, rfl, ra0⟩ := bs_aR (hj 0 _ rfl)
    obtain rfl := ra0.eq H (p := 69) rfl
    obtain ⟨x1, rfl⟩ := bs_aI (hj 1 _ rfl)
    have rg1 := n_range x1
    clear hpre hj
    have F0 : sf_fr [(11, 0, 0), (11, 2, 2)] t hp t hp := sf_fr_rf
    refine bs_finx (E := ke_X11_end_r) (K := kq_X11_end_r) (L := L_X11_end) (nL := 2) (Nat.le_of_ble_eq_true rfl) ?_
    obtain ⟨Q, hQ⟩ : ∃ Q : ab_O → Prop, Q = (fun o => ∃ t', sf_h t' o.2 ∧ sf_fr (kq_X11_end_r).2.2.2.2 t hp t' o.2 ∧ sf_an t' o.2.1 (kq_X11_end_r).2.2.1 o.1 ∧ sf_S (sf_v1 o.1 [.ref 69, .int x1] o.2) (kq_X11_end_r).2.2.2.1 ∧ ke_X11_end_r [.ref 69, .int x1] hp o.1 o.2) := ⟨_, rfl⟩
    rw [← hQ]
    refine (show Ev (ab_T L_X11_end) 0 ([some (.ref 69), some (.int x1)], [], (0, 0), hp) Q from ?_)
    obtain ⟨L0, hL0, lL0, uL0⟩ := bs_fld (k := 2) H (bs_R.uq H (g := 11) rfl) (by decide) rfl
    refine Ev.step (j := 1) (s' := ([some (.ref 69), some (.int x1)], [.ref 69], (0, 0), hp)) rfl rfl ?_
    refine bs_lit (k := 0) rfl rfl fun z1 hz1 => ?_
    refine bs_putI (W := [(11, 0, 0)]) (g := 11) rfl rfl H (bs_R.uq H (g := 11) rfl) (by decide) rfl rfl rfl rfl (Or.inl rfl) (by omega) (by omega) fun hp2 Hhp2 fhp2 rhp2 ehp2 qhp2 nhp2 => ?_
    have Fhp2 := sf_fr_tr F0 (sf_fr_wider (W := [(11, 0, 0), (11, 2, 2)]) rfl fhp2)
    have h3 : sf_rd hp2 69 2 = some L0 := (ehp2 _ _ (Or.inr (by omega))).trans hL0
    refine Ev.step (j := 6) (s' := ([some (.ref 69), some (.int x1)], [.int x1], (0, 0), hp2)) rfl rfl ?_
    refine bs_iflt rfl (fun c4 => ?_) (fun c4 => ?_)
    · skip
      refine bs_lit (k := 0) rfl rfl fun z5 hz5 => ?_
      exact bs_zret rfl rfl (by omega) (by omega) (by rw [hQ]; exact ⟨t, Hhp2, Fhp2, bs_an0, sf_S_cons (sf_s1 (x := z5.toInt) rfl (by omega) (by omega)) (sf_S_nil), (fun v x hx hv => by have e : v = L0 := Option.some.inj (hv.symm.trans hL0); subst e; have hx2 : some (Value.int x1) = some (Value.int x) := hx; obtain rfl := Value.int.inj (Option.some.inj hx2); exact ⟨by unfold en_n; split <;> exact h3.trans (congrArg some (by omega)), z5, rfl, by unfold en_z; split <;> omega⟩)⟩)
    · skip
      refine Ev.step (j := 10) (s' := ([some (.ref 69), some (.int x1)], [.int x1], (0, 0), hp2)) rfl rfl ?_
      refine Ev.step (j := 11) (s' := ([some (.ref 69), some (.int x1)], [.ref 69, .int x1], (0, 0), hp2)) rfl rfl ?_
      refine bs_getI 11 rfl rfl rfl Hhp2 (bs_R.uq Hhp2 (g := 11) rfl) (by decide) rfl fun z6 hz6 lz6 gz6 => ?_
      have e7 : z6.toInt = L0 := Option.some.inj (hz6.symm.trans h3)
      refine bs_le rfl (fun c8 => ?_) (fun c8 => ?_)
      · skip
        refine Ev.step (j := 20) (s' := ([some (.ref 69), some (.int x1)], [.ref 69], (0, 0), hp2)) rfl rfl ?_
        refine Ev.step (j := 21) (s' := ([some (.ref 69), some (.int x1)], [.int x1, .ref 69], (0, 0), hp2)) rfl rfl ?_
        refine bs_putI (W := [(11, 2, 2)]) (g := 11) rfl rfl Hhp2 (bs_R.uq Hhp2 (g := 11) rfl) (by decide) rfl rfl rfl rfl (Or.inl rfl) (by omega) (by omega) fun hp9 Hhp9 fhp9 rhp9 ehp9 qhp9 nhp9 => ?_
        have Fhp9 := sf_fr_tr Fhp2 (sf_fr_wider (W := [(11, 0, 0), (11, 2, 2)]) rfl fhp9)
        have h10 : sf_rd hp9 69 0 = some z1.toInt := (ehp9 _ _ (Or.inr (by omega))).trans rhp2
        refine bs_lit (k := 1) rfl rfl fun z11 hz11 => ?_
        exact bs_zret rfl rfl (by omega) (by omega) (by rw [hQ]; exact ⟨t, Hhp9, Fhp9, bs_an0, sf_S_cons (sf_s1 (x := z11.toInt) rfl (by omega) (by omega)) (sf_S_nil), (fun v x hx hv => by have e : v = L0 := Option.some.inj (hv.symm.trans hL0); subst e; have hx2 : some (Value.int x1) = some (Value.int x) := hx; obtain rfl := Value.int.inj (Option.some.inj hx2); exact ⟨by unfold en_n; split <;> exact rhp9.trans (congrArg some (by omega)), z11, rfl, by unfold en_z; split <;> omega⟩)⟩)
      · skip
        refine bs_lit (k := 0) rfl rfl fun z12 hz12 => ?_
        exact bs_zret rfl rfl (by omega) (by omega) (by rw [hQ]; exact ⟨t, Hhp2, Fhp2, bs_an0, sf_S_cons (sf_s1 (x := z12.toInt) rfl (by omega) (by omega)) (sf_S_nil), (fun v x hx hv => by have e : v = L0 := Option.some.inj (hv.symm.trans hL0); subst e; have hx2 : some (Value.int x1) = some (Value.int x) := hx; obtain rfl := Value.int.inj (Option.some.inj hx2); exact ⟨by unfold en_n; split <;> exact h3.trans (congrArg some (by omega)), z12, rfl, by unfold en_z; split <;> omega⟩)⟩)
theorem ct_X11_end_r : sf_ct kq_X11_end_r Z_X11_end := ce_X11_end_r.ct
