def kq_X11_readMisses_v : sf_Q := ([(1, 11, 0)], [], some (0, 0, 0), [(1, 0, 0, 0, 1, 0)], [(11, 4, 4), (11, 11, 18), (133, 0, 119)])
def ke_X11_readMisses_v (B : Nat → Int) (n lim i : Nat) (s : PS) : List Value → ab_H → Option Value → ab_H → Prop := fun as _ r hp' => as = [.ref 69] → RRES hp' B n lim r (lnMiss (tok B n lim) s i)
set_option maxRecDepth 100000 in
set_option maxHeartbeats 4000000 in
theorem cp_X11_readMisses_v {B : Nat → Int} {n lim i : Nat} {s : PS} : sf_cG kq_X11_readMisses_v Z_X11_readMisses (fun hp => RK hp B n lim i ∧ SR hp s ∧ RES hp) (ke_X11_readMisses_v B n lim i s) := by
  intro t hp as H hl hj hpre hG
  match as, hl with
  | [v0], _ =>
    obtain ⟨a0, rfl, ra0⟩ := bs_aR (hj 0 _ rfl)
    obtain rfl := ra0.eq H (p := 69) rfl
    clear hpre hj
    have F0 : sf_fr [(11, 4, 4), (11, 11, 18), (133, 0, 119)] t hp t hp := sf_fr_rf
    refine bs_finx (E := (ke_X11_readMisses_v B n lim i s)) (K := kq_X11_readMisses_v) (L := (L_X11_readMisses Z_X11_bad Z_X11_next Z_X11_takesName Z_X11_looksAt Z_X11_puts)) (nL := 5) (Nat.le_of_ble_eq_true rfl) ?_
    obtain ⟨Q, hQ⟩ : ∃ Q : ab_O → Prop, Q = (fun o => ∃ t', sf_h t' o.2 ∧ sf_fr (kq_X11_readMisses_v).2.2.2.2 t hp t' o.2 ∧ sf_an t' o.2.1 (kq_X11_readMisses_v).2.2.1 o.1 ∧ sf_S (sf_v1 o.1 [.ref 69] o.2) (kq_X11_readMisses_v).2.2.2.1 ∧ (ke_X11_readMisses_v B n lim i s) [.ref 69] hp o.1 o.2) := ⟨_, rfl⟩
    rw [← hQ]
    refine (show Ev (ab_T (L_X11_readMisses Z_X11_bad Z_X11_next Z_X11_takesName Z_X11_looksAt Z_X11_puts)) 0 ([some (.ref 69), none, none, none, none], [], (0, 0), hp) Q from ?_)
    obtain ⟨hK, hS, hR⟩ := hG
    refine Ev.step (j := 1) (s' := ([some (.ref 69), none, none, none, none], [.ref 69], (0, 0), hp)) rfl rfl ?_
    refine bs_getU (g := 11) (g1 := 133) rfl rfl H (bs_R.uq H (g := 11) rfl) (by decide) rfl rfl ?_
    refine bs_lit (k := 3) rfl rfl fun z1 hz1 => ?_
    refine bs_ld (g := 133) 3 3 (0, 20) rfl H (bs_R.uq H (g := 133) rfl) (by decide) rfl (by decide) (by decide) rfl (by decide) (by omega) (by omega) fun z2 hz2 lz2 gz2 => ?_
    dsimp only at lz2 gz2
    replace hz2 := bs_at hz2 (show z1.toInt.toNat = 3 by omega)
    have c3_z2 : z2.toInt = s.h 3 := Option.some.inj (hz2.symm.trans (hS.1 3 (by decide)))
    refine Ev.step (j := 7) (s' := ([some (.ref 69), some (.int z2), none, none, none], [], (0, 0), hp)) rfl rfl ?_
    refine Ev.step (j := 8) (s' := ([some (.ref 69), some (.int z2), none, none, none], [.int z2], (0, 0), hp)) rfl rfl ?_
    refine bs_lit (k := 20) rfl rfl fun z3 hz3 => ?_
    refine bs_ne rfl (fun c4 => ?_) (fun c4 => ?_)
    · skip
      refine Ev.step (j := 20) (s' := ([some (.ref 69), some (.int z2), none, none, none], [.ref 69], (0, 0), hp)) rfl rfl ?_
      refine bs_callx (K := kq_X11_next_v) [.ref 69] [] rfl ce_X11_next_v H rfl rfl rfl (bs_rcv (g := 11) H (bs_R.uq H (g := 11) rfl) (by decide) rfl) rfl ?_ (sf_S_nil) fun r5 hp6 thp6 Hhp6 fhp6 ahp6 php6 xhp6 => ?_
      · intro q k h
        match q, h with
        | 0, h => cases h; exact bs_jR (bs_R.uq H (g := 11) rfl)
        | q + 1, h => cases h
      obtain rfl := ahp6.1 rfl
      have Fhp6 := sf_fr_tr F0 (sf_fr_wider (W := [(11, 4, 4), (11, 11, 18), (133, 0, 119)]) rfl fhp6)
      have h7 : sf_rd hp6 72 3 = some z2.toInt := (fhp6.2.2.1 _ (bs_R.uq H (g := 133) (p := 72) rfl).1 _ (by rw [(bs_R.uq H (g := 133) (p := 72) rfl).2]; rfl)).trans hz2
      refine (show Ev _ 23 ([some (.ref 69), some (.int z2), none, none, none], [], (0, 0), hp6) _ from ?_)
      have K8 := (RK_next H fhp6 rfl rfl rfl xhp6 hK).1
      have R9 := RES_fr H fhp6 rfl hR
      have S10 := SR_fr H fhp6 rfl rfl rfl rfl hS
      refine Ev.step (j := 24) (s' := ([some (.ref 69), some (.int z2), none, none, none], [.ref 69], (0, 0), hp6)) rfl rfl ?_
      refine bs_lit (k := 20) rfl rfl fun z11 hz11 => ?_
      refine Ev.step (j := 27) (s' := ([some (.ref 69), some (.int z2), none, none, none], [.ref 69, .int z11, .ref 69], (0, 0), hp6)) rfl rfl ?_
      refine bs_getU (g := 11) (g1 := 133) rfl rfl Hhp6 (bs_R.uq Hhp6 (g := 11) rfl) (by decide) rfl rfl ?_
      refine bs_lit (k := 1) rfl rfl fun z12 hz12 => ?_
      refine bs_ld (g := 133) 1 1 (0, 8) rfl Hhp6 (bs_R.uq Hhp6 (g := 133) rfl) (by decide) rfl (by decide) (by decide) rfl (by decide) (by omega) (by omega) fun z13 hz13 lz13 gz13 => ?_
      dsimp only at lz13 gz13
      replace hz13 := bs_at hz13 (show z12.toInt.toNat = 1 by omega)
      have c1_z13 : z13.toInt = s.h 1 := Option.some.inj (hz13.symm.trans (S10.1 1 (by decide)))
      refine bs_callx (K := kq_X11_takesName_v) [.ref 69, .int z11, .int z13] [] rfl ce_X11_takesName_v Hhp6 rfl rfl rfl (bs_rcv (g := 11) Hhp6 (bs_R.uq Hhp6 (g := 11) rfl) (by decide) rfl) rfl ?_ (sf_S_cons (sf_s1 (x := z11.toInt) rfl (by omega) (by omega)) (sf_S_cons (sf_s1 (x := z13.toInt) rfl (by omega) (by omega)) (sf_S_nil))) fun r14 hp15 thp15 Hhp15 fhp15 ahp15 php15 xhp15 => ?_
      · intro q k h
        match q, h with
        | 0, h => cases h; exact bs_jR (bs_R.uq Hhp6 (g := 11) rfl)
        | 1, h => cases h; exact sf_j0
        | 2, h => cases h; exact sf_j0
        | q + 3, h => cases h
      obtain ⟨z16, rfl⟩ := bs_anI ahp15
      have rgz16 := n_range z16
      have Fhp15 := sf_fr_tr Fhp6 (sf_fr_wider (W := [(11, 4, 4), (11, 11, 18), (133, 0, 119)]) rfl fhp15)
      have h17 : sf_rd hp15 72 3 = some z2.toInt := (fhp15.2.2.1 _ (bs_R.uq Hhp6 (g := 133) (p := 72) rfl).1 _ (by rw [(bs_R.uq Hhp6 (g := 133) (p := 72) rfl).2]; rfl)).trans h7
      have h18 : sf_rd hp15 72 1 = some z13.toInt := (fhp15.2.2.1 _ (bs_R.uq Hhp6 (g := 133) (p := 72) rfl).1 _ (by rw [(bs_R.uq Hhp6 (g := 133) (p := 72) rfl).2]; rfl)).trans hz13
      obtain ⟨uz16, vz16⟩ := bs_s1 (x := z16.toInt) rfl (php15 _ (List.mem_of_getElem? (i := 0) rfl))
      refine (show Ev _ 35 ([some (.ref 69), some (.int z2), none, none, none], [.int z16], (0, 0), hp15) _ from ?_)
      obtain ⟨q19, rq19, X20⟩ := xhp15 _ _ s.nm 6 B n lim (i + 1) rfl (fun k hk => by rw [show z11.toInt.toNat + k = 20 + k by omega]; exact S10.2.2.2.2 k (by omega)) R9 K8
      obtain rfl := Value.int.inj (Option.some.inj rq19)
      rw [show z13.toInt = s.h 1 by omega] at X20
      have R21 := RES_fr Hhp6 fhp15 rfl R9
      have S22 := SR_fr Hhp6 fhp15 rfl rfl rfl rfl S10
      refine bs_ifne rfl (fun c23 => ?_) (fun c23 => ?_)
      · skip
        obtain ⟨Y0X20, Y1X20, Y2X20, Y3X20, Y4X20⟩ := X20.resolve_right (fun h => absurd h.1 (by omega))
        have FBX20 : fnd s.nm 6 (s.h 1) (tok B n lim (i + 1)).v ≤ 7 := by have := fnd_lt (nm := s.nm) (o := 6) (n := s.h 1) (v := (tok B n lim (i + 1)).v); omega
        refine Ev.step (j := 41) (s' := ([some (.ref 69), some (.int z2), none, none, none], [.ref 69], (0, 0), hp15)) rfl rfl ?_
        refine bs_getI 11 rfl rfl rfl Hhp15 (bs_R.uq Hhp15 (g := 11) rfl) (by decide) rfl fun z24 hz24 lz24 gz24 => ?_
        have e25 : z24.toInt = (fnd s.nm 6 (s.h 1) (tok B n lim (i + 1)).v) := Option.some.inj (hz24.symm.trans Y3X20)
        refine Ev.step (j := 45) (s' := ([some (.ref 69), some (.int z2), some (.int z24), none, none], [], (0, 0), hp15)) rfl rfl ?_
        refine Ev.step (j := 46) (s' := ([some (.ref 69), some (.int z2), some (.int z24), none, none], [.ref 69], (0, 0), hp15)) rfl rfl ?_
        refine bs_lit (k := 20) rfl rfl fun z26 hz26 => ?_
        refine Ev.step (j := 49) (s' := ([some (.ref 69), some (.int z2), some (.int z24), none, none], [.ref 69, .int z26, .ref 69], (0, 0), hp15)) rfl rfl ?_
        refine bs_getU (g := 11) (g1 := 133) rfl rfl Hhp15 (bs_R.uq Hhp15 (g := 11) rfl) (by decide) rfl rfl ?_
        refine bs_lit (k := 1) rfl rfl fun z27 hz27 => ?_
        refine bs_ld (g := 133) 1 1 (0, 8) rfl Hhp15 (bs_R.uq Hhp15 (g := 133) rfl) (by decide) rfl (by decide) (by decide) rfl (by decide) (by omega) (by omega) fun z28 hz28 lz28 gz28 => ?_
        dsimp only at lz28 gz28
        replace hz28 := bs_at hz28 (show z27.toInt.toNat = 1 by omega)
        have e29 : z28.toInt = z13.toInt := Option.some.inj (hz28.symm.trans h18)
        have c1_z13 : z13.toInt = s.h 1 := Option.some.inj (h18.symm.trans (S22.1 1 (by decide)))
        refine bs_callx (K := kq_X11_looksAt_v) [.ref 69, .int z26, .int z28] [] rfl ce_X11_looksAt_v Hhp15 rfl rfl rfl (bs_rcv (g := 11) Hhp15 (bs_R.uq Hhp15 (g := 11) rfl) (by decide) rfl) rfl ?_ (sf_S_cons (sf_s1 (x := z26.toInt) rfl (by omega) (by omega)) (sf_S_cons (sf_s1 (x := z28.toInt) rfl (by omega) (by omega)) (sf_S_nil))) fun r30 hp31 thp31 Hhp31 fhp31 ahp31 php31 xhp31 => ?_
        · intro q k h
          match q, h with
          | 0, h => cases h; exact bs_jR (bs_R.uq Hhp15 (g := 11) rfl)
          | 1, h => cases h; exact sf_j0
          | 2, h => cases h; exact sf_j0
          | q + 3, h => cases h
        obtain ⟨z32, rfl⟩ := bs_anI ahp31
        have rgz32 := n_range z32
        have Fhp31 := sf_fr_tr Fhp15 (sf_fr_wider (W := [(11, 4, 4), (11, 11, 18), (133, 0, 119)]) rfl fhp31)
        have h33 : sf_rd hp31 72 3 = some z2.toInt := (fhp31.2.2.1 _ (bs_R.uq Hhp15 (g := 133) (p := 72) rfl).1 _ (by rw [(bs_R.uq Hhp15 (g := 133) (p := 72) rfl).2]; rfl)).trans h17
        have h34 : sf_rd hp31 72 1 = some z13.toInt := (fhp31.2.2.1 _ (bs_R.uq Hhp15 (g := 133) (p := 72) rfl).1 _ (by rw [(bs_R.uq Hhp15 (g := 133) (p := 72) rfl).2]; rfl)).trans h18
        obtain ⟨uz32, vz32⟩ := bs_s1 (x := z32.toInt) rfl (php31 _ (List.mem_of_getElem? (i := 0) rfl))
        refine (show Ev _ 57 ([some (.ref 69), some (.int z2), some (.int z24), none, none], [.int z32], (0, 0), hp31) _ from ?_)
        obtain ⟨q35, rq35, X36⟩ := xhp31 _ _ s.nm 6 B n lim (i + 2) rfl (fun k hk => by rw [show z26.toInt.toNat + k = 20 + k by omega]; exact S22.2.2.2.2 k (by omega)) R21 Y4X20
        obtain rfl := Value.int.inj (Option.some.inj rq35)
        rw [show z28.toInt = s.h 1 by omega] at X36
        have R37 := RES_fr Hhp15 fhp31 rfl R21
        have S38 := SR_fr Hhp15 fhp31 rfl rfl rfl rfl S22
        refine bs_ifne rfl (fun c39 => ?_) (fun c39 => ?_)
        · skip
          obtain ⟨Y0X36, Y1X36, Y2X36, Y3X36, Y4X36⟩ := X36.resolve_right (fun h => absurd h.1 (by omega))
          have FBX36 : fnd s.nm 6 (s.h 1) (tok B n lim (i + 2)).v ≤ 7 := by have := fnd_lt (nm := s.nm) (o := 6) (n := s.h 1) (v := (tok B n lim (i + 2)).v); omega
          refine Ev.step (j := 63) (s' := ([some (.ref 69), some (.int z2), some (.int z24), none, none], [.ref 69], (0, 0), hp31)) rfl rfl ?_
          refine bs_getI 11 rfl rfl rfl Hhp31 (bs_R.uq Hhp31 (g := 11) rfl) (by decide) rfl fun z40 hz40 lz40 gz40 => ?_
          have e41 : z40.toInt = (fnd s.nm 6 (s.h 1) (tok B n lim (i + 2)).v) := Option.some.inj (hz40.symm.trans Y3X36)
          refine Ev.step (j := 67) (s' := ([some (.ref 69), some (.int z2), some (.int z24), none, none], [.int z24, .int z40], (0, 0), hp31)) rfl rfl ?_
          refine bs_eq rfl (fun c42 => ?_) (fun c42 => ?_)
          · skip
            refine bs_lit (k := 0) rfl rfl fun z43 hz43 => ?_
            refine Ev.step (j := 76) (s' := ([some (.ref 69), some (.int z2), some (.int z24), some (.int z43), none], [], (0, 0), hp31)) rfl rfl ?_
            refine bs_lit (k := 0) rfl rfl fun z44 hz44 => ?_
            refine Ev.step (j := 79) (s' := ([some (.ref 69), some (.int z2), some (.int z24), some (.int z43), some (.int z44)], [], (0, 0), hp31)) rfl rfl ?_
            have INV : (z43.toInt = 1 ↔ fnd s.nm 6 (s.h 1) (tok B n lim (i + 1)).v ≠ fnd s.nm 6 (s.h 1) (tok B n lim (i + 2)).v ∧ ∀ j : Nat, (j : Int) < z44.toInt → ¬ (s.h (60 + j) = fnd s.nm 6 (s.h 1) (tok B n lim (i + 1)).v ∧ s.h (80 + j) = fnd s.nm 6 (s.h 1) (tok B n lim (i + 2)).v)) := ⟨fun e => ⟨by omega, fun j hj => absurd hj (by omega)⟩, fun h => by have h1 := h.1; omega⟩
            refine bs_loop (ι := Int32 × Int32) (fun ⟨k45, k46⟩ => ([some (.ref 69), some (.int z2), some (.int z24), some (.int k45), some (.int k46)], [], (0, 0), hp31)) (fun ⟨k45, k46⟩ => (0 ≤ k45.toInt ∧ k45.toInt ≤ 1 ∧ 0 ≤ k46.toInt ∧ k46.toInt ≤ 20 ∧ k46.toInt ≤ z2.toInt) ∧ ((k45.toInt = 1 ↔ fnd s.nm 6 (s.h 1) (tok B n lim (i + 1)).v ≠ fnd s.nm 6 (s.h 1) (tok B n lim (i + 2)).v ∧ ∀ j : Nat, (j : Int) < k46.toInt → ¬ (s.h (60 + j) = fnd s.nm 6 (s.h 1) (tok B n lim (i + 1)).v ∧ s.h (80 + j) = fnd s.nm 6 (s.h 1) (tok B n lim (i + 2)).v)))) (fun ⟨k45, k46⟩ => (20 - k46.toInt).toNat) ?_ (z43, z44) ⟨(by first | omega | assumption), (by exact INV)⟩
            rintro ⟨k45, k46⟩ ⟨i48, i49⟩ ih47
            clear INV
            refine (show Ev _ 79 ([some (.ref 69), some (.int z2), some (.int z24), some (.int k45), some (.int k46)], [], (0, 0), hp31) _ from ?_)
            refine Ev.step (j := 81) (s' := ([some (.ref 69), some (.int z2), some (.int z24), some (.int k45), some (.int k46)], [.int k46], (0, 0), hp31)) rfl rfl ?_
            refine Ev.step (j := 82) (s' := ([some (.ref 69), some (.int z2), some (.int z24), some (.int k45), some (.int k46)], [.int z2, .int k46], (0, 0), hp31)) rfl rfl ?_
            refine bs_ge rfl (fun c50 => ?_) (fun c50 => ?_)
            · skip
              refine Ev.step (j := 133) (s' := ([some (.ref 69), some (.int z2), some (.int z24), some (.int k45), some (.int k46)], [.int k45], (0, 0), hp31)) rfl rfl ?_
              refine bs_ifne rfl (fun c51 => ?_) (fun c51 => ?_)
              · skip
                refine Ev.step (j := 143) (s' := ([some (.ref 69), some (.int z2), some (.int z24), some (.int k45), some (.int k46)], [.ref 69], (0, 0), hp31)) rfl rfl ?_
                refine bs_getU (g := 11) (g1 := 133) rfl rfl Hhp31 (bs_R.uq Hhp31 (g := 11) rfl) (by decide) rfl rfl ?_
                refine bs_lit (k := 60) rfl rfl fun z52 hz52 => ?_
                refine Ev.step (j := 149) (s' := ([some (.ref 69), some (.int z2), some (.int z24), some (.int k45), some (.int k46)], [.int z2, .int z52, .ref 72], (0, 0), hp31)) rfl rfl ?_
                first | (refine bs_add rfl (by omega) (by omega) fun z53 hz53 => ?_) | (refine bs_any rfl fun z53 => ?_)
                have rz53 := n_range z53
                refine Ev.step (j := 151) (s' := ([some (.ref 69), some (.int z2), some (.int z24), some (.int k45), some (.int k46)], [.int z24, .int z53, .ref 72], (0, 0), hp31)) rfl rfl ?_
                refine bs_stv (W := [(133, 60, 79)]) (g := 133) 60 79 (0, 7) rfl Hhp31 (bs_R.uq Hhp31 (g := 133) rfl) (by decide) rfl rfl (by decide) rfl rfl (by omega) (by omega) (by dsimp only; omega) (by dsimp only; omega) fun hp54 Hhp54 fhp54 rhp54 ehp54 qhp54 nhp54 => ?_
                have Fhp54 := sf_fr_tr Fhp31 (sf_fr_wider (W := [(11, 4, 4), (11, 11, 18), (133, 0, 119)]) rfl fhp54)
                have h55 : sf_rd hp54 72 3 = some z2.toInt := (ehp54 _ _ (Or.inr (by omega))).trans h33
                have h56 : sf_rd hp54 72 1 = some z13.toInt := (ehp54 _ _ (Or.inr (by omega))).trans h34
                have h57 : sf_rd hp54 69 18 = some (fnd s.nm 6 (s.h 1) (tok B n lim (i + 2)).v) := (ehp54 _ _ (Or.inl (by decide))).trans Y3X36
                have K58 := RK_keep Hhp31 fhp54 rfl rfl (nhp54 _ _) Y4X36
                have R59 := RES_fr Hhp31 fhp54 rfl R37
                refine Ev.step (j := 153) (s' := ([some (.ref 69), some (.int z2), some (.int z24), some (.int k45), some (.int k46)], [.ref 69], (0, 0), hp54)) rfl rfl ?_
                refine bs_getU (g := 11) (g1 := 133) rfl rfl Hhp54 (bs_R.uq Hhp54 (g := 11) rfl) (by decide) rfl rfl ?_
                refine bs_lit (k := 80) rfl rfl fun z60 hz60 => ?_
                refine Ev.step (j := 159) (s' := ([some (.ref 69), some (.int z2), some (.int z24), some (.int k45), some (.int k46)], [.int z2, .int z60, .ref 72], (0, 0), hp54)) rfl rfl ?_
                first | (refine bs_add rfl (by omega) (by omega) fun z61 hz61 => ?_) | (refine bs_any rfl fun z61 => ?_)
                have rz61 := n_range z61
                refine Ev.step (j := 161) (s' := ([some (.ref 69), some (.int z2), some (.int z24), some (.int k45), some (.int k46)], [.ref 69, .int z61, .ref 72], (0, 0), hp54)) rfl rfl ?_
                refine bs_getI 11 rfl rfl rfl Hhp54 (bs_R.uq Hhp54 (g := 11) rfl) (by decide) rfl fun z62 hz62 lz62 gz62 => ?_
                have e63 : z62.toInt = (fnd s.nm 6 (s.h 1) (tok B n lim (i + 2)).v) := Option.some.inj (hz62.symm.trans h57)
                refine bs_stv (W := [(133, 80, 99)]) (g := 133) 80 99 (0, 7) rfl Hhp54 (bs_R.uq Hhp54 (g := 133) rfl) (by decide) rfl rfl (by decide) rfl rfl (by omega) (by omega) (by dsimp only; omega) (by dsimp only; omega) fun hp64 Hhp64 fhp64 rhp64 ehp64 qhp64 nhp64 => ?_
                have Fhp64 := sf_fr_tr Fhp54 (sf_fr_wider (W := [(11, 4, 4), (11, 11, 18), (133, 0, 119)]) rfl fhp64)
                have h65 : sf_rd hp64 72 3 = some z2.toInt := (ehp64 _ _ (Or.inr (by omega))).trans h55
                have h66 : sf_rd hp64 72 1 = some z13.toInt := (ehp64 _ _ (Or.inr (by omega))).trans h56
                have h67 : sf_rd hp64 69 18 = some (fnd s.nm 6 (s.h 1) (tok B n lim (i + 2)).v) := (ehp64 _ _ (Or.inl (by decide))).trans h57
                have K68 := RK_keep Hhp54 fhp64 rfl rfl (nhp64 _ _) K58
                have R69 := RES_fr Hhp54 fhp64 rfl R59
                refine Ev.step (j := 166) (s' := ([some (.ref 69), some (.int z2), some (.int z24), some (.int k45), some (.int k46)], [.ref 69], (0, 0), hp64)) rfl rfl ?_
                refine bs_callx (K := kq_X11_next_v) [.ref 69] [] rfl ce_X11_next_v Hhp64 rfl rfl rfl (bs_rcv (g := 11) Hhp64 (bs_R.uq Hhp64 (g := 11) rfl) (by decide) rfl) rfl ?_ (sf_S_nil) fun r70 hp71 thp71 Hhp71 fhp71 ahp71 php71 xhp71 => ?_
                · intro q k h
                  match q, h with
                  | 0, h => cases h; exact bs_jR (bs_R.uq Hhp64 (g := 11) rfl)
                  | q + 1, h => cases h
                obtain rfl := ahp71.1 rfl
                have Fhp71 := sf_fr_tr Fhp64 (sf_fr_wider (W := [(11, 4, 4), (11, 11, 18), (133, 0, 119)]) rfl fhp71)
                have h72 : sf_rd hp71 72 3 = some z2.toInt := (fhp71.2.2.1 _ (bs_R.uq Hhp64 (g := 133) (p := 72) rfl).1 _ (by rw [(bs_R.uq Hhp64 (g := 133) (p := 72) rfl).2]; rfl)).trans h65
                have h73 : sf_rd hp71 72 1 = some z13.toInt := (fhp71.2.2.1 _ (bs_R.uq Hhp64 (g := 133) (p := 72) rfl).1 _ (by rw [(bs_R.uq Hhp64 (g := 133) (p := 72) rfl).2]; rfl)).trans h66
                have h74 : sf_rd hp71 69 18 = some (fnd s.nm 6 (s.h 1) (tok B n lim (i + 2)).v) := (fhp71.2.2.1 _ (bs_R.uq Hhp64 (g := 11) (p := 69) rfl).1 _ (by rw [(bs_R.uq Hhp64 (g := 11) (p := 69) rfl).2]; rfl)).trans h67
                have h75 : sf_rd hp71 72 z61.toInt.toNat = some z62.toInt := (fhp71.2.2.1 _ (bs_R.uq Hhp64 (g := 133) (p := 72) rfl).1 _ (by rw [(bs_R.uq Hhp64 (g := 133) (p := 72) rfl).2]; rfl)).trans rhp64
                refine (show Ev _ 169 ([some (.ref 69), some (.int z2), some (.int z24), some (.int k45), some (.int k46)], [], (0, 0), hp71) _ from ?_)
                have K76 := (RK_next Hhp64 fhp71 rfl rfl rfl xhp71 K68).1
                have R77 := RES_fr Hhp64 fhp71 rfl R69
                refine Ev.step (j := 170) (s' := ([some (.ref 69), some (.int z2), some (.int z24), some (.int k45), some (.int k46)], [.ref 69], (0, 0), hp71)) rfl rfl ?_
                refine bs_lit (k := 100) rfl rfl fun z78 hz78 => ?_
                refine Ev.step (j := 173) (s' := ([some (.ref 69), some (.int z2), some (.int z24), some (.int k45), some (.int k46)], [.int z2, .int z78, .ref 69], (0, 0), hp71)) rfl rfl ?_
                first | (refine bs_add rfl (by omega) (by omega) fun z79 hz79 => ?_) | (refine bs_any rfl fun z79 => ?_)
                have rz79 := n_range z79
                refine bs_lit (k := 0) rfl rfl fun z80 hz80 => ?_
                refine bs_lit (k := 60) rfl rfl fun z81 hz81 => ?_
                refine bs_callx (K := kq_X11_puts_v3) [.ref 69, .int z79, .int z80, .int z81] [] rfl ce_X11_puts_v3 Hhp71 rfl rfl rfl (bs_rcv (g := 11) Hhp71 (bs_R.uq Hhp71 (g := 11) rfl) (by decide) rfl) rfl ?_ (sf_S_cons (sf_s1 (x := z79.toInt) rfl (by omega) (by omega)) (sf_S_cons (sf_s1 (x := z80.toInt) rfl (by omega) (by omega)) (sf_S_cons (sf_s1 (x := z81.toInt) rfl (by omega) (by omega)) (sf_S_nil)))) fun r82 hp83 thp83 Hhp83 fhp83 ahp83 php83 xhp83 => ?_
                · intro q k h
                  match q, h with
                  | 0, h => cases h; exact bs_jR (bs_R.uq Hhp71 (g := 11) rfl)
                  | 1, h => cases h; exact sf_j0
                  | 2, h => cases h; exact sf_j0
                  | 3, h => cases h; exact sf_j0
                  | q + 4, h => cases h
                obtain ⟨z84, rfl⟩ := bs_anI ahp83
                have rgz84 := n_range z84
                have Fhp83 := sf_fr_tr Fhp71 (sf_fr_wider (W := [(11, 4, 4), (11, 11, 18), (133, 0, 119)]) rfl fhp83)
                have h85 : sf_rd hp83 72 3 = some z2.toInt := (fhp83.2.2.1 _ (bs_R.uq Hhp71 (g := 133) (p := 72) rfl).1 _ (by rw [(bs_R.uq Hhp71 (g := 133) (p := 72) rfl).2]; rfl)).trans h72
                have h86 : sf_rd hp83 72 1 = some z13.toInt := (fhp83.2.2.1 _ (bs_R.uq Hhp71 (g := 133) (p := 72) rfl).1 _ (by rw [(bs_R.uq Hhp71 (g := 133) (p := 72) rfl).2]; rfl)).trans h73
                obtain ⟨uz84, vz84⟩ := bs_s1 (x := z84.toInt) rfl (php83 _ (List.mem_of_getElem? (i := 0) rfl))
                refine (show Ev _ 180 ([some (.ref 69), some (.int z2), some (.int z24), some (.int k45), some (.int k46)], [.int z84], (0, 0), hp83) _ from ?_)
                obtain ⟨q87, rq87, X88⟩ := xhp83 _ _ _ B n lim (i + 3) rfl K76
                obtain rfl := Value.int.inj (Option.some.inj rq87)
                refine bs_ifne rfl (fun c89 => ?_) (fun c89 => ?_)
                · skip
                  refine Ev.step (j := 186) (s' := ([some (.ref 69), some (.int z2), some (.int z24), some (.int k45), some (.int k46)], [.ref 69], (0, 0), hp83)) rfl rfl ?_
                  refine bs_getU (g := 11) (g1 := 133) rfl rfl Hhp83 (bs_R.uq Hhp83 (g := 11) rfl) (by decide) rfl rfl ?_
                  refine bs_lit (k := 3) rfl rfl fun z90 hz90 => ?_
                  refine Ev.step (j := 191) (s' := ([some (.ref 69), some (.int z2), some (.int z24), some (.int k45), some (.int k46)], [.int z90, .ref 72, .int z90, .ref 72], (0, 0), hp83)) rfl rfl ?_
                  refine bs_ld (g := 133) 3 3 (0, 20) rfl Hhp83 (bs_R.uq Hhp83 (g := 133) rfl) (by decide) rfl (by decide) (by decide) rfl (by decide) (by omega) (by omega) fun z91 hz91 lz91 gz91 => ?_
                  dsimp only at lz91 gz91
                  replace hz91 := bs_at hz91 (show z90.toInt.toNat = 3 by omega)
                  have e92 : z91.toInt = z2.toInt := Option.some.inj (hz91.symm.trans h85)
                  refine bs_lit (k := 1) rfl rfl fun z93 hz93 => ?_
                  first | (refine bs_add rfl (by omega) (by omega) fun z94 hz94 => ?_) | (refine bs_any rfl fun z94 => ?_)
                  have rz94 := n_range z94
                  refine bs_stv (W := [(133, 3, 3)]) (g := 133) 3 3 (0, 20) rfl Hhp83 (bs_R.uq Hhp83 (g := 133) rfl) (by decide) rfl rfl (by decide) rfl rfl (by omega) (by omega) (by dsimp only; omega) (by dsimp only; omega) fun hp95 Hhp95 fhp95 rhp95 ehp95 qhp95 nhp95 => ?_
                  replace rhp95 := bs_at rhp95 (show z90.toInt.toNat = 3 by omega)
                  have Fhp95 := sf_fr_tr Fhp83 (sf_fr_wider (W := [(11, 4, 4), (11, 11, 18), (133, 0, 119)]) rfl fhp95)
                  have h96 : sf_rd hp95 72 1 = some z13.toInt := (ehp95 _ _ (Or.inr (by omega))).trans h86
                  refine bs_lit (k := 1) rfl rfl fun z97 hz97 => ?_
                  exact bs_zret rfl rfl (by omega) (by omega) (by rw [hQ]; exact ⟨thp83, Hhp95, Fhp95, bs_an0, sf_S_cons (sf_s1 (x := z97.toInt) rfl (by omega) (by omega)) (sf_S_nil), (fun _ => by
                          skip
                          rw [show lnMiss (tok B n lim) s i = _ from if_neg (by omega)]
                          rw [lold_o Y1X20 (by omega)]
                          rw [lold_o Y1X36 (by omega)]
                          obtain ⟨M1, M2⟩ := i49.mp (by omega)
                          rw [if_neg (fun h => h.elim M1 (fun e => by obtain ⟨j, j1, j2, j3⟩ := (mtold_iff _).mp e; exact M2 j (by omega) ⟨j2, j3⟩))]
                          obtain ⟨V0, V1, V2, V3, V4, V5, V6⟩ := X88.resolve_right (fun h => absurd h.1 (by omega))
                          rw [lnum_o V1 (by omega) (by omega)]
                          have EQ : z79.toInt.toNat = 100 + (s.h 3).toNat := by omega
                          rw [EQ] at V4 V5
                          exact RRES_ok ⟨z97, rfl, by omega⟩ (SR_miss S38 (by omega) (by omega) (rhp95.trans (congrArg some (by omega))) ((ehp95 _ _ (Or.inr (by omega))).trans ((V5 (60 + (s.h 3).toNat) (by omega)).trans ((fhp71.2.2.1 _ (bs_R.uq Hhp64 (g := 133) (p := 72) rfl).1 _ (by rw [(bs_R.uq Hhp64 (g := 133) (p := 72) rfl).2]; rfl)).trans ((ehp64 _ _ (Or.inr (by omega))).trans ((bs_at rhp54 (show z53.toInt.toNat = 60 + (s.h 3).toNat by omega)).trans (congrArg some (by omega))))))) ((ehp95 _ _ (Or.inr (by omega))).trans ((V5 (80 + (s.h 3).toNat) (by omega)).trans ((fhp71.2.2.1 _ (bs_R.uq Hhp64 (g := 133) (p := 72) rfl).1 _ (by rw [(bs_R.uq Hhp64 (g := 133) (p := 72) rfl).2]; rfl)).trans ((bs_at rhp64 (show z61.toInt.toNat = 80 + (s.h 3).toNat by omega)).trans (congrArg some (by omega)))))) ((ehp95 _ _ (Or.inr (by omega))).trans V4) (fun q h1 h2 h3 h4 => (ehp95 _ _ (Or.inr (by omega))).trans ((V5 q h4).trans (((fhp71.2.2.1 _ (bs_R.uq Hhp64 (g := 133) (p := 72) rfl).1 _ (by rw [(bs_R.uq Hhp64 (g := 133) (p := 72) rfl).2]; rfl)).trans ((ehp64 _ _ (Or.inr (by omega))).trans (ehp54 _ _ (Or.inr (by omega)))))))) (((ehp95 _ _ (Or.inl (by decide))).trans ((fhp83.2.2.1 _ (bs_R.uq Hhp71 (g := 11) (p := 69) rfl).1 _ (by rw [(bs_R.uq Hhp71 (g := 11) (p := 69) rfl).2]; rfl)).trans ((fhp71.2.2.1 _ (bs_R.uq Hhp64 (g := 11) (p := 69) rfl).1 _ (by rw [(bs_R.uq Hhp64 (g := 11) (p := 69) rfl).2]; rfl)).trans ((ehp64 _ _ (Or.inl (by decide))).trans (ehp54 _ _ (Or.inl (by decide)))))))) (((fhp95.2.2.2.1 _ (bs_R.uq Hhp83 (g := 137) rfl).1 (by rw [(bs_R.uq Hhp83 (g := 137) rfl).2]; rfl)).trans ((fhp83.2.2.2.1 _ (bs_R.uq Hhp71 (g := 137) (p := 76) rfl).1 (by rw [(bs_R.uq Hhp71 (g := 137) (p := 76) rfl).2]; rfl)).trans ((fhp71.2.2.2.1 _ (bs_R.uq Hhp64 (g := 137) (p := 76) rfl).1 (by rw [(bs_R.uq Hhp64 (g := 137) (p := 76) rfl).2]; rfl)).trans ((fhp64.2.2.2.1 _ (bs_R.uq Hhp54 (g := 137) rfl).1 (by rw [(bs_R.uq Hhp54 (g := 137) rfl).2]; rfl)).trans (fhp54.2.2.2.1 _ (bs_R.uq Hhp31 (g := 137) rfl).1 (by rw [(bs_R.uq Hhp31 (g := 137) rfl).2]; rfl))))))) (((fhp95.2.2.2.1 _ (bs_R.uq Hhp83 (g := 135) rfl).1 (by rw [(bs_R.uq Hhp83 (g := 135) rfl).2]; rfl)).trans ((fhp83.2.2.2.1 _ (bs_R.uq Hhp71 (g := 135) (p := 74) rfl).1 (by rw [(bs_R.uq Hhp71 (g := 135) (p := 74) rfl).2]; rfl)).trans ((fhp71.2.2.2.1 _ (bs_R.uq Hhp64 (g := 135) (p := 74) rfl).1 (by rw [(bs_R.uq Hhp64 (g := 135) (p := 74) rfl).2]; rfl)).trans ((fhp64.2.2.2.1 _ (bs_R.uq Hhp54 (g := 135) rfl).1 (by rw [(bs_R.uq Hhp54 (g := 135) rfl).2]; rfl)).trans (fhp54.2.2.2.1 _ (bs_R.uq Hhp31 (g := 135) rfl).1 (by rw [(bs_R.uq Hhp31 (g := 135) rfl).2]; rfl)))))))) (RK_keep Hhp83 fhp95 rfl rfl (nhp95 _ _) V6))⟩)
                · skip
                  have c98 : z84.toInt = 0 := by omega
                  refine bs_lit (k := 0) rfl rfl fun z99 hz99 => ?_
                  exact bs_zret rfl rfl (by omega) (by omega) (by rw [hQ]; exact ⟨thp83, Hhp83, Fhp83, bs_an0, sf_S_cons (sf_s1 (x := z99.toInt) rfl (by omega) (by omega)) (sf_S_nil), (fun _ => by
                          skip
                          rw [show lnMiss (tok B n lim) s i = _ from if_neg (by omega)]
                          rw [lold_o Y1X20 (by omega)]
                          rw [lold_o Y1X36 (by omega)]
                          obtain ⟨M1, M2⟩ := i49.mp (by omega)
                          rw [if_neg (fun h => h.elim M1 (fun e => by obtain ⟨j, j1, j2, j3⟩ := (mtold_iff _).mp e; exact M2 j (by omega) ⟨j2, j3⟩))]
                          rcases X88.resolve_left (fun h => absurd h.1 (by omega)) with ⟨Y0, P1, ⟨P2, P3⟩ | ⟨⟨P2, P4⟩, P3⟩⟩
                          · rw [lnum_1 P2]
                            exact RRES_bad ⟨z99, rfl, by omega⟩ P3 P1
                          · rw [lnum_2 P2 (by omega)]
                            exact RRES_bad ⟨z99, rfl, by omega⟩ P3 P1)⟩)
              · skip
                have c100 : k45.toInt = 0 := by omega
                refine Ev.step (j := 137) (s' := ([some (.ref 69), some (.int z2), some (.int z24), some (.int k45), some (.int k46)], [.ref 69], (0, 0), hp31)) rfl rfl ?_
                refine bs_lit (k := 3) rfl rfl fun z101 hz101 => ?_
                refine Ev.inl (L := L_X11_bad) (nL := 2) rfl (bs_rcv (g := 11) Hhp31 (bs_R.uq Hhp31 (g := 11) rfl) (by decide) rfl) rfl (Nat.le_of_ble_eq_true rfl) ?_
                generalize hQ102 : (fun (o : ab_O) => Ev _ _ _ _) = Q102
                refine (show Ev (ab_T L_X11_bad) 0 ([some (.ref 69), some (.int z101)], [], (0, 0), hp31) Q102 from ?_)
                refine Ev.step (j := 1) (s' := ([some (.ref 69), some (.int z101)], [.ref 69], (0, 0), hp31)) rfl rfl ?_
                refine Ev.step (j := 2) (s' := ([some (.ref 69), some (.int z101)], [.int z101, .ref 69], (0, 0), hp31)) rfl rfl ?_
                refine bs_putIv (W := [(11, 15, 15)]) (g := 11) rfl rfl Hhp31 (bs_R.uq Hhp31 (g := 11) rfl) (by decide) rfl rfl rfl rfl (Or.inl rfl) (by omega) (by omega) fun hp103 Hhp103 fhp103 rhp103 ehp103 qhp103 nhp103 => ?_
                have Fhp103 := sf_fr_tr Fhp31 (sf_fr_wider (W := [(11, 4, 4), (11, 11, 18), (133, 0, 119)]) rfl fhp103)
                have h104 : sf_rd hp103 72 3 = some z2.toInt := (ehp103 _ _ (Or.inl (by decide))).trans h33
                have h105 : sf_rd hp103 72 1 = some z13.toInt := (ehp103 _ _ (Or.inl (by decide))).trans h34
                have h106 : sf_rd hp103 69 18 = some (fnd s.nm 6 (s.h 1) (tok B n lim (i + 2)).v) := (ehp103 _ _ (Or.inr (by omega))).trans Y3X36
                refine Ev.step (j := 6) (s' := ([some (.ref 69), some (.int z101)], [.ref 69], (0, 0), hp103)) rfl rfl ?_
                refine Ev.step (j := 7) (s' := ([some (.ref 69), some (.int z101)], [.ref 69, .ref 69], (0, 0), hp103)) rfl rfl ?_
                refine bs_getI 11 rfl rfl rfl Hhp103 (bs_R.uq Hhp103 (g := 11) rfl) (by decide) rfl fun z107 hz107 lz107 gz107 => ?_
                refine bs_putIv (W := [(11, 16, 16)]) (g := 11) rfl rfl Hhp103 (bs_R.uq Hhp103 (g := 11) rfl) (by decide) rfl rfl rfl rfl (Or.inl rfl) (by omega) (by omega) fun hp108 Hhp108 fhp108 rhp108 ehp108 qhp108 nhp108 => ?_
                have Fhp108 := sf_fr_tr Fhp103 (sf_fr_wider (W := [(11, 4, 4), (11, 11, 18), (133, 0, 119)]) rfl fhp108)
                have h109 : sf_rd hp108 72 3 = some z2.toInt := (ehp108 _ _ (Or.inl (by decide))).trans h104
                have h110 : sf_rd hp108 72 1 = some z13.toInt := (ehp108 _ _ (Or.inl (by decide))).trans h105
                have h111 : sf_rd hp108 69 18 = some (fnd s.nm 6 (s.h 1) (tok B n lim (i + 2)).v) := (ehp108 _ _ (Or.inr (by omega))).trans h106
                have h112 : sf_rd hp108 69 15 = some z101.toInt := (ehp108 _ _ (Or.inr (by omega))).trans rhp103
                have h113 : sf_rd hp108 69 12 = some z107.toInt := (ehp108 _ _ (Or.inr (by omega))).trans hz107
                refine bs_lit (k := 0) rfl rfl fun z114 hz114 => ?_
                refine bs_zret rfl rfl (by omega) (by omega) ?_
                rw [← hQ102]
                refine (show Ev _ 141 ([some (.ref 69), some (.int z2), some (.int z24), some (.int k45), some (.int k46)], [.int z114], (0, 0), hp108) _ from ?_)
                exact bs_zret rfl rfl (by omega) (by omega) (by rw [hQ]; exact ⟨thp31, Hhp108, Fhp108, bs_an0, sf_S_cons (sf_s1 (x := z114.toInt) rfl (by omega) (by omega)) (sf_S_nil), (fun _ => by
                        skip
                        rw [show lnMiss (tok B n lim) s i = _ from if_neg (by omega)]
                        rw [lold_o Y1X20 (by omega)]
                        rw [lold_o Y1X36 (by omega)]
                        rw [if_pos (by rcases Decidable.em (fnd s.nm 6 (s.h 1) (tok B n lim (i + 1)).v = fnd s.nm 6 (s.h 1) (tok B n lim (i + 2)).v) with e | e; exact Or.inl e; exact Or.inr ((mtold_iff _).mpr (Classical.byContradiction fun hn => absurd (i49.mpr ⟨e, fun j hj hh => hn ⟨j, by omega, hh.1, hh.2⟩⟩) (by omega))))]
                        have PL : z107.toInt = (tok B n lim (i + 2)).pl := Option.some.inj (hz107.symm.trans (((ehp103 _ _ (Or.inr (by omega)))).trans (RK_pl Y4X36)))
                        exact RRES_bad ⟨z114, rfl, by omega⟩ (h112.trans (congrArg some (by omega))) (rhp108.trans (congrArg some PL)))⟩)
            · skip
              refine Ev.step (j := 86) (s' := ([some (.ref 69), some (.int z2), some (.int z24), some (.int k45), some (.int k46)], [.int k45], (0, 0), hp31)) rfl rfl ?_
              refine bs_ifeq rfl (fun c115 => ?_) (fun c115 => ?_)
              · skip
                have c116 : k45.toInt = 0 := by omega
                refine bs_lit (k := 0) rfl rfl fun z117 hz117 => ?_
                refine Ev.step (j := 126) (s' := ([some (.ref 69), some (.int z2), some (.int z24), some (.int z117), some (.int k46)], [], (0, 0), hp31)) rfl rfl ?_
                refine bs_iinc (1) rfl rfl rfl rfl (by omega) (by omega) fun z118 hz118 => ?_
                refine (show Ev _ 129 ([some (.ref 69), some (.int z2), some (.int z24), some (.int z117), some (.int z118)], [], (0, 0), hp31) _ from ?_)
                refine Ev.step (j := 79) (s' := ([some (.ref 69), some (.int z2), some (.int z24), some (.int z117), some (.int z118)], [], (0, 0), hp31)) rfl rfl ?_
                have INV : (z117.toInt = 1 ↔ fnd s.nm 6 (s.h 1) (tok B n lim (i + 1)).v ≠ fnd s.nm 6 (s.h 1) (tok B n lim (i + 2)).v ∧ ∀ j : Nat, (j : Int) < z118.toInt → ¬ (s.h (60 + j) = fnd s.nm 6 (s.h 1) (tok B n lim (i + 1)).v ∧ s.h (80 + j) = fnd s.nm 6 (s.h 1) (tok B n lim (i + 2)).v)) := ⟨fun e => absurd e (by omega), fun h => by have := i49.mpr ⟨h.1, fun j hj => h.2 j (by omega)⟩; omega⟩
                refine ih47 (z117, z118) ⟨(by first | omega | assumption), (by exact INV)⟩ ?_
                show (20 - z118.toInt).toNat < (20 - k46.toInt).toNat
                omega
              · skip
                refine Ev.step (j := 90) (s' := ([some (.ref 69), some (.int z2), some (.int z24), some (.int k45), some (.int k46)], [.ref 69], (0, 0), hp31)) rfl rfl ?_
                refine bs_getU (g := 11) (g1 := 133) rfl rfl Hhp31 (bs_R.uq Hhp31 (g := 11) rfl) (by decide) rfl rfl ?_
                refine bs_lit (k := 60) rfl rfl fun z119 hz119 => ?_
                refine Ev.step (j := 97) (s' := ([some (.ref 69), some (.int z2), some (.int z24), some (.int k45), some (.int k46)], [.int k46, .int z119, .ref 72], (0, 0), hp31)) rfl rfl ?_
                first | (refine bs_add rfl (by omega) (by omega) fun z120 hz120 => ?_) | (refine bs_any rfl fun z120 => ?_)
                have rz120 := n_range z120
                refine bs_ld (g := 133) 60 79 (0, 7) rfl Hhp31 (bs_R.uq Hhp31 (g := 133) rfl) (by decide) rfl (by decide) (by decide) rfl (by decide) (by omega) (by omega) fun z121 hz121 lz121 gz121 => ?_
                dsimp only at lz121 gz121
                have V6 : z121.toInt = s.h (60 + k46.toInt.toNat) := Option.some.inj (hz121.symm.trans (bs_at (S38.1 (60 + k46.toInt.toNat) (by omega)) (by omega)))
                refine Ev.step (j := 100) (s' := ([some (.ref 69), some (.int z2), some (.int z24), some (.int k45), some (.int k46)], [.int z24, .int z121], (0, 0), hp31)) rfl rfl ?_
                refine bs_ne rfl (fun c122 => ?_) (fun c122 => ?_)
                · skip
                  refine bs_lit (k := 1) rfl rfl fun z123 hz123 => ?_
                  refine Ev.step (j := 125) (s' := ([some (.ref 69), some (.int z2), some (.int z24), some (.int k45), some (.int k46)], [.int z123], (0, 0), hp31)) rfl rfl ?_
                  refine Ev.step (j := 126) (s' := ([some (.ref 69), some (.int z2), some (.int z24), some (.int z123), some (.int k46)], [], (0, 0), hp31)) rfl rfl ?_
                  refine bs_iinc (1) rfl rfl rfl rfl (by omega) (by omega) fun z124 hz124 => ?_
                  refine (show Ev _ 129 ([some (.ref 69), some (.int z2), some (.int z24), some (.int z123), some (.int z124)], [], (0, 0), hp31) _ from ?_)
                  refine Ev.step (j := 79) (s' := ([some (.ref 69), some (.int z2), some (.int z24), some (.int z123), some (.int z124)], [], (0, 0), hp31)) rfl rfl ?_
                  have INV : (z123.toInt = 1 ↔ fnd s.nm 6 (s.h 1) (tok B n lim (i + 1)).v ≠ fnd s.nm 6 (s.h 1) (tok B n lim (i + 2)).v ∧ ∀ j : Nat, (j : Int) < z124.toInt → ¬ (s.h (60 + j) = fnd s.nm 6 (s.h 1) (tok B n lim (i + 1)).v ∧ s.h (80 + j) = fnd s.nm 6 (s.h 1) (tok B n lim (i + 2)).v)) := ⟨fun _ => ⟨(i49.mp (by omega)).1, fun j hj => by rcases (show (j : Int) < k46.toInt ∨ j = k46.toInt.toNat by omega) with g | g; exact (i49.mp (by omega)).2 j g; rw [g]; intro h; have h1 := h.1; have h2 := h.2; omega⟩, fun _ => by omega⟩
                  refine ih47 (z123, z124) ⟨(by first | omega | assumption), (by exact INV)⟩ ?_
                  show (20 - z124.toInt).toNat < (20 - k46.toInt).toNat
                  omega
                · skip
                  refine Ev.step (j := 104) (s' := ([some (.ref 69), some (.int z2), some (.int z24), some (.int k45), some (.int k46)], [.ref 69], (0, 0), hp31)) rfl rfl ?_
                  refine bs_getU (g := 11) (g1 := 133) rfl rfl Hhp31 (bs_R.uq Hhp31 (g := 11) rfl) (by decide) rfl rfl ?_
                  refine bs_lit (k := 80) rfl rfl fun z125 hz125 => ?_
                  refine Ev.step (j := 111) (s' := ([some (.ref 69), some (.int z2), some (.int z24), some (.int k45), some (.int k46)], [.int k46, .int z125, .ref 72], (0, 0), hp31)) rfl rfl ?_
                  first | (refine bs_add rfl (by omega) (by omega) fun z126 hz126 => ?_) | (refine bs_any rfl fun z126 => ?_)
                  have rz126 := n_range z126
                  refine bs_ld (g := 133) 80 99 (0, 7) rfl Hhp31 (bs_R.uq Hhp31 (g := 133) rfl) (by decide) rfl (by decide) (by decide) rfl (by decide) (by omega) (by omega) fun z127 hz127 lz127 gz127 => ?_
                  dsimp only at lz127 gz127
                  have V8 : z127.toInt = s.h (80 + k46.toInt.toNat) := Option.some.inj (hz127.symm.trans (bs_at (S38.1 (80 + k46.toInt.toNat) (by omega)) (by omega)))
                  refine Ev.step (j := 114) (s' := ([some (.ref 69), some (.int z2), some (.int z24), some (.int k45), some (.int k46)], [.ref 69, .int z127], (0, 0), hp31)) rfl rfl ?_
                  refine bs_getI 11 rfl rfl rfl Hhp31 (bs_R.uq Hhp31 (g := 11) rfl) (by decide) rfl fun z128 hz128 lz128 gz128 => ?_
                  have e129 : z128.toInt = (fnd s.nm 6 (s.h 1) (tok B n lim (i + 2)).v) := Option.some.inj (hz128.symm.trans Y3X36)
                  refine bs_eq rfl (fun c130 => ?_) (fun c130 => ?_)
                  · skip
                    refine bs_lit (k := 0) rfl rfl fun z131 hz131 => ?_
                    refine Ev.step (j := 126) (s' := ([some (.ref 69), some (.int z2), some (.int z24), some (.int z131), some (.int k46)], [], (0, 0), hp31)) rfl rfl ?_
                    refine bs_iinc (1) rfl rfl rfl rfl (by omega) (by omega) fun z132 hz132 => ?_
                    refine (show Ev _ 129 ([some (.ref 69), some (.int z2), some (.int z24), some (.int z131), some (.int z132)], [], (0, 0), hp31) _ from ?_)
                    refine Ev.step (j := 79) (s' := ([some (.ref 69), some (.int z2), some (.int z24), some (.int z131), some (.int z132)], [], (0, 0), hp31)) rfl rfl ?_
                    have INV : (z131.toInt = 1 ↔ fnd s.nm 6 (s.h 1) (tok B n lim (i + 1)).v ≠ fnd s.nm 6 (s.h 1) (tok B n lim (i + 2)).v ∧ ∀ j : Nat, (j : Int) < z132.toInt → ¬ (s.h (60 + j) = fnd s.nm 6 (s.h 1) (tok B n lim (i + 1)).v ∧ s.h (80 + j) = fnd s.nm 6 (s.h 1) (tok B n lim (i + 2)).v)) := ⟨fun e => absurd e (by omega), fun h => absurd ⟨by omega, by omega⟩ (h.2 k46.toInt.toNat (by omega))⟩
                    refine ih47 (z131, z132) ⟨(by first | omega | assumption), (by exact INV)⟩ ?_
                    show (20 - z132.toInt).toNat < (20 - k46.toInt).toNat
                    omega
                  · skip
                    refine bs_lit (k := 1) rfl rfl fun z133 hz133 => ?_
                    refine Ev.step (j := 125) (s' := ([some (.ref 69), some (.int z2), some (.int z24), some (.int k45), some (.int k46)], [.int z133], (0, 0), hp31)) rfl rfl ?_
                    refine Ev.step (j := 126) (s' := ([some (.ref 69), some (.int z2), some (.int z24), some (.int z133), some (.int k46)], [], (0, 0), hp31)) rfl rfl ?_
                    refine bs_iinc (1) rfl rfl rfl rfl (by omega) (by omega) fun z134 hz134 => ?_
                    refine (show Ev _ 129 ([some (.ref 69), some (.int z2), some (.int z24), some (.int z133), some (.int z134)], [], (0, 0), hp31) _ from ?_)
                    refine Ev.step (j := 79) (s' := ([some (.ref 69), some (.int z2), some (.int z24), some (.int z133), some (.int z134)], [], (0, 0), hp31)) rfl rfl ?_
                    have INV : (z133.toInt = 1 ↔ fnd s.nm 6 (s.h 1) (tok B n lim (i + 1)).v ≠ fnd s.nm 6 (s.h 1) (tok B n lim (i + 2)).v ∧ ∀ j : Nat, (j : Int) < z134.toInt → ¬ (s.h (60 + j) = fnd s.nm 6 (s.h 1) (tok B n lim (i + 1)).v ∧ s.h (80 + j) = fnd s.nm 6 (s.h 1) (tok B n lim (i + 2)).v)) := ⟨fun _ => ⟨(i49.mp (by omega)).1, fun j hj => by rcases (show (j : Int) < k46.toInt ∨ j = k46.toInt.toNat by omega) with g | g; exact (i49.mp (by omega)).2 j g; rw [g]; intro h; have h1 := h.1; have h2 := h.2; omega⟩, fun _ => by omega⟩
                    refine ih47 (z133, z134) ⟨(by first | omega | assumption), (by exact INV)⟩ ?_
                    show (20 - z134.toInt).toNat < (20 - k46.toInt).toNat
                    omega
          · skip
            refine bs_lit (k := 1) rfl rfl fun z135 hz135 => ?_
            refine Ev.step (j := 75) (s' := ([some (.ref 69), some (.int z2), some (.int z24), none, none], [.int z135], (0, 0), hp31)) rfl rfl ?_
            refine Ev.step (j := 76) (s' := ([some (.ref 69), some (.int z2), some (.int z24), some (.int z135), none], [], (0, 0), hp31)) rfl rfl ?_
            refine bs_lit (k := 0) rfl rfl fun z136 hz136 => ?_
            refine Ev.step (j := 79) (s' := ([some (.ref 69), some (.int z2), some (.int z24), some (.int z135), some (.int z136)], [], (0, 0), hp31)) rfl rfl ?_
            have INV : (z135.toInt = 1 ↔ fnd s.nm 6 (s.h 1) (tok B n lim (i + 1)).v ≠ fnd s.nm 6 (s.h 1) (tok B n lim (i + 2)).v ∧ ∀ j : Nat, (j : Int) < z136.toInt → ¬ (s.h (60 + j) = fnd s.nm 6 (s.h 1) (tok B n lim (i + 1)).v ∧ s.h (80 + j) = fnd s.nm 6 (s.h 1) (tok B n lim (i + 2)).v)) := ⟨fun e => ⟨by omega, fun j hj => absurd hj (by omega)⟩, fun h => by have h1 := h.1; omega⟩
            refine bs_loop (ι := Int32 × Int32) (fun ⟨k137, k138⟩ => ([some (.ref 69), some (.int z2), some (.int z24), some (.int k137), some (.int k138)], [], (0, 0), hp31)) (fun ⟨k137, k138⟩ => (0 ≤ k137.toInt ∧ k137.toInt ≤ 1 ∧ 0 ≤ k138.toInt ∧ k138.toInt ≤ 20 ∧ k138.toInt ≤ z2.toInt) ∧ ((k137.toInt = 1 ↔ fnd s.nm 6 (s.h 1) (tok B n lim (i + 1)).v ≠ fnd s.nm 6 (s.h 1) (tok B n lim (i + 2)).v ∧ ∀ j : Nat, (j : Int) < k138.toInt → ¬ (s.h (60 + j) = fnd s.nm 6 (s.h 1) (tok B n lim (i + 1)).v ∧ s.h (80 + j) = fnd s.nm 6 (s.h 1) (tok B n lim (i + 2)).v)))) (fun ⟨k137, k138⟩ => (20 - k138.toInt).toNat) ?_ (z135, z136) ⟨(by first | omega | assumption), (by exact INV)⟩
            rintro ⟨k137, k138⟩ ⟨i140, i141⟩ ih139
            clear INV
            refine (show Ev _ 79 ([some (.ref 69), some (.int z2), some (.int z24), some (.int k137), some (.int k138)], [], (0, 0), hp31) _ from ?_)
            refine Ev.step (j := 81) (s' := ([some (.ref 69), some (.int z2), some (.int z24), some (.int k137), some (.int k138)], [.int k138], (0, 0), hp31)) rfl rfl ?_
            refine Ev.step (j := 82) (s' := ([some (.ref 69), some (.int z2), some (.int z24), some (.int k137), some (.int k138)], [.int z2, .int k138], (0, 0), hp31)) rfl rfl ?_
            refine bs_ge rfl (fun c142 => ?_) (fun c142 => ?_)
            · skip
              refine Ev.step (j := 133) (s' := ([some (.ref 69), some (.int z2), some (.int z24), some (.int k137), some (.int k138)], [.int k137], (0, 0), hp31)) rfl rfl ?_
              refine bs_ifne rfl (fun c143 => ?_) (fun c143 => ?_)
              · skip
                refine Ev.step (j := 143) (s' := ([some (.ref 69), some (.int z2), some (.int z24), some (.int k137), some (.int k138)], [.ref 69], (0, 0), hp31)) rfl rfl ?_
                refine bs_getU (g := 11) (g1 := 133) rfl rfl Hhp31 (bs_R.uq Hhp31 (g := 11) rfl) (by decide) rfl rfl ?_
                refine bs_lit (k := 60) rfl rfl fun z144 hz144 => ?_
                refine Ev.step (j := 149) (s' := ([some (.ref 69), some (.int z2), some (.int z24), some (.int k137), some (.int k138)], [.int z2, .int z144, .ref 72], (0, 0), hp31)) rfl rfl ?_
                first | (refine bs_add rfl (by omega) (by omega) fun z145 hz145 => ?_) | (refine bs_any rfl fun z145 => ?_)
                have rz145 := n_range z145
                refine Ev.step (j := 151) (s' := ([some (.ref 69), some (.int z2), some (.int z24), some (.int k137), some (.int k138)], [.int z24, .int z145, .ref 72], (0, 0), hp31)) rfl rfl ?_
                refine bs_stv (W := [(133, 60, 79)]) (g := 133) 60 79 (0, 7) rfl Hhp31 (bs_R.uq Hhp31 (g := 133) rfl) (by decide) rfl rfl (by decide) rfl rfl (by omega) (by omega) (by dsimp only; omega) (by dsimp only; omega) fun hp146 Hhp146 fhp146 rhp146 ehp146 qhp146 nhp146 => ?_
                have Fhp146 := sf_fr_tr Fhp31 (sf_fr_wider (W := [(11, 4, 4), (11, 11, 18), (133, 0, 119)]) rfl fhp146)
                have h147 : sf_rd hp146 72 3 = some z2.toInt := (ehp146 _ _ (Or.inr (by omega))).trans h33
                have h148 : sf_rd hp146 72 1 = some z13.toInt := (ehp146 _ _ (Or.inr (by omega))).trans h34
                have h149 : sf_rd hp146 69 18 = some (fnd s.nm 6 (s.h 1) (tok B n lim (i + 2)).v) := (ehp146 _ _ (Or.inl (by decide))).trans Y3X36
                have K150 := RK_keep Hhp31 fhp146 rfl rfl (nhp146 _ _) Y4X36
                have R151 := RES_fr Hhp31 fhp146 rfl R37
                refine Ev.step (j := 153) (s' := ([some (.ref 69), some (.int z2), some (.int z24), some (.int k137), some (.int k138)], [.ref 69], (0, 0), hp146)) rfl rfl ?_
                refine bs_getU (g := 11) (g1 := 133) rfl rfl Hhp146 (bs_R.uq Hhp146 (g := 11) rfl) (by decide) rfl rfl ?_
                refine bs_lit (k := 80) rfl rfl fun z152 hz152 => ?_
                refine Ev.step (j := 159) (s' := ([some (.ref 69), some (.int z2), some (.int z24), some (.int k137), some (.int k138)], [.int z2, .int z152, .ref 72], (0, 0), hp146)) rfl rfl ?_
                first | (refine bs_add rfl (by omega) (by omega) fun z153 hz153 => ?_) | (refine bs_any rfl fun z153 => ?_)
                have rz153 := n_range z153
                refine Ev.step (j := 161) (s' := ([some (.ref 69), some (.int z2), some (.int z24), some (.int k137), some (.int k138)], [.ref 69, .int z153, .ref 72], (0, 0), hp146)) rfl rfl ?_
                refine bs_getI 11 rfl rfl rfl Hhp146 (bs_R.uq Hhp146 (g := 11) rfl) (by decide) rfl fun z154 hz154 lz154 gz154 => ?_
                have e155 : z154.toInt = (fnd s.nm 6 (s.h 1) (tok B n lim (i + 2)).v) := Option.some.inj (hz154.symm.trans h149)
                refine bs_stv (W := [(133, 80, 99)]) (g := 133) 80 99 (0, 7) rfl Hhp146 (bs_R.uq Hhp146 (g := 133) rfl) (by decide) rfl rfl (by decide) rfl rfl (by omega) (by omega) (by dsimp only; omega) (by dsimp only; omega) fun hp156 Hhp156 fhp156 rhp156 ehp156 qhp156 nhp156 => ?_
                have Fhp156 := sf_fr_tr Fhp146 (sf_fr_wider (W := [(11, 4, 4), (11, 11, 18), (133, 0, 119)]) rfl fhp156)
                have h157 : sf_rd hp156 72 3 = some z2.toInt := (ehp156 _ _ (Or.inr (by omega))).trans h147
                have h158 : sf_rd hp156 72 1 = some z13.toInt := (ehp156 _ _ (Or.inr (by omega))).trans h148
                have h159 : sf_rd hp156 69 18 = some (fnd s.nm 6 (s.h 1) (tok B n lim (i + 2)).v) := (ehp156 _ _ (Or.inl (by decide))).trans h149
                have K160 := RK_keep Hhp146 fhp156 rfl rfl (nhp156 _ _) K150
                have R161 := RES_fr Hhp146 fhp156 rfl R151
                refine Ev.step (j := 166) (s' := ([some (.ref 69), some (.int z2), some (.int z24), some (.int k137), some (.int k138)], [.ref 69], (0, 0), hp156)) rfl rfl ?_
                refine bs_callx (K := kq_X11_next_v) [.ref 69] [] rfl ce_X11_next_v Hhp156 rfl rfl rfl (bs_rcv (g := 11) Hhp156 (bs_R.uq Hhp156 (g := 11) rfl) (by decide) rfl) rfl ?_ (sf_S_nil) fun r162 hp163 thp163 Hhp163 fhp163 ahp163 php163 xhp163 => ?_
                · intro q k h
                  match q, h with
                  | 0, h => cases h; exact bs_jR (bs_R.uq Hhp156 (g := 11) rfl)
                  | q + 1, h => cases h
                obtain rfl := ahp163.1 rfl
                have Fhp163 := sf_fr_tr Fhp156 (sf_fr_wider (W := [(11, 4, 4), (11, 11, 18), (133, 0, 119)]) rfl fhp163)
                have h164 : sf_rd hp163 72 3 = some z2.toInt := (fhp163.2.2.1 _ (bs_R.uq Hhp156 (g := 133) (p := 72) rfl).1 _ (by rw [(bs_R.uq Hhp156 (g := 133) (p := 72) rfl).2]; rfl)).trans h157
                have h165 : sf_rd hp163 72 1 = some z13.toInt := (fhp163.2.2.1 _ (bs_R.uq Hhp156 (g := 133) (p := 72) rfl).1 _ (by rw [(bs_R.uq Hhp156 (g := 133) (p := 72) rfl).2]; rfl)).trans h158
                have h166 : sf_rd hp163 69 18 = some (fnd s.nm 6 (s.h 1) (tok B n lim (i + 2)).v) := (fhp163.2.2.1 _ (bs_R.uq Hhp156 (g := 11) (p := 69) rfl).1 _ (by rw [(bs_R.uq Hhp156 (g := 11) (p := 69) rfl).2]; rfl)).trans h159
                have h167 : sf_rd hp163 72 z153.toInt.toNat = some z154.toInt := (fhp163.2.2.1 _ (bs_R.uq Hhp156 (g := 133) (p := 72) rfl).1 _ (by rw [(bs_R.uq Hhp156 (g := 133) (p := 72) rfl).2]; rfl)).trans rhp156
                refine (show Ev _ 169 ([some (.ref 69), some (.int z2), some (.int z24), some (.int k137), some (.int k138)], [], (0, 0), hp163) _ from ?_)
                have K168 := (RK_next Hhp156 fhp163 rfl rfl rfl xhp163 K160).1
                have R169 := RES_fr Hhp156 fhp163 rfl R161
                refine Ev.step (j := 170) (s' := ([some (.ref 69), some (.int z2), some (.int z24), some (.int k137), some (.int k138)], [.ref 69], (0, 0), hp163)) rfl rfl ?_
                refine bs_lit (k := 100) rfl rfl fun z170 hz170 => ?_
                refine Ev.step (j := 173) (s' := ([some (.ref 69), some (.int z2), some (.int z24), some (.int k137), some (.int k138)], [.int z2, .int z170, .ref 69], (0, 0), hp163)) rfl rfl ?_
                first | (refine bs_add rfl (by omega) (by omega) fun z171 hz171 => ?_) | (refine bs_any rfl fun z171 => ?_)
                have rz171 := n_range z171
                refine bs_lit (k := 0) rfl rfl fun z172 hz172 => ?_
                refine bs_lit (k := 60) rfl rfl fun z173 hz173 => ?_
                refine bs_callx (K := kq_X11_puts_v3) [.ref 69, .int z171, .int z172, .int z173] [] rfl ce_X11_puts_v3 Hhp163 rfl rfl rfl (bs_rcv (g := 11) Hhp163 (bs_R.uq Hhp163 (g := 11) rfl) (by decide) rfl) rfl ?_ (sf_S_cons (sf_s1 (x := z171.toInt) rfl (by omega) (by omega)) (sf_S_cons (sf_s1 (x := z172.toInt) rfl (by omega) (by omega)) (sf_S_cons (sf_s1 (x := z173.toInt) rfl (by omega) (by omega)) (sf_S_nil)))) fun r174 hp175 thp175 Hhp175 fhp175 ahp175 php175 xhp175 => ?_
                · intro q k h
                  match q, h with
                  | 0, h => cases h; exact bs_jR (bs_R.uq Hhp163 (g := 11) rfl)
                  | 1, h => cases h; exact sf_j0
                  | 2, h => cases h; exact sf_j0
                  | 3, h => cases h; exact sf_j0
                  | q + 4, h => cases h
                obtain ⟨z176, rfl⟩ := bs_anI ahp175
                have rgz176 := n_range z176
                have Fhp175 := sf_fr_tr Fhp163 (sf_fr_wider (W := [(11, 4, 4), (11, 11, 18), (133, 0, 119)]) rfl fhp175)
                have h177 : sf_rd hp175 72 3 = some z2.toInt := (fhp175.2.2.1 _ (bs_R.uq Hhp163 (g := 133) (p := 72) rfl).1 _ (by rw [(bs_R.uq Hhp163 (g := 133) (p := 72) rfl).2]; rfl)).trans h164
                have h178 : sf_rd hp175 72 1 = some z13.toInt := (fhp175.2.2.1 _ (bs_R.uq Hhp163 (g := 133) (p := 72) rfl).1 _ (by rw [(bs_R.uq Hhp163 (g := 133) (p := 72) rfl).2]; rfl)).trans h165
                obtain ⟨uz176, vz176⟩ := bs_s1 (x := z176.toInt) rfl (php175 _ (List.mem_of_getElem? (i := 0) rfl))
                refine (show Ev _ 180 ([some (.ref 69), some (.int z2), some (.int z24), some (.int k137), some (.int k138)], [.int z176], (0, 0), hp175) _ from ?_)
                obtain ⟨q179, rq179, X180⟩ := xhp175 _ _ _ B n lim (i + 3) rfl K168
                obtain rfl := Value.int.inj (Option.some.inj rq179)
                refine bs_ifne rfl (fun c181 => ?_) (fun c181 => ?_)
                · skip
                  refine Ev.step (j := 186) (s' := ([some (.ref 69), some (.int z2), some (.int z24), some (.int k137), some (.int k138)], [.ref 69], (0, 0), hp175)) rfl rfl ?_
                  refine bs_getU (g := 11) (g1 := 133) rfl rfl Hhp175 (bs_R.uq Hhp175 (g := 11) rfl) (by decide) rfl rfl ?_
                  refine bs_lit (k := 3) rfl rfl fun z182 hz182 => ?_
                  refine Ev.step (j := 191) (s' := ([some (.ref 69), some (.int z2), some (.int z24), some (.int k137), some (.int k138)], [.int z182, .ref 72, .int z182, .ref 72], (0, 0), hp175)) rfl rfl ?_
                  refine bs_ld (g := 133) 3 3 (0, 20) rfl Hhp175 (bs_R.uq Hhp175 (g := 133) rfl) (by decide) rfl (by decide) (by decide) rfl (by decide) (by omega) (by omega) fun z183 hz183 lz183 gz183 => ?_
                  dsimp only at lz183 gz183
                  replace hz183 := bs_at hz183 (show z182.toInt.toNat = 3 by omega)
                  have e184 : z183.toInt = z2.toInt := Option.some.inj (hz183.symm.trans h177)
                  refine bs_lit (k := 1) rfl rfl fun z185 hz185 => ?_
                  first | (refine bs_add rfl (by omega) (by omega) fun z186 hz186 => ?_) | (refine bs_any rfl fun z186 => ?_)
                  have rz186 := n_range z186
                  refine bs_stv (W := [(133, 3, 3)]) (g := 133) 3 3 (0, 20) rfl Hhp175 (bs_R.uq Hhp175 (g := 133) rfl) (by decide) rfl rfl (by decide) rfl rfl (by omega) (by omega) (by dsimp only; omega) (by dsimp only; omega) fun hp187 Hhp187 fhp187 rhp187 ehp187 qhp187 nhp187 => ?_
                  replace rhp187 := bs_at rhp187 (show z182.toInt.toNat = 3 by omega)
                  have Fhp187 := sf_fr_tr Fhp175 (sf_fr_wider (W := [(11, 4, 4), (11, 11, 18), (133, 0, 119)]) rfl fhp187)
                  have h188 : sf_rd hp187 72 1 = some z13.toInt := (ehp187 _ _ (Or.inr (by omega))).trans h178
                  refine bs_lit (k := 1) rfl rfl fun z189 hz189 => ?_
                  exact bs_zret rfl rfl (by omega) (by omega) (by rw [hQ]; exact ⟨thp175, Hhp187, Fhp187, bs_an0, sf_S_cons (sf_s1 (x := z189.toInt) rfl (by omega) (by omega)) (sf_S_nil), (fun _ => by
                          skip
                          rw [show lnMiss (tok B n lim) s i = _ from if_neg (by omega)]
                          rw [lold_o Y1X20 (by omega)]
                          rw [lold_o Y1X36 (by omega)]
                          obtain ⟨M1, M2⟩ := i141.mp (by omega)
                          rw [if_neg (fun h => h.elim M1 (fun e => by obtain ⟨j, j1, j2, j3⟩ := (mtold_iff _).mp e; exact M2 j (by omega) ⟨j2, j3⟩))]
                          obtain ⟨V0, V1, V2, V3, V4, V5, V6⟩ := X180.resolve_right (fun h => absurd h.1 (by omega))
                          rw [lnum_o V1 (by omega) (by omega)]
                          have EQ : z171.toInt.toNat = 100 + (s.h 3).toNat := by omega
                          rw [EQ] at V4 V5
                          exact RRES_ok ⟨z189, rfl, by omega⟩ (SR_miss S38 (by omega) (by omega) (rhp187.trans (congrArg some (by omega))) ((ehp187 _ _ (Or.inr (by omega))).trans ((V5 (60 + (s.h 3).toNat) (by omega)).trans ((fhp163.2.2.1 _ (bs_R.uq Hhp156 (g := 133) (p := 72) rfl).1 _ (by rw [(bs_R.uq Hhp156 (g := 133) (p := 72) rfl).2]; rfl)).trans ((ehp156 _ _ (Or.inr (by omega))).trans ((bs_at rhp146 (show z145.toInt.toNat = 60 + (s.h 3).toNat by omega)).trans (congrArg some (by omega))))))) ((ehp187 _ _ (Or.inr (by omega))).trans ((V5 (80 + (s.h 3).toNat) (by omega)).trans ((fhp163.2.2.1 _ (bs_R.uq Hhp156 (g := 133) (p := 72) rfl).1 _ (by rw [(bs_R.uq Hhp156 (g := 133) (p := 72) rfl).2]; rfl)).trans ((bs_at rhp156 (show z153.toInt.toNat = 80 + (s.h 3).toNat by omega)).trans (congrArg some (by omega)))))) ((ehp187 _ _ (Or.inr (by omega))).trans V4) (fun q h1 h2 h3 h4 => (ehp187 _ _ (Or.inr (by omega))).trans ((V5 q h4).trans (((fhp163.2.2.1 _ (bs_R.uq Hhp156 (g := 133) (p := 72) rfl).1 _ (by rw [(bs_R.uq Hhp156 (g := 133) (p := 72) rfl).2]; rfl)).trans ((ehp156 _ _ (Or.inr (by omega))).trans (ehp146 _ _ (Or.inr (by omega)))))))) (((ehp187 _ _ (Or.inl (by decide))).trans ((fhp175.2.2.1 _ (bs_R.uq Hhp163 (g := 11) (p := 69) rfl).1 _ (by rw [(bs_R.uq Hhp163 (g := 11) (p := 69) rfl).2]; rfl)).trans ((fhp163.2.2.1 _ (bs_R.uq Hhp156 (g := 11) (p := 69) rfl).1 _ (by rw [(bs_R.uq Hhp156 (g := 11) (p := 69) rfl).2]; rfl)).trans ((ehp156 _ _ (Or.inl (by decide))).trans (ehp146 _ _ (Or.inl (by decide)))))))) (((fhp187.2.2.2.1 _ (bs_R.uq Hhp175 (g := 137) rfl).1 (by rw [(bs_R.uq Hhp175 (g := 137) rfl).2]; rfl)).trans ((fhp175.2.2.2.1 _ (bs_R.uq Hhp163 (g := 137) (p := 76) rfl).1 (by rw [(bs_R.uq Hhp163 (g := 137) (p := 76) rfl).2]; rfl)).trans ((fhp163.2.2.2.1 _ (bs_R.uq Hhp156 (g := 137) (p := 76) rfl).1 (by rw [(bs_R.uq Hhp156 (g := 137) (p := 76) rfl).2]; rfl)).trans ((fhp156.2.2.2.1 _ (bs_R.uq Hhp146 (g := 137) rfl).1 (by rw [(bs_R.uq Hhp146 (g := 137) rfl).2]; rfl)).trans (fhp146.2.2.2.1 _ (bs_R.uq Hhp31 (g := 137) rfl).1 (by rw [(bs_R.uq Hhp31 (g := 137) rfl).2]; rfl))))))) (((fhp187.2.2.2.1 _ (bs_R.uq Hhp175 (g := 135) rfl).1 (by rw [(bs_R.uq Hhp175 (g := 135) rfl).2]; rfl)).trans ((fhp175.2.2.2.1 _ (bs_R.uq Hhp163 (g := 135) (p := 74) rfl).1 (by rw [(bs_R.uq Hhp163 (g := 135) (p := 74) rfl).2]; rfl)).trans ((fhp163.2.2.2.1 _ (bs_R.uq Hhp156 (g := 135) (p := 74) rfl).1 (by rw [(bs_R.uq Hhp156 (g := 135) (p := 74) rfl).2]; rfl)).trans ((fhp156.2.2.2.1 _ (bs_R.uq Hhp146 (g := 135) rfl).1 (by rw [(bs_R.uq Hhp146 (g := 135) rfl).2]; rfl)).trans (fhp146.2.2.2.1 _ (bs_R.uq Hhp31 (g := 135) rfl).1 (by rw [(bs_R.uq Hhp31 (g := 135) rfl).2]; rfl)))))))) (RK_keep Hhp175 fhp187 rfl rfl (nhp187 _ _) V6))⟩)
                · skip
                  have c190 : z176.toInt = 0 := by omega
                  refine bs_lit (k := 0) rfl rfl fun z191 hz191 => ?_
                  exact bs_zret rfl rfl (by omega) (by omega) (by rw [hQ]; exact ⟨thp175, Hhp175, Fhp175, bs_an0, sf_S_cons (sf_s1 (x := z191.toInt) rfl (by omega) (by omega)) (sf_S_nil), (fun _ => by
                          skip
                          rw [show lnMiss (tok B n lim) s i = _ from if_neg (by omega)]
                          rw [lold_o Y1X20 (by omega)]
                          rw [lold_o Y1X36 (by omega)]
                          obtain ⟨M1, M2⟩ := i141.mp (by omega)
                          rw [if_neg (fun h => h.elim M1 (fun e => by obtain ⟨j, j1, j2, j3⟩ := (mtold_iff _).mp e; exact M2 j (by omega) ⟨j2, j3⟩))]
                          rcases X180.resolve_left (fun h => absurd h.1 (by omega)) with ⟨Y0, P1, ⟨P2, P3⟩ | ⟨⟨P2, P4⟩, P3⟩⟩
                          · rw [lnum_1 P2]
                            exact RRES_bad ⟨z191, rfl, by omega⟩ P3 P1
                          · rw [lnum_2 P2 (by omega)]
                            exact RRES_bad ⟨z191, rfl, by omega⟩ P3 P1)⟩)
              · skip
                have c192 : k137.toInt = 0 := by omega
                refine Ev.step (j := 137) (s' := ([some (.ref 69), some (.int z2), some (.int z24), some (.int k137), some (.int k138)], [.ref 69], (0, 0), hp31)) rfl rfl ?_
                refine bs_lit (k := 3) rfl rfl fun z193 hz193 => ?_
                refine Ev.inl (L := L_X11_bad) (nL := 2) rfl (bs_rcv (g := 11) Hhp31 (bs_R.uq Hhp31 (g := 11) rfl) (by decide) rfl) rfl (Nat.le_of_ble_eq_true rfl) ?_
                generalize hQ194 : (fun (o : ab_O) => Ev _ _ _ _) = Q194
                refine (show Ev (ab_T L_X11_bad) 0 ([some (.ref 69), some (.int z193)], [], (0, 0), hp31) Q194 from ?_)
                refine Ev.step (j := 1) (s' := ([some (.ref 69), some (.int z193)], [.ref 69], (0, 0), hp31)) rfl rfl ?_
                refine Ev.step (j := 2) (s' := ([some (.ref 69), some (.int z193)], [.int z193, .ref 69], (0, 0), hp31)) rfl rfl ?_
                refine bs_putIv (W := [(11, 15, 15)]) (g := 11) rfl rfl Hhp31 (bs_R.uq Hhp31 (g := 11) rfl) (by decide) rfl rfl rfl rfl (Or.inl rfl) (by omega) (by omega) fun hp195 Hhp195 fhp195 rhp195 ehp195 qhp195 nhp195 => ?_
                have Fhp195 := sf_fr_tr Fhp31 (sf_fr_wider (W := [(11, 4, 4), (11, 11, 18), (133, 0, 119)]) rfl fhp195)
                have h196 : sf_rd hp195 72 3 = some z2.toInt := (ehp195 _ _ (Or.inl (by decide))).trans h33
                have h197 : sf_rd hp195 72 1 = some z13.toInt := (ehp195 _ _ (Or.inl (by decide))).trans h34
                have h198 : sf_rd hp195 69 18 = some (fnd s.nm 6 (s.h 1) (tok B n lim (i + 2)).v) := (ehp195 _ _ (Or.inr (by omega))).trans Y3X36
                refine Ev.step (j := 6) (s' := ([some (.ref 69), some (.int z193)], [.ref 69], (0, 0), hp195)) rfl rfl ?_
                refine Ev.step (j := 7) (s' := ([some (.ref 69), some (.int z193)], [.ref 69, .ref 69], (0, 0), hp195)) rfl rfl ?_
                refine bs_getI 11 rfl rfl rfl Hhp195 (bs_R.uq Hhp195 (g := 11) rfl) (by decide) rfl fun z199 hz199 lz199 gz199 => ?_
                refine bs_putIv (W := [(11, 16, 16)]) (g := 11) rfl rfl Hhp195 (bs_R.uq Hhp195 (g := 11) rfl) (by decide) rfl rfl rfl rfl (Or.inl rfl) (by omega) (by omega) fun hp200 Hhp200 fhp200 rhp200 ehp200 qhp200 nhp200 => ?_
                have Fhp200 := sf_fr_tr Fhp195 (sf_fr_wider (W := [(11, 4, 4), (11, 11, 18), (133, 0, 119)]) rfl fhp200)
                have h201 : sf_rd hp200 72 3 = some z2.toInt := (ehp200 _ _ (Or.inl (by decide))).trans h196
                have h202 : sf_rd hp200 72 1 = some z13.toInt := (ehp200 _ _ (Or.inl (by decide))).trans h197
                have h203 : sf_rd hp200 69 18 = some (fnd s.nm 6 (s.h 1) (tok B n lim (i + 2)).v) := (ehp200 _ _ (Or.inr (by omega))).trans h198
                have h204 : sf_rd hp200 69 15 = some z193.toInt := (ehp200 _ _ (Or.inr (by omega))).trans rhp195
                have h205 : sf_rd hp200 69 12 = some z199.toInt := (ehp200 _ _ (Or.inr (by omega))).trans hz199
                refine bs_lit (k := 0) rfl rfl fun z206 hz206 => ?_
                refine bs_zret rfl rfl (by omega) (by omega) ?_
                rw [← hQ194]
                refine (show Ev _ 141 ([some (.ref 69), some (.int z2), some (.int z24), some (.int k137), some (.int k138)], [.int z206], (0, 0), hp200) _ from ?_)
                exact bs_zret rfl rfl (by omega) (by omega) (by rw [hQ]; exact ⟨thp31, Hhp200, Fhp200, bs_an0, sf_S_cons (sf_s1 (x := z206.toInt) rfl (by omega) (by omega)) (sf_S_nil), (fun _ => by
                        skip
                        rw [show lnMiss (tok B n lim) s i = _ from if_neg (by omega)]
                        rw [lold_o Y1X20 (by omega)]
                        rw [lold_o Y1X36 (by omega)]
                        rw [if_pos (by rcases Decidable.em (fnd s.nm 6 (s.h 1) (tok B n lim (i + 1)).v = fnd s.nm 6 (s.h 1) (tok B n lim (i + 2)).v) with e | e; exact Or.inl e; exact Or.inr ((mtold_iff _).mpr (Classical.byContradiction fun hn => absurd (i141.mpr ⟨e, fun j hj hh => hn ⟨j, by omega, hh.1, hh.2⟩⟩) (by omega))))]
                        have PL : z199.toInt = (tok B n lim (i + 2)).pl := Option.some.inj (hz199.symm.trans (((ehp195 _ _ (Or.inr (by omega)))).trans (RK_pl Y4X36)))
                        exact RRES_bad ⟨z206, rfl, by omega⟩ (h204.trans (congrArg some (by omega))) (rhp200.trans (congrArg some PL)))⟩)
            · skip
              refine Ev.step (j := 86) (s' := ([some (.ref 69), some (.int z2), some (.int z24), some (.int k137), some (.int k138)], [.int k137], (0, 0), hp31)) rfl rfl ?_
              refine bs_ifeq rfl (fun c207 => ?_) (fun c207 => ?_)
              · skip
                have c208 : k137.toInt = 0 := by omega
                refine bs_lit (k := 0) rfl rfl fun z209 hz209 => ?_
                refine Ev.step (j := 126) (s' := ([some (.ref 69), some (.int z2), some (.int z24), some (.int z209), some (.int k138)], [], (0, 0), hp31)) rfl rfl ?_
                refine bs_iinc (1) rfl rfl rfl rfl (by omega) (by omega) fun z210 hz210 => ?_
                refine (show Ev _ 129 ([some (.ref 69), some (.int z2), some (.int z24), some (.int z209), some (.int z210)], [], (0, 0), hp31) _ from ?_)
                refine Ev.step (j := 79) (s' := ([some (.ref 69), some (.int z2), some (.int z24), some (.int z209), some (.int z210)], [], (0, 0), hp31)) rfl rfl ?_
                have INV : (z209.toInt = 1 ↔ fnd s.nm 6 (s.h 1) (tok B n lim (i + 1)).v ≠ fnd s.nm 6 (s.h 1) (tok B n lim (i + 2)).v ∧ ∀ j : Nat, (j : Int) < z210.toInt → ¬ (s.h (60 + j) = fnd s.nm 6 (s.h 1) (tok B n lim (i + 1)).v ∧ s.h (80 + j) = fnd s.nm 6 (s.h 1) (tok B n lim (i + 2)).v)) := ⟨fun e => absurd e (by omega), fun h => by have := i141.mpr ⟨h.1, fun j hj => h.2 j (by omega)⟩; omega⟩
                refine ih139 (z209, z210) ⟨(by first | omega | assumption), (by exact INV)⟩ ?_
                show (20 - z210.toInt).toNat < (20 - k138.toInt).toNat
                omega
              · skip
                refine Ev.step (j := 90) (s' := ([some (.ref 69), some (.int z2), some (.int z24), some (.int k137), some (.int k138)], [.ref 69], (0, 0), hp31)) rfl rfl ?_
                refine bs_getU (g := 11) (g1 := 133) rfl rfl Hhp31 (bs_R.uq Hhp31 (g := 11) rfl) (by decide) rfl rfl ?_
                refine bs_lit (k := 60) rfl rfl fun z211 hz211 => ?_
                refine Ev.step (j := 97) (s' := ([some (.ref 69), some (.int z2), some (.int z24), some (.int k137), some (.int k138)], [.int k138, .int z211, .ref 72], (0, 0), hp31)) rfl rfl ?_
                first | (refine bs_add rfl (by omega) (by omega) fun z212 hz212 => ?_) | (refine bs_any rfl fun z212 => ?_)
                have rz212 := n_range z212
                refine bs_ld (g := 133) 60 79 (0, 7) rfl Hhp31 (bs_R.uq Hhp31 (g := 133) rfl) (by decide) rfl (by decide) (by decide) rfl (by decide) (by omega) (by omega) fun z213 hz213 lz213 gz213 => ?_
                dsimp only at lz213 gz213
                have V6 : z213.toInt = s.h (60 + k138.toInt.toNat) := Option.some.inj (hz213.symm.trans (bs_at (S38.1 (60 + k138.toInt.toNat) (by omega)) (by omega)))
                refine Ev.step (j := 100) (s' := ([some (.ref 69), some (.int z2), some (.int z24), some (.int k137), some (.int k138)], [.int z24, .int z213], (0, 0), hp31)) rfl rfl ?_
                refine bs_ne rfl (fun c214 => ?_) (fun c214 => ?_)
                · skip
                  refine bs_lit (k := 1) rfl rfl fun z215 hz215 => ?_
                  refine Ev.step (j := 125) (s' := ([some (.ref 69), some (.int z2), some (.int z24), some (.int k137), some (.int k138)], [.int z215], (0, 0), hp31)) rfl rfl ?_
                  refine Ev.step (j := 126) (s' := ([some (.ref 69), some (.int z2), some (.int z24), some (.int z215), some (.int k138)], [], (0, 0), hp31)) rfl rfl ?_
                  refine bs_iinc (1) rfl rfl rfl rfl (by omega) (by omega) fun z216 hz216 => ?_
                  refine (show Ev _ 129 ([some (.ref 69), some (.int z2), some (.int z24), some (.int z215), some (.int z216)], [], (0, 0), hp31) _ from ?_)
                  refine Ev.step (j := 79) (s' := ([some (.ref 69), some (.int z2), some (.int z24), some (.int z215), some (.int z216)], [], (0, 0), hp31)) rfl rfl ?_
                  have INV : (z215.toInt = 1 ↔ fnd s.nm 6 (s.h 1) (tok B n lim (i + 1)).v ≠ fnd s.nm 6 (s.h 1) (tok B n lim (i + 2)).v ∧ ∀ j : Nat, (j : Int) < z216.toInt → ¬ (s.h (60 + j) = fnd s.nm 6 (s.h 1) (tok B n lim (i + 1)).v ∧ s.h (80 + j) = fnd s.nm 6 (s.h 1) (tok B n lim (i + 2)).v)) := ⟨fun _ => ⟨(i141.mp (by omega)).1, fun j hj => by rcases (show (j : Int) < k138.toInt ∨ j = k138.toInt.toNat by omega) with g | g; exact (i141.mp (by omega)).2 j g; rw [g]; intro h; have h1 := h.1; have h2 := h.2; omega⟩, fun _ => by omega⟩
                  refine ih139 (z215, z216) ⟨(by first | omega | assumption), (by exact INV)⟩ ?_
                  show (20 - z216.toInt).toNat < (20 - k138.toInt).toNat
                  omega
                · skip
                  refine Ev.step (j := 104) (s' := ([some (.ref 69), some (.int z2), some (.int z24), some (.int k137), some (.int k138)], [.ref 69], (0, 0), hp31)) rfl rfl ?_
                  refine bs_getU (g := 11) (g1 := 133) rfl rfl Hhp31 (bs_R.uq Hhp31 (g := 11) rfl) (by decide) rfl rfl ?_
                  refine bs_lit (k := 80) rfl rfl fun z217 hz217 => ?_
                  refine Ev.step (j := 111) (s' := ([some (.ref 69), some (.int z2), some (.int z24), some (.int k137), some (.int k138)], [.int k138, .int z217, .ref 72], (0, 0), hp31)) rfl rfl ?_
                  first | (refine bs_add rfl (by omega) (by omega) fun z218 hz218 => ?_) | (refine bs_any rfl fun z218 => ?_)
                  have rz218 := n_range z218
                  refine bs_ld (g := 133) 80 99 (0, 7) rfl Hhp31 (bs_R.uq Hhp31 (g := 133) rfl) (by decide) rfl (by decide) (by decide) rfl (by decide) (by omega) (by omega) fun z219 hz219 lz219 gz219 => ?_
                  dsimp only at lz219 gz219
                  have V8 : z219.toInt = s.h (80 + k138.toInt.toNat) := Option.some.inj (hz219.symm.trans (bs_at (S38.1 (80 + k138.toInt.toNat) (by omega)) (by omega)))
                  refine Ev.step (j := 114) (s' := ([some (.ref 69), some (.int z2), some (.int z24), some (.int k137), some (.int k138)], [.ref 69, .int z219], (0, 0), hp31)) rfl rfl ?_
                  refine bs_getI 11 rfl rfl rfl Hhp31 (bs_R.uq Hhp31 (g := 11) rfl) (by decide) rfl fun z220 hz220 lz220 gz220 => ?_
                  have e221 : z220.toInt = (fnd s.nm 6 (s.h 1) (tok B n lim (i + 2)).v) := Option.some.inj (hz220.symm.trans Y3X36)
                  refine bs_eq rfl (fun c222 => ?_) (fun c222 => ?_)
                  · skip
                    refine bs_lit (k := 0) rfl rfl fun z223 hz223 => ?_
                    refine Ev.step (j := 126) (s' := ([some (.ref 69), some (.int z2), some (.int z24), some (.int z223), some (.int k138)], [], (0, 0), hp31)) rfl rfl ?_
                    refine bs_iinc (1) rfl rfl rfl rfl (by omega) (by omega) fun z224 hz224 => ?_
                    refine (show Ev _ 129 ([some (.ref 69), some (.int z2), some (.int z24), some (.int z223), some (.int z224)], [], (0, 0), hp31) _ from ?_)
                    refine Ev.step (j := 79) (s' := ([some (.ref 69), some (.int z2), some (.int z24), some (.int z223), some (.int z224)], [], (0, 0), hp31)) rfl rfl ?_
                    have INV : (z223.toInt = 1 ↔ fnd s.nm 6 (s.h 1) (tok B n lim (i + 1)).v ≠ fnd s.nm 6 (s.h 1) (tok B n lim (i + 2)).v ∧ ∀ j : Nat, (j : Int) < z224.toInt → ¬ (s.h (60 + j) = fnd s.nm 6 (s.h 1) (tok B n lim (i + 1)).v ∧ s.h (80 + j) = fnd s.nm 6 (s.h 1) (tok B n lim (i + 2)).v)) := ⟨fun e => absurd e (by omega), fun h => absurd ⟨by omega, by omega⟩ (h.2 k138.toInt.toNat (by omega))⟩
                    refine ih139 (z223, z224) ⟨(by first | omega | assumption), (by exact INV)⟩ ?_
                    show (20 - z224.toInt).toNat < (20 - k138.toInt).toNat
                    omega
                  · skip
                    refine bs_lit (k := 1) rfl rfl fun z225 hz225 => ?_
                    refine Ev.step (j := 125) (s' := ([some (.ref 69), some (.int z2), some (.int z24), some (.int k137), some (.int k138)], [.int z225], (0, 0), hp31)) rfl rfl ?_
                    refine Ev.step (j := 126) (s' := ([some (.ref 69), some (.int z2), some (.int z24), some (.int z225), some (.int k138)], [], (0, 0), hp31)) rfl rfl ?_
                    refine bs_iinc (1) rfl rfl rfl rfl (by omega) (by omega) fun z226 hz226 => ?_
                    refine (show Ev _ 129 ([some (.ref 69), some (.int z2), some (.int z24), some (.int z225), some (.int z226)], [], (0, 0), hp31) _ from ?_)
                    refine Ev.step (j := 79) (s' := ([some (.ref 69), some (.int z2), some (.int z24), some (.int z225), some (.int z226)], [], (0, 0), hp31)) rfl rfl ?_
                    have INV : (z225.toInt = 1 ↔ fnd s.nm 6 (s.h 1) (tok B n lim (i + 1)).v ≠ fnd s.nm 6 (s.h 1) (tok B n lim (i + 2)).v ∧ ∀ j : Nat, (j : Int) < z226.toInt → ¬ (s.h (60 + j) = fnd s.nm 6 (s.h 1) (tok B n lim (i + 1)).v ∧ s.h (80 + j) = fnd s.nm 6 (s.h 1) (tok B n lim (i + 2)).v)) := ⟨fun _ => ⟨(i141.mp (by omega)).1, fun j hj => by rcases (show (j : Int) < k138.toInt ∨ j = k138.toInt.toNat by omega) with g | g; exact (i141.mp (by omega)).2 j g; rw [g]; intro h; have h1 := h.1; have h2 := h.2; omega⟩, fun _ => by omega⟩
                    refine ih139 (z225, z226) ⟨(by first | omega | assumption), (by exact INV)⟩ ?_
                    show (20 - z226.toInt).toNat < (20 - k138.toInt).toNat
                    omega
        · skip
          have c227 : z32.toInt = 0 := by omega
          refine bs_lit (k := 0) rfl rfl fun z228 hz228 => ?_
          exact bs_zret rfl rfl (by omega) (by omega) (by rw [hQ]; exact ⟨thp31, Hhp31, Fhp31, bs_an0, sf_S_cons (sf_s1 (x := z228.toInt) rfl (by omega) (by omega)) (sf_S_nil), (fun _ => by
                  skip
                  rw [show lnMiss (tok B n lim) s i = _ from if_neg (by omega)]
                  rw [lold_o Y1X20 (by omega)]
                  rcases X36.resolve_left (fun h => absurd h.1 (by omega)) with ⟨Y0, P1, ⟨P2, P3⟩ | ⟨⟨P2, P4⟩, P3⟩⟩
                  · rw [lold_1 P2]
                    exact RRES_bad ⟨z228, rfl, by omega⟩ P3 P1
                  · rw [lold_3 P2 P4]
                    exact RRES_bad ⟨z228, rfl, by omega⟩ P3 P1)⟩)
      · skip
        have c229 : z16.toInt = 0 := by omega
        refine bs_lit (k := 0) rfl rfl fun z230 hz230 => ?_
        exact bs_zret rfl rfl (by omega) (by omega) (by rw [hQ]; exact ⟨thp15, Hhp15, Fhp15, bs_an0, sf_S_cons (sf_s1 (x := z230.toInt) rfl (by omega) (by omega)) (sf_S_nil), (fun _ => by
                skip
                rw [show lnMiss (tok B n lim) s i = _ from if_neg (by omega)]
                rcases X20.resolve_left (fun h => absurd h.1 (by omega)) with ⟨Y0, P1, ⟨P2, P3⟩ | ⟨⟨P2, P4⟩, P3⟩⟩
                · rw [lold_1 P2]
                  exact RRES_bad ⟨z230, rfl, by omega⟩ P3 P1
                · rw [lold_3 P2 P4]
                  exact RRES_bad ⟨z230, rfl, by omega⟩ P3 P1)⟩)
    · skip
      have c231 : z2.toInt = 20 := by omega
      refine Ev.step (j := 14) (s' := ([some (.ref 69), some (.int z2), none, none, none], [.ref 69], (0, 0), hp)) rfl rfl ?_
      refine bs_lit (k := 4) rfl rfl fun z232 hz232 => ?_
      refine Ev.inl (L := L_X11_bad) (nL := 2) rfl (bs_rcv (g := 11) H (bs_R.uq H (g := 11) rfl) (by decide) rfl) rfl (Nat.le_of_ble_eq_true rfl) ?_
      generalize hQ233 : (fun (o : ab_O) => Ev _ _ _ _) = Q233
      refine (show Ev (ab_T L_X11_bad) 0 ([some (.ref 69), some (.int z232)], [], (0, 0), hp) Q233 from ?_)
      refine Ev.step (j := 1) (s' := ([some (.ref 69), some (.int z232)], [.ref 69], (0, 0), hp)) rfl rfl ?_
      refine Ev.step (j := 2) (s' := ([some (.ref 69), some (.int z232)], [.int z232, .ref 69], (0, 0), hp)) rfl rfl ?_
      refine bs_putIv (W := [(11, 15, 15)]) (g := 11) rfl rfl H (bs_R.uq H (g := 11) rfl) (by decide) rfl rfl rfl rfl (Or.inl rfl) (by omega) (by omega) fun hp234 Hhp234 fhp234 rhp234 ehp234 qhp234 nhp234 => ?_
      have Fhp234 := sf_fr_tr F0 (sf_fr_wider (W := [(11, 4, 4), (11, 11, 18), (133, 0, 119)]) rfl fhp234)
      have h235 : sf_rd hp234 72 3 = some z2.toInt := (ehp234 _ _ (Or.inl (by decide))).trans hz2
      refine Ev.step (j := 6) (s' := ([some (.ref 69), some (.int z232)], [.ref 69], (0, 0), hp234)) rfl rfl ?_
      refine Ev.step (j := 7) (s' := ([some (.ref 69), some (.int z232)], [.ref 69, .ref 69], (0, 0), hp234)) rfl rfl ?_
      refine bs_getI 11 rfl rfl rfl Hhp234 (bs_R.uq Hhp234 (g := 11) rfl) (by decide) rfl fun z236 hz236 lz236 gz236 => ?_
      refine bs_putIv (W := [(11, 16, 16)]) (g := 11) rfl rfl Hhp234 (bs_R.uq Hhp234 (g := 11) rfl) (by decide) rfl rfl rfl rfl (Or.inl rfl) (by omega) (by omega) fun hp237 Hhp237 fhp237 rhp237 ehp237 qhp237 nhp237 => ?_
      have Fhp237 := sf_fr_tr Fhp234 (sf_fr_wider (W := [(11, 4, 4), (11, 11, 18), (133, 0, 119)]) rfl fhp237)
      have h238 : sf_rd hp237 72 3 = some z2.toInt := (ehp237 _ _ (Or.inl (by decide))).trans h235
      have h239 : sf_rd hp237 69 15 = some z232.toInt := (ehp237 _ _ (Or.inr (by omega))).trans rhp234
      have h240 : sf_rd hp237 69 12 = some z236.toInt := (ehp237 _ _ (Or.inr (by omega))).trans hz236
      refine bs_lit (k := 0) rfl rfl fun z241 hz241 => ?_
      refine bs_zret rfl rfl (by omega) (by omega) ?_
      rw [← hQ233]
      refine (show Ev _ 18 ([some (.ref 69), some (.int z2), none, none, none], [.int z241], (0, 0), hp237) _ from ?_)
      exact bs_zret rfl rfl (by omega) (by omega) (by rw [hQ]; exact ⟨t, Hhp237, Fhp237, bs_an0, sf_S_cons (sf_s1 (x := z241.toInt) rfl (by omega) (by omega)) (sf_S_nil), (fun _ => by
              skip
              rw [show lnMiss (tok B n lim) s i = _ from if_pos (by omega)]
              have PL : z236.toInt = (tok B n lim i).pl := Option.some.inj (hz236.symm.trans (((ehp234 _ _ (Or.inr (by omega)))).trans (RK_pl hK)))
              exact RRES_bad ⟨z241, rfl, by omega⟩ (h239.trans (congrArg some (by omega))) (rhp237.trans (congrArg some PL)))⟩)
