-- 63.b33.lean.txt
section
def kq_X11_readMisses_v : sf_Q := ([(1, 11, 0)], [], some (0, 0, 0), [(1, 0, 0, 0, 1, 0)], [(11, 4, 4), (11, 11, 18), (133, 0, 119)])
def ke_X11_readMisses_v (B : Nat → Int) (n lim i : Nat) (s : PS) : List Value → ab_H → Option Value → ab_H → Prop := fun as _ r hp' => as = [.ref 69] → RRES hp' B n lim r (lnMiss (tok B n lim) s i)
set_option maxRecDepth 100000 in
set_option maxHeartbeats 4000000 in
theorem cp_X11_readMisses_v {B : Nat → Int} {n lim i : Nat} {s : PS} : sf_cG kq_X11_readMisses_v Z_X11_readMisses (fun hp => RK hp B n lim i ∧ SR hp s ∧ RES hp) (ke_X11_readMisses_v B n lim i s) := by
  intro t hp as H hl hj hpre hG
  match as, hl with
  | [v0], _ =>
    obtain ⟨a0, rfl, ra0⟩ := bs_aR (hj 0 _ rfl)
    obtain rfl := ra0.eq H (p := 69) rfl
    clear hpre hj
    have F0 : sf_fr [(11, 4, 4), (11, 11, 18), (133, 0, 119)] t hp t hp := sf_fr_rf
    refine bs_finx (E := (ke_X11_readMisses_v B n lim i s)) (K := kq_X11_readMisses_v) (L := (L_X11_readMisses Z_X11_bad Z_X11_next Z_X11_takesName Z_X11_looksAt Z_X11_puts)) (nL := 5) (Nat.le_of_ble_eq_true rfl) ?_
    obtain ⟨Q, hQ⟩ : ∃ Q : ab_O → Prop, Q = (fun o => ∃ t', sf_h t' o.2 ∧ sf_fr (kq_X11_readMisses_v).2.2.2.2 t hp t' o.2 ∧ sf_an t' o.2.1 (kq_X11_readMisses_v).2.2.1 o.1 ∧ sf_S (sf_v1 o.1 [.ref 69] o.2) (kq_X11_readMisses_v).2.2.2.1 ∧ (ke_X11_readMisses_v B n lim i s) [.ref 69] hp o.1 o.2) := ⟨_, rfl⟩
    rw [← hQ]
    refine (show Ev (ab_T (L_X11_readMisses Z_X11_bad Z_X11_next Z_X11_takesName Z_X11_looksAt Z_X11_puts)) 0 ([some (.ref 69), none, none, none, none], [], (0, 0), hp) Q from ?_)
    obtain ⟨hK, hS, hR⟩ := hG
    refine Ev.step (j := 1) (s' := ([some (.ref 69), none, none, none, none], [.ref 69], (0, 0), hp)) rfl rfl ?_
    exact by
     refine bs_getU (g := 11) (g1 := 133) rfl rfl H (bs_R.uq H (g := 11) rfl) (by decide) rfl rfl ?_
     refine bs_lit (k := 3) rfl rfl fun z1 hz1 => ?_
     refine bs_ld (g := 133) 3 3 (0, 20) rfl H (bs_R.uq H (g := 133) rfl) (by decide) rfl (by decide) (by decide) rfl (by decide) (by omega) (by omega) fun z2 hz2 lz2 gz2 => ?_
     dsimp only at lz2 gz2
     replace hz2 := bs_at hz2 (show z1.toInt.toNat = 3 by omega)
     have c3_z2 : z2.toInt = s.h 3 := Option.some.inj (hz2.symm.trans (hS.1 3 (by decide)))
     refine Ev.step (j := 7) (s' := ([some (.ref 69), some (.int z2), none, none, none], [], (0, 0), hp)) rfl rfl ?_
     refine Ev.step (j := 8) (s' := ([some (.ref 69), some (.int z2), none, none, none], [.int z2], (0, 0), hp)) rfl rfl ?_
     refine bs_lit (k := 20) rfl rfl fun z3 hz3 => ?_
     exact by
      refine bs_ne rfl (fun c4 => ?_) (fun c4 => ?_)
      · skip
        refine Ev.step (j := 20) (s' := ([some (.ref 69), some (.int z2), none, none, none], [.ref 69], (0, 0), hp)) rfl rfl ?_
        refine bs_callx (K := kq_X11_next_v) [.ref 69] [] rfl ce_X11_next_v H rfl rfl rfl (bs_rcv (g := 11) H (bs_R.uq H (g := 11) rfl) (by decide) rfl) rfl ?_ (sf_S_nil) fun r5 hp6 thp6 Hhp6 fhp6 ahp6 php6 xhp6 => ?_
        · intro q k h
          match q, h with
          | 0, h => cases h; exact bs_jR (bs_R.uq H (g := 11) rfl)
          | q + 1, h => cases h
        obtain rfl := ahp6.1 rfl
        have Fhp6 := sf_fr_tr F0 (sf_fr_wider (W := [(11, 4, 4), (11, 11, 18), (133, 0, 119)]) rfl fhp6)
        have h7 : sf_rd hp6 72 3 = some z2.toInt := (fhp6.2.2.1 _ (bs_R.uq H (g := 133) (p := 72) rfl).1 _ (by rw [(bs_R.uq H (g := 133) (p := 72) rfl).2]; rfl)).trans hz2
        refine (show Ev _ 23 ([some (.ref 69), some (.int z2), none, none, none], [], (0, 0), hp6) _ from ?_)
        have K8 := (RK_next H fhp6 rfl rfl rfl xhp6 hK).1
        have R9 := RES_fr H fhp6 rfl hR
        have S10 := SR_fr H fhp6 rfl rfl rfl rfl hS
        refine Ev.step (j := 24) (s' := ([some (.ref 69), some (.int z2), none, none, none], [.ref 69], (0, 0), hp6)) rfl rfl ?_
        exact by
         refine bs_lit (k := 20) rfl rfl fun z11 hz11 => ?_
         refine Ev.step (j := 27) (s' := ([some (.ref 69), some (.int z2), none, none, none], [.ref 69, .int z11, .ref 69], (0, 0), hp6)) rfl rfl ?_
         refine bs_getU (g := 11) (g1 := 133) rfl rfl Hhp6 (bs_R.uq Hhp6 (g := 11) rfl) (by decide) rfl rfl ?_
         refine bs_lit (k := 1) rfl rfl fun z12 hz12 => ?_
         refine bs_ld (g := 133) 1 1 (0, 8) rfl Hhp6 (bs_R.uq Hhp6 (g := 133) rfl) (by decide) rfl (by decide) (by decide) rfl (by decide) (by omega) (by omega) fun z13 hz13 lz13 gz13 => ?_
         dsimp only at lz13 gz13
         replace hz13 := bs_at hz13 (show z12.toInt.toNat = 1 by omega)
         have c1_z13 : z13.toInt = s.h 1 := Option.some.inj (hz13.symm.trans (S10.1 1 (by decide)))
         refine bs_callx (K := kq_X11_takesName_v) [.ref 69, .int z11, .int z13] [] rfl ce_X11_takesName_v Hhp6 rfl rfl rfl (bs_rcv (g := 11) Hhp6 (bs_R.uq Hhp6 (g := 11) rfl) (by decide) rfl) rfl ?_ (sf_S_cons (sf_s1 (x := z11.toInt) rfl (by omega) (by omega)) (sf_S_cons (sf_s1 (x := z13.toInt) rfl (by omega) (by omega)) (sf_S_nil))) fun r14 hp15 thp15 Hhp15 fhp15 ahp15 php15 xhp15 => ?_
         · intro q k h
           match q, h with
           | 0, h => cases h; exact bs_jR (bs_R.uq Hhp6 (g := 11) rfl)
           | 1, h => cases h; exact sf_j0
           | 2, h => cases h; exact sf_j0
           | q + 3, h => cases h
         obtain ⟨z16, rfl⟩ := bs_anI ahp15
         have rgz16 := n_range z16
         have Fhp15 := sf_fr_tr Fhp6 (sf_fr_wider (W := [(11, 4, 4), (11, 11, 18), (133, 0, 119)]) rfl fhp15)
         have h17 : sf_rd hp15 72 3 = some z2.toInt := (fhp15.2.2.1 _ (bs_R.uq Hhp6 (g := 133) (p := 72) rfl).1 _ (by rw [(bs_R.uq Hhp6 (g := 133) (p := 72) rfl).2]; rfl)).trans h7
         have h18 : sf_rd hp15 72 1 = some z13.toInt := (fhp15.2.2.1 _ (bs_R.uq Hhp6 (g := 133) (p := 72) rfl).1 _ (by rw [(bs_R.uq Hhp6 (g := 133) (p := 72) rfl).2]; rfl)).trans hz13
         obtain ⟨uz16, vz16⟩ := bs_s1 (x := z16.toInt) rfl (php15 _ (List.mem_of_getElem? (i := 0) rfl))
         refine (show Ev _ 35 ([some (.ref 69), some (.int z2), none, none, none], [.int z16], (0, 0), hp15) _ from ?_)
         obtain ⟨q19, rq19, X20⟩ := xhp15 _ _ s.nm 6 B n lim (i + 1) rfl (fun k hk => by rw [show z11.toInt.toNat + k = 20 + k by omega]; exact S10.2.2.2.2 k (by omega)) R9 K8
         obtain rfl := Value.int.inj (Option.some.inj rq19)
         rw [show z13.toInt = s.h 1 by omega] at X20
         have R21 := RES_fr Hhp6 fhp15 rfl R9
         have S22 := SR_fr Hhp6 fhp15 rfl rfl rfl rfl S10
         refine bs_ifne rfl (fun c23 => ?_) (fun c23 => ?_)
         · skip
           obtain ⟨Y0X20, Y1X20, Y2X20, Y3X20, Y4X20⟩ := X20.resolve_right (fun h => absurd h.1 (by omega))
           have FBX20 : fnd s.nm 6 (s.h 1) (tok B n lim (i + 1)).v ≤ 7 := by have := fnd_lt (nm := s.nm) (o := 6) (n := s.h 1) (v := (tok B n lim (i + 1)).v); omega
           refine Ev.step (j := 41) (s' := ([some (.ref 69), some (.int z2), none, none, none], [.ref 69], (0, 0), hp15)) rfl rfl ?_
           exact by
            refine bs_getI 11 rfl rfl rfl Hhp15 (bs_R.uq Hhp15 (g := 11) rfl) (by decide) rfl fun z24 hz24 lz24 gz24 => ?_
            have e25 : z24.toInt = (fnd s.nm 6 (s.h 1) (tok B n lim (i + 1)).v) := Option.some.inj (hz24.symm.trans Y3X20)
            refine Ev.step (j := 45) (s' := ([some (.ref 69), some (.int z2), some (.int z24), none, none], [], (0, 0), hp15)) rfl rfl ?_
            refine Ev.step (j := 46) (s' := ([some (.ref 69), some (.int z2), some (.int z24), none, none], [.ref 69], (0, 0), hp15)) rfl rfl ?_
            refine bs_lit (k := 20) rfl rfl fun z26 hz26 => ?_
            refine Ev.step (j := 49) (s' := ([some (.ref 69), some (.int z2), some (.int z24), none, none], [.ref 69, .int z26, .ref 69], (0, 0), hp15)) rfl rfl ?_
            refine bs_getU (g := 11) (g1 := 133) rfl rfl Hhp15 (bs_R.uq Hhp15 (g := 11) rfl) (by decide) rfl rfl ?_
            refine bs_lit (k := 1) rfl rfl fun z27 hz27 => ?_
            exact by
             refine bs_ld (g := 133) 1 1 (0, 8) rfl Hhp15 (bs_R.uq Hhp15 (g := 133) rfl) (by decide) rfl (by decide) (by decide) rfl (by decide) (by omega) (by omega) fun z28 hz28 lz28 gz28 => ?_
             dsimp only at lz28 gz28
             replace hz28 := bs_at hz28 (show z27.toInt.toNat = 1 by omega)
             have e29 : z28.toInt = z13.toInt := Option.some.inj (hz28.symm.trans h18)
             have c1_z13 : z13.toInt = s.h 1 := Option.some.inj (h18.symm.trans (S22.1 1 (by decide)))
             refine bs_callx (K := kq_X11_looksAt_v) [.ref 69, .int z26, .int z28] [] rfl ce_X11_looksAt_v Hhp15 rfl rfl rfl (bs_rcv (g := 11) Hhp15 (bs_R.uq Hhp15 (g := 11) rfl) (by decide) rfl) rfl ?_ (sf_S_cons (sf_s1 (x := z26.toInt) rfl (by omega) (by omega)) (sf_S_cons (sf_s1 (x := z28.toInt) rfl (by omega) (by omega)) (sf_S_nil))) fun r30 hp31 thp31 Hhp31 fhp31 ahp31 php31 xhp31 => ?_
             · intro q k h
               match q, h with
               | 0, h => cases h; exact bs_jR (bs_R.uq Hhp15 (g := 11) rfl)
               | 1, h => cases h; exact sf_j0
               | 2, h => cases h; exact sf_j0
               | q + 3, h => cases h
             obtain ⟨z32, rfl⟩ := bs_anI ahp31
             have rgz32 := n_range z32
             have Fhp31 := sf_fr_tr Fhp15 (sf_fr_wider (W := [(11, 4, 4), (11, 11, 18), (133, 0, 119)]) rfl fhp31)
             have h33 : sf_rd hp31 72 3 = some z2.toInt := (fhp31.2.2.1 _ (bs_R.uq Hhp15 (g := 133) (p := 72) rfl).1 _ (by rw [(bs_R.uq Hhp15 (g := 133) (p := 72) rfl).2]; rfl)).trans h17
             have h34 : sf_rd hp31 72 1 = some z13.toInt := (fhp31.2.2.1 _ (bs_R.uq Hhp15 (g := 133) (p := 72) rfl).1 _ (by rw [(bs_R.uq Hhp15 (g := 133) (p := 72) rfl).2]; rfl)).trans h18
             obtain ⟨uz32, vz32⟩ := bs_s1 (x := z32.toInt) rfl (php31 _ (List.mem_of_getElem? (i := 0) rfl))
             refine (show Ev _ 57 ([some (.ref 69), some (.int z2), some (.int z24), none, none], [.int z32], (0, 0), hp31) _ from ?_)
             obtain ⟨q35, rq35, X36⟩ := xhp31 _ _ s.nm 6 B n lim (i + 2) rfl (fun k hk => by rw [show z26.toInt.toNat + k = 20 + k by omega]; exact S22.2.2.2.2 k (by omega)) R21 Y4X20
             obtain rfl := Value.int.inj (Option.some.inj rq35)
             rw [show z28.toInt = s.h 1 by omega] at X36
             have R37 := RES_fr Hhp15 fhp31 rfl R21
             have S38 := SR_fr Hhp15 fhp31 rfl rfl rfl rfl S22
             refine bs_ifne rfl (fun c39 => ?_) (fun c39 => ?_)
             · skip
               obtain ⟨Y0X36, Y1X36, Y2X36, Y3X36, Y4X36⟩ := X36.resolve_right (fun h => absurd h.1 (by omega))
               have FBX36 : fnd s.nm 6 (s.h 1) (tok B n lim (i + 2)).v ≤ 7 := by have := fnd_lt (nm := s.nm) (o := 6) (n := s.h 1) (v := (tok B n lim (i + 2)).v); omega
               refine Ev.step (j := 63) (s' := ([some (.ref 69), some (.int z2), some (.int z24), none, none], [.ref 69], (0, 0), hp31)) rfl rfl ?_
               exact by
                refine bs_getI 11 rfl rfl rfl Hhp31 (bs_R.uq Hhp31 (g := 11) rfl) (by decide) rfl fun z40 hz40 lz40 gz40 => ?_
                have e41 : z40.toInt = (fnd s.nm 6 (s.h 1) (tok B n lim (i + 2)).v) := Option.some.inj (hz40.symm.trans Y3X36)
                refine Ev.step (j := 67) (s' := ([some (.ref 69), some (.int z2), some (.int z24), none, none], [.int z24, .int z40], (0, 0), hp31)) rfl rfl ?_
                refine bs_eq rfl (fun c42 => ?_) (fun c42 => ?_)
                · skip
                  refine bs_lit (k := 0) rfl rfl fun z43 hz43 => ?_
                  refine Ev.step (j := 76) (s' := ([some (.ref 69), some (.int z2), some (.int z24), some (.int z43), none], [], (0, 0), hp31)) rfl rfl ?_
                  refine bs_lit (k := 0) rfl rfl fun z44 hz44 => ?_
                  refine Ev.step (j := 79) (s' := ([some (.ref 69), some (.int z2), some (.int z24), some (.int z43), some (.int z44)], [], (0, 0), hp31)) rfl rfl ?_
                  have INV : (z43.toInt = 1 ↔ fnd s.nm 6 (s.h 1) (tok B n lim (i + 1)).v ≠ fnd s.nm 6 (s.h 1) (tok B n lim (i + 2)).v ∧ ∀ j : Nat, (j : Int) < z44.toInt → ¬ (s.h (60 + j) = fnd s.nm 6 (s.h 1) (tok B n lim (i + 1)).v ∧ s.h (80 + j) = fnd s.nm 6 (s.h 1) (tok B n lim (i + 2)).v)) := ⟨fun e => ⟨by omega, fun j hj => absurd hj (by omega)⟩, fun h => by have h1 := h.1; omega⟩
                  refine bs_loop (ι := Int32 × Int32) (fun ⟨k45, k46⟩ => ([some (.ref 69), some (.int z2), some (.int z24), some (.int k45), some (.int k46)], [], (0, 0), hp31)) (fun ⟨k45, k46⟩ => (0 ≤ k45.toInt ∧ k45.toInt ≤ 1 ∧ 0 ≤ k46.toInt ∧ k46.toInt ≤ 20 ∧ k46.toInt ≤ z2.toInt) ∧ ((k45.toInt = 1 ↔ fnd s.nm 6 (s.h 1) (tok B n lim (i + 1)).v ≠ fnd s.nm 6 (s.h 1) (tok B n lim (i + 2)).v ∧ ∀ j : Nat, (j : Int) < k46.toInt → ¬ (s.h (60 + j) = fnd s.nm 6 (s.h 1) (tok B n lim (i + 1)).v ∧ s.h (80 + j) = fnd s.nm 6 (s.h 1) (tok B n lim (i + 2)).v)))) (fun ⟨k45, k46⟩ => (20 - k46.toInt).toNat) ?_ (z43, z44) ⟨(by first | omega | assumption), (by exact INV)⟩
                  rintro ⟨k45, k46⟩ ⟨i48, i49⟩ ih47
                  clear INV
                  refine (show Ev _ 79 ([some (.ref 69), some (.int z2), some (.int z24), some (.int k45), some (.int k46)], [], (0, 0), hp31) _ from ?_)
                  exact by
                   refine Ev.step (j := 81) (s' := ([some (.ref 69), some (.int z2), some (.int z24), some (.int k45), some (.int k46)], [.int k46], (0, 0), hp31)) rfl rfl ?_
                   refine Ev.step (j := 82) (s' := ([some (.ref 69), some (.int z2), some (.int z24), some (.int k45), some (.int k46)], [.int z2, .int k46], (0, 0), hp31)) rfl rfl ?_
                   refine bs_ge rfl (fun c50 => ?_) (fun c50 => ?_)
                   · skip
                     refine Ev.step (j := 133) (s' := ([some (.ref 69), some (.int z2), some (.int z24), some (.int k45), some (.int k46)], [.int k45], (0, 0), hp31)) rfl rfl ?_
                     refine bs_ifne rfl (fun c51 => ?_) (fun c51 => ?_)
                     · skip
                       refine Ev.step (j := 143) (s' := ([some (.ref 69), some (.int z2), some (.int z24), some (.int k45), some (.int k46)], [.ref 69], (0, 0), hp31)) rfl rfl ?_
                       refine bs_getU (g := 11) (g1 := 133) rfl rfl Hhp31 (bs_R.uq Hhp31 (g := 11) rfl) (by decide) rfl rfl ?_
                       refine bs_lit (k := 60) rfl rfl fun z52 hz52 => ?_
                       exact by
                        refine Ev.step (j := 149) (s' := ([some (.ref 69), some (.int z2), some (.int z24), some (.int k45), some (.int k46)], [.int z2, .int z52, .ref 72], (0, 0), hp31)) rfl rfl ?_
                        first | (refine bs_add rfl (by omega) (by omega) fun z53 hz53 => ?_) | (refine bs_any rfl fun z53 => ?_)
                        have rz53 := n_range z53
                        refine Ev.step (j := 151) (s' := ([some (.ref 69), some (.int z2), some (.int z24), some (.int k45), some (.int k46)], [.int z24, .int z53, .ref 72], (0, 0), hp31)) rfl rfl ?_
                        refine bs_stv (W := [(133, 60, 79)]) (g := 133) 60 79 (0, 7) rfl Hhp31 (bs_R.uq Hhp31 (g := 133) rfl) (by decide) rfl rfl (by decide) rfl rfl (by omega) (by omega) (by dsimp only; omega) (by dsimp only; omega) fun hp54 Hhp54 fhp54 rhp54 ehp54 qhp54 nhp54 => ?_
                        have Fhp54 := sf_fr_tr Fhp31 (sf_fr_wider (W := [(11, 4, 4), (11, 11, 18), (133, 0, 119)]) rfl fhp54)
                        have h55 : sf_rd hp54 72 3 = some z2.toInt := (ehp54 _ _ (Or.inr (by omega))).trans h33
                        have h56 : sf_rd hp54 72 1 = some z13.toInt := (ehp54 _ _ (Or.inr (by omega))).trans h34
                        have h57 : sf_rd hp54 69 18 = some (fnd s.nm 6 (s.h 1) (tok B n lim (i + 2)).v) := (ehp54 _ _ (Or.inl (by decide))).trans Y3X36
                        have K58 := RK_keep Hhp31 fhp54 rfl rfl (nhp54 _ _) Y4X36
                        have R59 := RES_fr Hhp31 fhp54 rfl R37
                        refine Ev.step (j := 153) (s' := ([some (.ref 69), some (.int z2), some (.int z24), some (.int k45), some (.int k46)], [.ref 69], (0, 0), hp54)) rfl rfl ?_
                        exact by
                         refine bs_getU (g := 11) (g1 := 133) rfl rfl Hhp54 (bs_R.uq Hhp54 (g := 11) rfl) (by decide) rfl rfl ?_
                         refine bs_lit (k := 80) rfl rfl fun z60 hz60 => ?_
                         refine Ev.step (j := 159) (s' := ([some (.ref 69), some (.int z2), some (.int z24), some (.int k45), some (.int k46)], [.int z2, .int z60, .ref 72], (0, 0), hp54)) rfl rfl ?_
                         first | (refine bs_add rfl (by omega) (by omega) fun z61 hz61 => ?_) | (refine bs_any rfl fun z61 => ?_)
                         have rz61 := n_range z61
                         refine Ev.step (j := 161) (s' := ([some (.ref 69), some (.int z2), some (.int z24), some (.int k45), some (.int k46)], [.ref 69, .int z61, .ref 72], (0, 0), hp54)) rfl rfl ?_
                         refine bs_getI 11 rfl rfl rfl Hhp54 (bs_R.uq Hhp54 (g := 11) rfl) (by decide) rfl fun z62 hz62 lz62 gz62 => ?_
                         have e63 : z62.toInt = (fnd s.nm 6 (s.h 1) (tok B n lim (i + 2)).v) := Option.some.inj (hz62.symm.trans h57)
                         refine bs_stv (W := [(133, 80, 99)]) (g := 133) 80 99 (0, 7) rfl Hhp54 (bs_R.uq Hhp54 (g := 133) rfl) (by decide) rfl rfl (by decide) rfl rfl (by omega) (by omega) (by dsimp only; omega) (by dsimp only; omega) fun hp64 Hhp64 fhp64 rhp64 ehp64 qhp64 nhp64 => ?_
                         have Fhp64 := sf_fr_tr Fhp54 (sf_fr_wider (W := [(11, 4, 4), (11, 11, 18), (133, 0, 119)]) rfl fhp64)
                         have h65 : sf_rd hp64 72 3 = some z2.toInt := (ehp64 _ _ (Or.inr (by omega))).trans h55
                         have h66 : sf_rd hp64 72 1 = some z13.toInt := (ehp64 _ _ (Or.inr (by omega))).trans h56
                         have h67 : sf_rd hp64 69 18 = some (fnd s.nm 6 (s.h 1) (tok B n lim (i + 2)).v) := (ehp64 _ _ (Or.inl (by decide))).trans h57
                         have K68 := RK_keep Hhp54 fhp64 rfl rfl (nhp64 _ _) K58
                         have R69 := RES_fr Hhp54 fhp64 rfl R59
                         refine Ev.step (j := 166) (s' := ([some (.ref 69), some (.int z2), some (.int z24), some (.int k45), some (.int k46)], [.ref 69], (0, 0), hp64)) rfl rfl ?_
                         exact by
                          refine bs_callx (K := kq_X11_next_v) [.ref 69] [] rfl ce_X11_next_v Hhp64 rfl rfl rfl (bs_rcv (g := 11) Hhp64 (bs_R.uq Hhp64 (g := 11) rfl) (by decide) rfl) rfl ?_ (sf_S_nil) fun r70 hp71 thp71 Hhp71 fhp71 ahp71 php71 xhp71 => ?_
                          · intro q k h
                            match q, h with
                            | 0, h => cases h; exact bs_jR (bs_R.uq Hhp64 (g := 11) rfl)
                            | q + 1, h => cases h
                          obtain rfl := ahp71.1 rfl
                          have Fhp71 := sf_fr_tr Fhp64 (sf_fr_wider (W := [(11, 4, 4), (11, 11, 18), (133, 0, 119)]) rfl fhp71)
                          have h72 : sf_rd hp71 72 3 = some z2.toInt := (fhp71.2.2.1 _ (bs_R.uq Hhp64 (g := 133) (p := 72) rfl).1 _ (by rw [(bs_R.uq Hhp64 (g := 133) (p := 72) rfl).2]; rfl)).trans h65
                          have h73 : sf_rd hp71 72 1 = some z13.toInt := (fhp71.2.2.1 _ (bs_R.uq Hhp64 (g := 133) (p := 72) rfl).1 _ (by rw [(bs_R.uq Hhp64 (g := 133) (p := 72) rfl).2]; rfl)).trans h66
                          have h74 : sf_rd hp71 69 18 = some (fnd s.nm 6 (s.h 1) (tok B n lim (i + 2)).v) := (fhp71.2.2.1 _ (bs_R.uq Hhp64 (g := 11) (p := 69) rfl).1 _ (by rw [(bs_R.uq Hhp64 (g := 11) (p := 69) rfl).2]; rfl)).trans h67
                          have h75 : sf_rd hp71 72 z61.toInt.toNat = some z62.toInt := (fhp71.2.2.1 _ (bs_R.uq Hhp64 (g := 133) (p := 72) rfl).1 _ (by rw [(bs_R.uq Hhp64 (g := 133) (p := 72) rfl).2]; rfl)).trans rhp64
                          refine (show Ev _ 169 ([some (.ref 69), some (.int z2), some (.int z24), some (.int k45), some (.int k46)], [], (0, 0), hp71) _ from ?_)
                          have K76 := (RK_next Hhp64 fhp71 rfl rfl rfl xhp71 K68).1
                          have R77 := RES_fr Hhp64 fhp71 rfl R69
                          refine Ev.step (j := 170) (s' := ([some (.ref 69), some (.int z2), some (.int z24), some (.int k45), some (.int k46)], [.ref 69], (0, 0), hp71)) rfl rfl ?_
                          exact by
                           refine bs_lit (k := 100) rfl rfl fun z78 hz78 => ?_
                           refine Ev.step (j := 173) (s' := ([some (.ref 69), some (.int z2), some (.int z24), some (.int k45), some (.int k46)], [.int z2, .int z78, .ref 69], (0, 0), hp71)) rfl rfl ?_
                           first | (refine bs_add rfl (by omega) (by omega) fun z79 hz79 => ?_) | (refine bs_any rfl fun z79 => ?_)
                           have rz79 := n_range z79
                           refine bs_lit (k := 0) rfl rfl fun z80 hz80 => ?_
                           refine bs_lit (k := 60) rfl rfl fun z81 hz81 => ?_
                           refine bs_callx (K := kq_X11_puts_v3) [.ref 69, .int z79, .int z80, .int z81] [] rfl ce_X11_puts_v3 Hhp71 rfl rfl rfl (bs_rcv (g := 11) Hhp71 (bs_R.uq Hhp71 (g := 11) rfl) (by decide) rfl) rfl ?_ (sf_S_cons (sf_s1 (x := z79.toInt) rfl (by omega) (by omega)) (sf_S_cons (sf_s1 (x := z80.toInt) rfl (by omega) (by omega)) (sf_S_cons (sf_s1 (x := z81.toInt) rfl (by omega) (by omega)) (sf_S_nil)))) fun r82 hp83 thp83 Hhp83 fhp83 ahp83 php83 xhp83 => ?_
                           · intro q k h
                             match q, h with
                             | 0, h => cases h; exact bs_jR (bs_R.uq Hhp71 (g := 11) rfl)
                             | 1, h => cases h; exact sf_j0
                             | 2, h => cases h; exact sf_j0
                             | 3, h => cases h; exact sf_j0
                             | q + 4, h => cases h
                           obtain ⟨z84, rfl⟩ := bs_anI ahp83
                           have rgz84 := n_range z84
                           have Fhp83 := sf_fr_tr Fhp71 (sf_fr_wider (W := [(11, 4, 4), (11, 11, 18), (133, 0, 119)]) rfl fhp83)
                           have h85 : sf_rd hp83 72 3 = some z2.toInt := (fhp83.2.2.1 _ (bs_R.uq Hhp71 (g := 133) (p := 72) rfl).1 _ (by rw [(bs_R.uq Hhp71 (g := 133) (p := 72) rfl).2]; rfl)).trans h72
                           have h86 : sf_rd hp83 72 1 = some z13.toInt := (fhp83.2.2.1 _ (bs_R.uq Hhp71 (g := 133) (p := 72) rfl).1 _ (by rw [(bs_R.uq Hhp71 (g := 133) (p := 72) rfl).2]; rfl)).trans h73
                           obtain ⟨uz84, vz84⟩ := bs_s1 (x := z84.toInt) rfl (php83 _ (List.mem_of_getElem? (i := 0) rfl))
                           refine (show Ev _ 180 ([some (.ref 69), some (.int z2), some (.int z24), some (.int k45), some (.int k46)], [.int z84], (0, 0), hp83) _ from ?_)
                           obtain ⟨q87, rq87, X88⟩ := xhp83 _ _ _ B n lim (i + 3) rfl K76
                           obtain rfl := Value.int.inj (Option.some.inj rq87)
                           refine bs_ifne rfl (fun c89 => ?_) (fun c89 => ?_)
                           · skip
                             refine Ev.step (j := 186) (s' := ([some (.ref 69), some (.int z2), some (.int z24), some (.int k45), some (.int k46)], [.ref 69], (0, 0), hp83)) rfl rfl ?_
                             exact by
                              refine bs_getU (g := 11) (g1 := 133) rfl rfl Hhp83 (bs_R.uq Hhp83 (g := 11) rfl) (by decide) rfl rfl ?_
                              refine bs_lit (k := 3) rfl rfl fun z90 hz90 => ?_
                              refine Ev.step (j := 191) (s' := ([some (.ref 69), some (.int z2), some (.int z24), some (.int k45), some (.int k46)], [.int z90, .ref 72, .int z90, .ref 72], (0, 0), hp83)) rfl rfl ?_
                              refine bs_ld (g := 133) 3 3 (0, 20) rfl Hhp83 (bs_R.uq Hhp83 (g := 133) rfl) (by decide) rfl (by decide) (by decide) rfl (by decide) (by omega) (by omega) fun z91 hz91 lz91 gz91 => ?_
                              dsimp only at lz91 gz91
                              replace hz91 := bs_at hz91 (show z90.toInt.toNat = 3 by omega)
                              have e92 : z91.toInt = z2.toInt := Option.some.inj (hz91.symm.trans h85)
                              refine bs_lit (k := 1) rfl rfl fun z93 hz93 => ?_
                              first | (refine bs_add rfl (by omega) (by omega) fun z94 hz94 => ?_) | (refine bs_any rfl fun z94 => ?_)
                              have rz94 := n_range z94
                              refine bs_stv (W := [(133, 3, 3)]) (g := 133) 3 3 (0, 20) rfl Hhp83 (bs_R.uq Hhp83 (g := 133) rfl) (by decide) rfl rfl (by decide) rfl rfl (by omega) (by omega) (by dsimp only; omega) (by dsimp only; omega) fun hp95 Hhp95 fhp95 rhp95 ehp95 qhp95 nhp95 => ?_
                              replace rhp95 := bs_at rhp95 (show z90.toInt.toNat = 3 by omega)
                              have Fhp95 := sf_fr_tr Fhp83 (sf_fr_wider (W := [(11, 4, 4), (11, 11, 18), (133, 0, 119)]) rfl fhp95)
                              have h96 : sf_rd hp95 72 1 = some z13.toInt := (ehp95 _ _ (Or.inr (by omega))).trans h86
                              refine bs_lit (k := 1) rfl rfl fun z97 hz97 => ?_
                              exact bs_zret rfl rfl (by omega) (by omega) (by rw [hQ]; exact ⟨thp83, Hhp95, Fhp95, bs_an0, sf_S_cons (sf_s1 (x := z97.toInt) rfl (by omega) (by omega)) (sf_S_nil), (fun _ => by
                                      skip
                                      rw [show lnMiss (tok B n lim) s i = _ from if_neg (by omega)]
                                      rw [lold_o Y1X20 (by omega)]
                                      rw [lold_o Y1X36 (by omega)]
                                      obtain ⟨M1, M2⟩ := i49.mp (by omega)
                                      rw [if_neg (fun h => h.elim M1 (fun e => by obtain ⟨j, j1, j2, j3⟩ := (mtold_iff _).mp e; exact M2 j (by omega) ⟨j2, j3⟩))]
                                      obtain ⟨V0, V1, V2, V3, V4, V5, V6⟩ := X88.resolve_right (fun h => absurd h.1 (by omega))
                                      rw [lnum_o V1 (by omega) (by omega)]
                                      have EQ : z79.toInt.toNat = 100 + (s.h 3).toNat := by omega
                                      rw [EQ] at V4 V5
                                      exact RRES_ok ⟨z97, rfl, by omega⟩ (SR_miss S38 (by omega) (by omega) (rhp95.trans (congrArg some (by omega))) ((ehp95 _ _ (Or.inr (by omega))).trans ((V5 (60 + (s.h 3).toNat) (by omega)).trans ((fhp71.2.2.1 _ (bs_R.uq Hhp64 (g := 133) (p := 72) rfl).1 _ (by rw [(bs_R.uq Hhp64 (g := 133) (p := 72) rfl).2]; rfl)).trans ((ehp64 _ _ (Or.inr (by omega))).trans ((bs_at rhp54 (show z53.toInt.toNat = 60 + (s.h 3).toNat by omega)).trans (congrArg some (by omega))))))) ((ehp95 _ _ (Or.inr (by omega))).trans ((V5 (80 + (s.h 3).toNat) (by omega)).trans ((fhp71.2.2.1 _ (bs_R.uq Hhp64 (g := 133) (p := 72) rfl).1 _ (by rw [(bs_R.uq Hhp64 (g := 133) (p := 72) rfl).2]; rfl)).trans ((bs_at rhp64 (show z61.toInt.toNat = 80 + (s.h 3).toNat by omega)).trans (congrArg some (by omega)))))) ((ehp95 _ _ (Or.inr (by omega))).trans V4) (fun q h1 h2 h3 h4 => (ehp95 _ _ (Or.inr (by omega))).trans ((V5 q h4).trans (((fhp71.2.2.1 _ (bs_R.uq Hhp64 (g := 133) (p := 72) rfl).1 _ (by rw [(bs_R.uq Hhp64 (g := 133) (p := 72) rfl).2]; rfl)).trans ((ehp64 _ _ (Or.inr (by omega))).trans (ehp54 _ _ (Or.inr (by omega)))))))) (((ehp95 _ _ (Or.inl (by decide))).trans ((fhp83.2.2.1 _ (bs_R.uq Hhp71 (g := 11) (p := 69) rfl).1 _ (by rw [(bs_R.uq Hhp71 (g := 11) (p := 69) rfl).2]; rfl)).trans ((fhp71.2.2.1 _ (bs_R.uq Hhp64 (g := 11) (p := 69) rfl).1 _ (by rw [(bs_R.uq Hhp64 (g := 11) (p := 69) rfl).2]; rfl)).trans ((ehp64 _ _ (Or.inl (by decide))).trans (ehp54 _ _ (Or.inl (by decide)))))))) (((fhp95.2.2.2.1 _ (bs_R.uq Hhp83 (g := 137) rfl).1 (by rw [(bs_R.uq Hhp83 (g := 137) rfl).2]; rfl)).trans ((fhp83.2.2.2.1 _ (bs_R.uq Hhp71 (g := 137) (p := 76) rfl).1 (by rw [(bs_R.uq Hhp71 (g := 137) (p := 76) rfl).2]; rfl)).trans ((fhp71.2.2.2.1 _ (bs_R.uq Hhp64 (g := 137) (p := 76) rfl).1 (by rw [(bs_R.uq Hhp64 (g := 137) (p := 76) rfl).2]; rfl)).trans ((fhp64.2.2.2.1 _ (bs_R.uq Hhp54 (g := 137) rfl).1 (by rw [(bs_R.uq Hhp54 (g := 137) rfl).2]; rfl)).trans (fhp54.2.2.2.1 _ (bs_R.uq Hhp31 (g := 137) rfl).1 (by rw [(bs_R.uq Hhp31 (g := 137) rfl).2]; rfl))))))) (((fhp95.2.2.2.1 _ (bs_R.uq Hhp83 (g := 135) rfl).1 (by rw [(bs_R.uq Hhp83 (g := 135) rfl).2]; rfl)).trans ((fhp83.2.2.2.1 _ (bs_R.uq Hhp71 (g := 135) (p := 74) rfl).1 (by rw [(bs_R.uq Hhp71 (g := 135) (p := 74) rfl).2]; rfl)).trans ((fhp71.2.2.2.1 _ (bs_R.uq Hhp64 (g := 135) (p := 74) rfl).1 (by rw [(bs_R.uq Hhp64 (g := 135) (p := 74) rfl).2]; rfl)).trans ((fhp64.2.2.2.1 _ (bs_R.uq Hhp54 (g := 135) rfl).1 (by rw [(bs_R.uq Hhp54 (g := 135) rfl).2]; rfl)).trans (fhp54.2.2.2.1 _ (bs_R.uq Hhp31 (g := 135) rfl).1 (by rw [(bs_R.uq Hhp31 (g := 135) rfl).2]; rfl)))))))) (RK_keep Hhp83 fhp95 rfl rfl (nhp95 _ _) V6))⟩)
                           · skip
                             have c98 : z84.toInt = 0 := by omega
                             refine bs_lit (k := 0) rfl rfl fun z99 hz99 => ?_
                             exact bs_zret rfl rfl (by omega) (by omega) (by rw [hQ]; exact ⟨thp83, Hhp83, Fhp83, bs_an0, sf_S_cons (sf_s1 (x := z99.toInt) rfl (by omega) (by omega)) (sf_S_nil), (fun _ => by
                                     skip
                                     rw [show lnMiss (tok B n lim) s i = _ from if_neg (by omega)]
                                     rw [lold_o Y1X20 (by omega)]
                                     rw [lold_o Y1X36 (by omega)]
                                     obtain ⟨M1, M2⟩ := i49.mp (by omega)
                                     rw [if_neg (fun h => h.elim M1 (fun e => by obtain ⟨j, j1, j2, j3⟩ := (mtold_iff _).mp e; exact M2 j (by omega) ⟨j2, j3⟩))]
                                     rcases X88.resolve_left (fun h => absurd h.1 (by omega)) with ⟨Y0, P1, ⟨P2, P3⟩ | ⟨⟨P2, P4⟩, P3⟩⟩
                                     · rw [lnum_1 P2]
                                       exact RRES_bad ⟨z99, rfl, by omega⟩ P3 P1
                                     · rw [lnum_2 P2 (by omega)]
                                       exact RRES_bad ⟨z99, rfl, by omega⟩ P3 P1)⟩)
                     · skip
                       have c100 : k45.toInt = 0 := by omega
                       refine Ev.step (j := 137) (s' := ([some (.ref 69), some (.int z2), some (.int z24), some (.int k45), some (.int k46)], [.ref 69], (0, 0), hp31)) rfl rfl ?_
                       exact by
                        refine bs_lit (k := 3) rfl rfl fun z101 hz101 => ?_
                        refine Ev.inl (L := L_X11_bad) (nL := 2) rfl (bs_rcv (g := 11) Hhp31 (bs_R.uq Hhp31 (g := 11) rfl) (by decide) rfl) rfl (Nat.le_of_ble_eq_true rfl) ?_
                        generalize hQ102 : (fun (o : ab_O) => Ev _ _ _ _) = Q102
                        refine (show Ev (ab_T L_X11_bad) 0 ([some (.ref 69), some (.int z101)], [], (0, 0), hp31) Q102 from ?_)
                        refine Ev.step (j := 1) (s' := ([some (.ref 69), some (.int z101)], [.ref 69], (0, 0), hp31)) rfl rfl ?_
                        refine Ev.step (j := 2) (s' := ([some (.ref 69), some (.int z101)], [.int z101, .ref 69], (0, 0), hp31)) rfl rfl ?_
                        refine bs_putIv (W := [(11, 15, 15)]) (g := 11) rfl rfl Hhp31 (bs_R.uq Hhp31 (g := 11) rfl) (by decide) rfl rfl rfl rfl (Or.inl rfl) (by omega) (by omega) fun hp103 Hhp103 fhp103 rhp103 ehp103 qhp103 nhp103 => ?_
                        have Fhp103 := sf_fr_tr Fhp31 (sf_fr_wider (W := [(11, 4, 4), (11, 11, 18), (133, 0, 119)]) rfl fhp103)
                        have h104 : sf_rd hp103 72 3 = some z2.toInt := (ehp103 _ _ (Or.inl (by decide))).trans h33
                        have h105 : sf_rd hp103 72 1 = some z13.toInt := (ehp103 _ _ (Or.inl (by decide))).trans h34
                        have h106 : sf_rd hp103 69 18 = some (fnd s.nm 6 (s.h 1) (tok B n lim (i + 2)).v) := (ehp103 _ _ (Or.inr (by omega))).trans Y3X36
                        refine Ev.step (j := 6) (s' := ([some (.ref 69), some (.int z101)], [.ref 69], (0, 0), hp103)) rfl rfl ?_
                        exact by
                         refine Ev.step (j := 7) (s' := ([some (.ref 69), some (.int z101)], [.ref 69, .ref 69], (0, 0), hp103)) rfl rfl ?_
                         refine bs_getI 11 rfl rfl rfl Hhp103 (bs_R.uq Hhp103 (g := 11) rfl) (by decide) rfl fun z107 hz107 lz107 gz107 => ?_
                         refine bs_putIv (W := [(11, 16, 16)]) (g := 11) rfl rfl Hhp103 (bs_R.uq Hhp103 (g := 11) rfl) (by decide) rfl rfl rfl rfl (Or.inl rfl) (by omega) (by omega) fun hp108 Hhp108 fhp108 rhp108 ehp108 qhp108 nhp108 => ?_
                         have Fhp108 := sf_fr_tr Fhp103 (sf_fr_wider (W := [(11, 4, 4), (11, 11, 18), (133, 0, 119)]) rfl fhp108)
                         have h109 : sf_rd hp108 72 3 = some z2.toInt := (ehp108 _ _ (Or.inl (by decide))).trans h104
                         have h110 : sf_rd hp108 72 1 = some z13.toInt := (ehp108 _ _ (Or.inl (by decide))).trans h105
                         have h111 : sf_rd hp108 69 18 = some (fnd s.nm 6 (s.h 1) (tok B n lim (i + 2)).v) := (ehp108 _ _ (Or.inr (by omega))).trans h106
                         have h112 : sf_rd hp108 69 15 = some z101.toInt := (ehp108 _ _ (Or.inr (by omega))).trans rhp103
                         have h113 : sf_rd hp108 69 12 = some z107.toInt := (ehp108 _ _ (Or.inr (by omega))).trans hz107
                         refine bs_lit (k := 0) rfl rfl fun z114 hz114 => ?_
                         exact by
                          refine bs_zret rfl rfl (by omega) (by omega) ?_
                          rw [← hQ102]
                          refine (show Ev _ 141 ([some (.ref 69), some (.int z2), some (.int z24), some (.int k45), some (.int k46)], [.int z114], (0, 0), hp108) _ from ?_)
                          exact bs_zret rfl rfl (by omega) (by omega) (by rw [hQ]; exact ⟨thp31, Hhp108, Fhp108, bs_an0, sf_S_cons (sf_s1 (x := z114.toInt) rfl (by omega) (by omega)) (sf_S_nil), (fun _ => by
                                  skip
                                  rw [show lnMiss (tok B n lim) s i = _ from if_neg (by omega)]
                                  rw [lold_o Y1X20 (by omega)]
                                  rw [lold_o Y1X36 (by omega)]
                                  rw [if_pos (by rcases Decidable.em (fnd s.nm 6 (s.h 1) (tok B n lim (i + 1)).v = fnd s.nm 6 (s.h 1) (tok B n lim (i + 2)).v) with e | e; exact Or.inl e; exact Or.inr ((mtold_iff _).mpr (Classical.byContradiction fun hn => absurd (i49.mpr ⟨e, fun j hj hh => hn ⟨j, by omega, hh.1, hh.2⟩⟩) (by omega))))]
                                  have PL : z107.toInt = (tok B n lim (i + 2)).pl := Option.some.inj (hz107.symm.trans (((ehp103 _ _ (Or.inr (by omega)))).trans (RK_pl Y4X36)))
                                  exact RRES_bad ⟨z114, rfl, by omega⟩ (h112.trans (congrArg some (by omega))) (rhp108.trans (congrArg some PL)))⟩)
                   · skip
                     refine Ev.step (j := 86) (s' := ([some (.ref 69), some (.int z2), some (.int z24), some (.int k45), some (.int k46)], [.int k45], (0, 0), hp31)) rfl rfl ?_
                     exact by
                      refine bs_ifeq rfl (fun c115 => ?_) (fun c115 => ?_)
                      · skip
                        have c116 : k45.toInt = 0 := by omega
                        refine bs_lit (k := 0) rfl rfl fun z117 hz117 => ?_
                        refine Ev.step (j := 126) (s' := ([some (.ref 69), some (.int z2), some (.int z24), some (.int z117), some (.int k46)], [], (0, 0), hp31)) rfl rfl ?_
                        refine bs_iinc (1) rfl rfl rfl rfl (by omega) (by omega) fun z118 hz118 => ?_
                        refine (show Ev _ 129 ([some (.ref 69), some (.int z2), some (.int z24), some (.int z117), some (.int z118)], [], (0, 0), hp31) _ from ?_)
                        refine Ev.step (j := 79) (s' := ([some (.ref 69), some (.int z2), some (.int z24), some (.int z117), some (.int z118)], [], (0, 0), hp31)) rfl rfl ?_
                        have INV : (z117.toInt = 1 ↔ fnd s.nm 6 (s.h 1) (tok B n lim (i + 1)).v ≠ fnd s.nm 6 (s.h 1) (tok B n lim (i + 2)).v ∧ ∀ j : Nat, (j : Int) < z118.toInt → ¬ (s.h (60 + j) = fnd s.nm 6 (s.h 1) (tok B n lim (i + 1)).v ∧ s.h (80 + j) = fnd s.nm 6 (s.h 1) (tok B n lim (i + 2)).v)) := ⟨fun e => absurd e (by omega), fun h => by have := i49.mpr ⟨h.1, fun j hj => h.2 j (by omega)⟩; omega⟩
                        refine ih47 (z117, z118) ⟨(by first | omega | assumption), (by exact INV)⟩ ?_
                        show (20 - z118.toInt).toNat < (20 - k46.toInt).toNat
                        omega
                      · skip
                        refine Ev.step (j := 90) (s' := ([some (.ref 69), some (.int z2), some (.int z24), some (.int k45), some (.int k46)], [.ref 69], (0, 0), hp31)) rfl rfl ?_
                        exact by
                         refine bs_getU (g := 11) (g1 := 133) rfl rfl Hhp31 (bs_R.uq Hhp31 (g := 11) rfl) (by decide) rfl rfl ?_
                         refine bs_lit (k := 60) rfl rfl fun z119 hz119 => ?_
                         refine Ev.step (j := 97) (s' := ([some (.ref 69), some (.int z2), some (.int z24), some (.int k45), some (.int k46)], [.int k46, .int z119, .ref 72], (0, 0), hp31)) rfl rfl ?_
                         first | (refine bs_add rfl (by omega) (by omega) fun z120 hz120 => ?_) | (refine bs_any rfl fun z120 => ?_)
                         have rz120 := n_range z120
                         refine bs_ld (g := 133) 60 79 (0, 7) rfl Hhp31 (bs_R.uq Hhp31 (g := 133) rfl) (by decide) rfl (by decide) (by decide) rfl (by decide) (by omega) (by omega) fun z121 hz121 lz121 gz121 => ?_
                         dsimp only at lz121 gz121
                         have V6 : z121.toInt = s.h (60 + k46.toInt.toNat) := Option.some.inj (hz121.symm.trans (bs_at (S38.1 (60 + k46.toInt.toNat) (by omega)) (by omega)))
                         refine Ev.step (j := 100) (s' := ([some (.ref 69), some (.int z2), some (.int z24), some (.int k45), some (.int k46)], [.int z24, .int z121], (0, 0), hp31)) rfl rfl ?_
                         exact by
                          refine bs_ne rfl (fun c122 => ?_) (fun c122 => ?_)
                          · skip
                            refine bs_lit (k := 1) rfl rfl fun z123 hz123 => ?_
                            refine Ev.step (j := 125) (s' := ([some (.ref 69), some (.int z2), some (.int z24), some (.int k45), some (.int k46)], [.int z123], (0, 0), hp31)) rfl rfl ?_
                            refine Ev.step (j := 126) (s' := ([some (.ref 69), some (.int z2), some (.int z24), some (.int z123), some (.int k46)], [], (0, 0), hp31)) rfl rfl ?_
                            refine bs_iinc (1) rfl rfl rfl rfl (by omega) (by omega) fun z124 hz124 => ?_
                            refine (show Ev _ 129 ([some (.ref 69), some (.int z2), some (.int z24), some (.int z123), some (.int z124)], [], (0, 0), hp31) _ from ?_)
                            refine Ev.step (j := 79) (s' := ([some (.ref 69), some (.int z2), some (.int z24), some (.int z123), some (.int z124)], [], (0, 0), hp31)) rfl rfl ?_
                            have INV : (z123.toInt = 1 ↔ fnd s.nm 6 (s.h 1) (tok B n lim (i + 1)).v ≠ fnd s.nm 6 (s.h 1) (tok B n lim (i + 2)).v ∧ ∀ j : Nat, (j : Int) < z124.toInt → ¬ (s.h (60 + j) = fnd s.nm 6 (s.h 1) (tok B n lim (i + 1)).v ∧ s.h (80 + j) = fnd s.nm 6 (s.h 1) (tok B n lim (i + 2)).v)) := ⟨fun _ => ⟨(i49.mp (by omega)).1, fun j hj => by rcases (show (j : Int) < k46.toInt ∨ j = k46.toInt.toNat by omega) with g | g; exact (i49.mp (by omega)).2 j g; rw [g]; intro h; have h1 := h.1; have h2 := h.2; omega⟩, fun _ => by omega⟩
                            refine ih47 (z123, z124) ⟨(by first | omega | assumption), (by exact INV)⟩ ?_
                            show (20 - z124.toInt).toNat < (20 - k46.toInt).toNat
                            omega
                          · skip
                            refine Ev.step (j := 104) (s' := ([some (.ref 69), some (.int z2), some (.int z24), some (.int k45), some (.int k46)], [.ref 69], (0, 0), hp31)) rfl rfl ?_
                            exact by
                             refine bs_getU (g := 11) (g1 := 133) rfl rfl Hhp31 (bs_R.uq Hhp31 (g := 11) rfl) (by decide) rfl rfl ?_
                             refine bs_lit (k := 80) rfl rfl fun z125 hz125 => ?_
                             refine Ev.step (j := 111) (s' := ([some (.ref 69), some (.int z2), some (.int z24), some (.int k45), some (.int k46)], [.int k46, .int z125, .ref 72], (0, 0), hp31)) rfl rfl ?_
                             first | (refine bs_add rfl (by omega) (by omega) fun z126 hz126 => ?_) | (refine bs_any rfl fun z126 => ?_)
                             have rz126 := n_range z126
                             refine bs_ld (g := 133) 80 99 (0, 7) rfl Hhp31 (bs_R.uq Hhp31 (g := 133) rfl) (by decide) rfl (by decide) (by decide) rfl (by decide) (by omega) (by omega) fun z127 hz127 lz127 gz127 => ?_
                             dsimp only at lz127 gz127
                             have V8 : z127.toInt = s.h (80 + k46.toInt.toNat) := Option.some.inj (hz127.symm.trans (bs_at (S38.1 (80 + k46.toInt.toNat) (by omega)) (by omega)))
                             refine Ev.step (j := 114) (s' := ([some (.ref 69), some (.int z2), some (.int z24), some (.int k45), some (.int k46)], [.ref 69, .int z127], (0, 0), hp31)) rfl rfl ?_
                             exact by
                              refine bs_getI 11 rfl rfl rfl Hhp31 (bs_R.uq Hhp31 (g := 11) rfl) (by decide) rfl fun z128 hz128 lz128 gz128 => ?_
                              have e129 : z128.toInt = (fnd s.nm 6 (s.h 1) (tok B n lim (i + 2)).v) := Option.some.inj (hz128.symm.trans Y3X36)
                              refine bs_eq rfl (fun c130 => ?_) (fun c130 => ?_)
                              · skip
                                refine bs_lit (k := 0) rfl rfl fun z131 hz131 => ?_
                                refine Ev.step (j := 126) (s' := ([some (.ref 69), some (.int z2), some (.int z24), some (.int z131), some (.int k46)], [], (0, 0), hp31)) rfl rfl ?_
                                refine bs_iinc (1) rfl rfl rfl rfl (by omega) (by omega) fun z132 hz132 => ?_
                                refine (show Ev _ 129 ([some (.ref 69), some (.int z2), some (.int z24), some (.int z131), some (.int z132)], [], (0, 0), hp31) _ from ?_)
                                refine Ev.step (j := 79) (s' := ([some (.ref 69), some (.int z2), some (.int z24), some (.int z131), some (.int z132)], [], (0, 0), hp31)) rfl rfl ?_
                                have INV : (z131.toInt = 1 ↔ fnd s.nm 6 (s.h 1) (tok B n lim (i + 1)).v ≠ fnd s.nm 6 (s.h 1) (tok B n lim (i + 2)).v ∧ ∀ j : Nat, (j : Int) < z132.toInt → ¬ (s.h (60 + j) = fnd s.nm 6 (s.h 1) (tok B n lim (i + 1)).v ∧ s.h (80 + j) = fnd s.nm 6 (s.h 1) (tok B n lim (i + 2)).v)) := ⟨fun e => absurd e (by omega), fun h => absurd ⟨by omega, by omega⟩ (h.2 k46.toInt.toNat (by omega))⟩
                                refine ih47 (z131, z132) ⟨(by first | omega | assumption), (by exact INV)⟩ ?_
                                show (20 - z132.toInt).toNat < (20 - k46.toInt).toNat
                                omega
                              · skip
                                refine bs_lit (k := 1) rfl rfl fun z133 hz133 => ?_
                                exact by
                                 refine Ev.step (j := 125) (s' := ([some (.ref 69), some (.int z2), some (.int z24), some (.int k45), some (.int k46)], [.int z133], (0, 0), hp31)) rfl rfl ?_
                                 refine Ev.step (j := 126) (s' := ([some (.ref 69), some (.int z2), some (.int z24), some (.int z133), some (.int k46)], [], (0, 0), hp31)) rfl rfl ?_
                                 refine bs_iinc (1) rfl rfl rfl rfl (by omega) (by omega) fun z134 hz134 => ?_
                                 refine (show Ev _ 129 ([some (.ref 69), some (.int z2), some (.int z24), some (.int z133), some (.int z134)], [], (0, 0), hp31) _ from ?_)
                                 refine Ev.step (j := 79) (s' := ([some (.ref 69), some (.int z2), some (.int z24), some (.int z133), some (.int z134)], [], (0, 0), hp31)) rfl rfl ?_
                                 have INV : (z133.toInt = 1 ↔ fnd s.nm 6 (s.h 1) (tok B n lim (i + 1)).v ≠ fnd s.nm 6 (s.h 1) (tok B n lim (i + 2)).v ∧ ∀ j : Nat, (j : Int) < z134.toInt → ¬ (s.h (60 + j) = fnd s.nm 6 (s.h 1) (tok B n lim (i + 1)).v ∧ s.h (80 + j) = fnd s.nm 6 (s.h 1) (tok B n lim (i + 2)).v)) := ⟨fun _ => ⟨(i49.mp (by omega)).1, fun j hj => by rcases (show (j : Int) < k46.toInt ∨ j = k46.toInt.toNat by omega) with g | g; exact (i49.mp (by omega)).2 j g; rw [g]; intro h; have h1 := h.1; have h2 := h.2; omega⟩, fun _ => by omega⟩
                                 refine ih47 (z133, z134) ⟨(by first | omega | assumption), (by exact INV)⟩ ?_
                                 show (20 - z134.toInt).toNat < (20 - k46.toInt).toNat
                                 omega
                · skip
                  refine bs_lit (k := 1) rfl rfl fun z135 hz135 => ?_
                  exact by
                   refine Ev.step (j := 75) (s' := ([some (.ref 69), some (.int z2), some (.int z24), none, none], [.int z135], (0, 0), hp31)) rfl rfl ?_
                   refine Ev.step (j := 76) (s' := ([some (.ref 69), some (.int z2), some (.int z24), some (.int z135), none], [], (0, 0), hp31)) rfl rfl ?_
                   refine bs_lit (k := 0) rfl rfl fun z136 hz136 => ?_
                   refine Ev.step (j := 79) (s' := ([some (.ref 69), some (.int z2), some (.int z24), some (.int z135), some (.int z136)], [], (0, 0), hp31)) rfl rfl ?_
                   have INV : (z135.toInt = 1 ↔ fnd s.nm 6 (s.h 1) (tok B n lim (i + 1)).v ≠ fnd s.nm 6 (s.h 1) (tok B n lim (i + 2)).v ∧ ∀ j : Nat, (j : Int) < z136.toInt → ¬ (s.h (60 + j) = fnd s.nm 6 (s.h 1) (tok B n lim (i + 1)).v ∧ s.h (80 + j) = fnd s.nm 6 (s.h 1) (tok B n lim (i + 2)).v)) := ⟨fun e => ⟨by omega, fun j hj => absurd hj (by omega)⟩, fun h => by have h1 := h.1; omega⟩
                   refine bs_loop (ι := Int32 × Int32) (fun ⟨k137, k138⟩ => ([some (.ref 69), some (.int z2), some (.int z24), some (.int k137), some (.int k138)], [], (0, 0), hp31)) (fun ⟨k137, k138⟩ => (0 ≤ k137.toInt ∧ k137.toInt ≤ 1 ∧ 0 ≤ k138.toInt ∧ k138.toInt ≤ 20 ∧ k138.toInt ≤ z2.toInt) ∧ ((k137.toInt = 1 ↔ fnd s.nm 6 (s.h 1) (tok B n lim (i + 1)).v ≠ fnd s.nm 6 (s.h 1) (tok B n lim (i + 2)).v ∧ ∀ j : Nat, (j : Int) < k138.toInt → ¬ (s.h (60 + j) = fnd s.nm 6 (s.h 1) (tok B n lim (i + 1)).v ∧ s.h (80 + j) = fnd s.nm 6 (s.h 1) (tok B n lim (i + 2)).v)))) (fun ⟨k137, k138⟩ => (20 - k138.toInt).toNat) ?_ (z135, z136) ⟨(by first | omega | assumption), (by exact INV)⟩
                   rintro ⟨k137, k138⟩ ⟨i140, i141⟩ ih139
                   clear INV
                   refine (show Ev _ 79 ([some (.ref 69), some (.int z2), some (.int z24), some (.int k137), some (.int k138)], [], (0, 0), hp31) _ from ?_)
                   exact by
                    refine Ev.step (j := 81) (s' := ([some (.ref 69), some (.int z2), some (.int z24), some (.int k137), some (.int k138)], [.int k138], (0, 0), hp31)) rfl rfl ?_
                    refine Ev.step (j := 82) (s' := ([some (.ref 69), some (.int z2), some (.int z24), some (.int k137), some (.int k138)], [.int z2, .int k138], (0, 0), hp31)) rfl rfl ?_
                    refine bs_ge rfl (fun c142 => ?_) (fun c142 => ?_)
                    · skip
                      refine Ev.step (j := 133) (s' := ([some (.ref 69), some (.int z2), some (.int z24), some (.int k137), some (.int k138)], [.int k137], (0, 0), hp31)) rfl rfl ?_
                      refine bs_ifne rfl (fun c143 => ?_) (fun c143 => ?_)
                      · skip
                        refine Ev.step (j := 143) (s' := ([some (.ref 69), some (.int z2), some (.int z24), some (.int k137), some (.int k138)], [.ref 69], (0, 0), hp31)) rfl rfl ?_
                        refine bs_getU (g := 11) (g1 := 133) rfl rfl Hhp31 (bs_R.uq Hhp31 (g := 11) rfl) (by decide) rfl rfl ?_
                        refine bs_lit (k := 60) rfl rfl fun z144 hz144 => ?_
                        exact by
                         refine Ev.step (j := 149) (s' := ([some (.ref 69), some (.int z2), some (.int z24), some (.int k137), some (.int k138)], [.int z2, .int z144, .ref 72], (0, 0), hp31)) rfl rfl ?_
                         first | (refine bs_add rfl (by omega) (by omega) fun z145 hz145 => ?_) | (refine bs_any rfl fun z145 => ?_)
                         have rz145 := n_range z145
                         refine Ev.step (j := 151) (s' := ([some (.ref 69), some (.int z2), some (.int z24), some (.int k137), some (.int k138)], [.int z24, .int z145, .ref 72], (0, 0), hp31)) rfl rfl ?_
                         refine bs_stv (W := [(133, 60, 79)]) (g := 133) 60 79 (0, 7) rfl Hhp31 (bs_R.uq Hhp31 (g := 133) rfl) (by decide) rfl rfl (by decide) rfl rfl (by omega) (by omega) (by dsimp only; omega) (by dsimp only; omega) fun hp146 Hhp146 fhp146 rhp146 ehp146 qhp146 nhp146 => ?_
                         have Fhp146 := sf_fr_tr Fhp31 (sf_fr_wider (W := [(11, 4, 4), (11, 11, 18), (133, 0, 119)]) rfl fhp146)
                         have h147 : sf_rd hp146 72 3 = some z2.toInt := (ehp146 _ _ (Or.inr (by omega))).trans h33
                         have h148 : sf_rd hp146 72 1 = some z13.toInt := (ehp146 _ _ (Or.inr (by omega))).trans h34
                         have h149 : sf_rd hp146 69 18 = some (fnd s.nm 6 (s.h 1) (tok B n lim (i + 2)).v) := (ehp146 _ _ (Or.inl (by decide))).trans Y3X36
                         have K150 := RK_keep Hhp31 fhp146 rfl rfl (nhp146 _ _) Y4X36
                         have R151 := RES_fr Hhp31 fhp146 rfl R37
                         refine Ev.step (j := 153) (s' := ([some (.ref 69), some (.int z2), some (.int z24), some (.int k137), some (.int k138)], [.ref 69], (0, 0), hp146)) rfl rfl ?_
                         exact by
                          refine bs_getU (g := 11) (g1 := 133) rfl rfl Hhp146 (bs_R.uq Hhp146 (g := 11) rfl) (by decide) rfl rfl ?_
                          refine bs_lit (k := 80) rfl rfl fun z152 hz152 => ?_
                          refine Ev.step (j := 159) (s' := ([some (.ref 69), some (.int z2), some (.int z24), some (.int k137), some (.int k138)], [.int z2, .int z152, .ref 72], (0, 0), hp146)) rfl rfl ?_
                          first | (refine bs_add rfl (by omega) (by omega) fun z153 hz153 => ?_) | (refine bs_any rfl fun z153 => ?_)
                          have rz153 := n_range z153
                          refine Ev.step (j := 161) (s' := ([some (.ref 69), some (.int z2), some (.int z24), some (.int k137), some (.int k138)], [.ref 69, .int z153, .ref 72], (0, 0), hp146)) rfl rfl ?_
                          refine bs_getI 11 rfl rfl rfl Hhp146 (bs_R.uq Hhp146 (g := 11) rfl) (by decide) rfl fun z154 hz154 lz154 gz154 => ?_
                          have e155 : z154.toInt = (fnd s.nm 6 (s.h 1) (tok B n lim (i + 2)).v) := Option.some.inj (hz154.symm.trans h149)
                          refine bs_stv (W := [(133, 80, 99)]) (g := 133) 80 99 (0, 7) rfl Hhp146 (bs_R.uq Hhp146 (g := 133) rfl) (by decide) rfl rfl (by decide) rfl rfl (by omega) (by omega) (by dsimp only; omega) (by dsimp only; omega) fun hp156 Hhp156 fhp156 rhp156 ehp156 qhp156 nhp156 => ?_
                          have Fhp156 := sf_fr_tr Fhp146 (sf_fr_wider (W := [(11, 4, 4), (11, 11, 18), (133, 0, 119)]) rfl fhp156)
                          have h157 : sf_rd hp156 72 3 = some z2.toInt := (ehp156 _ _ (Or.inr (by omega))).trans h147
                          have h158 : sf_rd hp156 72 1 = some z13.toInt := (ehp156 _ _ (Or.inr (by omega))).trans h148
                          have h159 : sf_rd hp156 69 18 = some (fnd s.nm 6 (s.h 1) (tok B n lim (i + 2)).v) := (ehp156 _ _ (Or.inl (by decide))).trans h149
                          have K160 := RK_keep Hhp146 fhp156 rfl rfl (nhp156 _ _) K150
                          have R161 := RES_fr Hhp146 fhp156 rfl R151
                          refine Ev.step (j := 166) (s' := ([some (.ref 69), some (.int z2), some (.int z24), some (.int k137), some (.int k138)], [.ref 69], (0, 0), hp156)) rfl rfl ?_
                          exact by
                           refine bs_callx (K := kq_X11_next_v) [.ref 69] [] rfl ce_X11_next_v Hhp156 rfl rfl rfl (bs_rcv (g := 11) Hhp156 (bs_R.uq Hhp156 (g := 11) rfl) (by decide) rfl) rfl ?_ (sf_S_nil) fun r162 hp163 thp163 Hhp163 fhp163 ahp163 php163 xhp163 => ?_
                           · intro q k h
                             match q, h with
                             | 0, h => cases h; exact bs_jR (bs_R.uq Hhp156 (g := 11) rfl)
                             | q + 1, h => cases h
                           obtain rfl := ahp163.1 rfl
                           have Fhp163 := sf_fr_tr Fhp156 (sf_fr_wider (W := [(11, 4, 4), (11, 11, 18), (133, 0, 119)]) rfl fhp163)
                           have h164 : sf_rd hp163 72 3 = some z2.toInt := (fhp163.2.2.1 _ (bs_R.uq Hhp156 (g := 133) (p := 72) rfl).1 _ (by rw [(bs_R.uq Hhp156 (g := 133) (p := 72) rfl).2]; rfl)).trans h157
                           have h165 : sf_rd hp163 72 1 = some z13.toInt := (fhp163.2.2.1 _ (bs_R.uq Hhp156 (g := 133) (p := 72) rfl).1 _ (by rw [(bs_R.uq Hhp156 (g := 133) (p := 72) rfl).2]; rfl)).trans h158
                           have h166 : sf_rd hp163 69 18 = some (fnd s.nm 6 (s.h 1) (tok B n lim (i + 2)).v) := (fhp163.2.2.1 _ (bs_R.uq Hhp156 (g := 11) (p := 69) rfl).1 _ (by rw [(bs_R.uq Hhp156 (g := 11) (p := 69) rfl).2]; rfl)).trans h159
                           have h167 : sf_rd hp163 72 z153.toInt.toNat = some z154.toInt := (fhp163.2.2.1 _ (bs_R.uq Hhp156 (g := 133) (p := 72) rfl).1 _ (by rw [(bs_R.uq Hhp156 (g := 133) (p := 72) rfl).2]; rfl)).trans rhp156
                           refine (show Ev _ 169 ([some (.ref 69), some (.int z2), some (.int z24), some (.int k137), some (.int k138)], [], (0, 0), hp163) _ from ?_)
                           have K168 := (RK_next Hhp156 fhp163 rfl rfl rfl xhp163 K160).1
                           have R169 := RES_fr Hhp156 fhp163 rfl R161
                           refine Ev.step (j := 170) (s' := ([some (.ref 69), some (.int z2), some (.int z24), some (.int k137), some (.int k138)], [.ref 69], (0, 0), hp163)) rfl rfl ?_
                           exact by
                            refine bs_lit (k := 100) rfl rfl fun z170 hz170 => ?_
                            refine Ev.step (j := 173) (s' := ([some (.ref 69), some (.int z2), some (.int z24), some (.int k137), some (.int k138)], [.int z2, .int z170, .ref 69], (0, 0), hp163)) rfl rfl ?_
                            first | (refine bs_add rfl (by omega) (by omega) fun z171 hz171 => ?_) | (refine bs_any rfl fun z171 => ?_)
                            have rz171 := n_range z171
                            refine bs_lit (k := 0) rfl rfl fun z172 hz172 => ?_
                            refine bs_lit (k := 60) rfl rfl fun z173 hz173 => ?_
                            refine bs_callx (K := kq_X11_puts_v3) [.ref 69, .int z171, .int z172, .int z173] [] rfl ce_X11_puts_v3 Hhp163 rfl rfl rfl (bs_rcv (g := 11) Hhp163 (bs_R.uq Hhp163 (g := 11) rfl) (by decide) rfl) rfl ?_ (sf_S_cons (sf_s1 (x := z171.toInt) rfl (by omega) (by omega)) (sf_S_cons (sf_s1 (x := z172.toInt) rfl (by omega) (by omega)) (sf_S_cons (sf_s1 (x := z173.toInt) rfl (by omega) (by omega)) (sf_S_nil)))) fun r174 hp175 thp175 Hhp175 fhp175 ahp175 php175 xhp175 => ?_
                            · intro q k h
                              match q, h with
                              | 0, h => cases h; exact bs_jR (bs_R.uq Hhp163 (g := 11) rfl)
                              | 1, h => cases h; exact sf_j0
                              | 2, h => cases h; exact sf_j0
                              | 3, h => cases h; exact sf_j0
                              | q + 4, h => cases h
                            obtain ⟨z176, rfl⟩ := bs_anI ahp175
                            have rgz176 := n_range z176
                            have Fhp175 := sf_fr_tr Fhp163 (sf_fr_wider (W := [(11, 4, 4), (11, 11, 18), (133, 0, 119)]) rfl fhp175)
                            have h177 : sf_rd hp175 72 3 = some z2.toInt := (fhp175.2.2.1 _ (bs_R.uq Hhp163 (g := 133) (p := 72) rfl).1 _ (by rw [(bs_R.uq Hhp163 (g := 133) (p := 72) rfl).2]; rfl)).trans h164
                            have h178 : sf_rd hp175 72 1 = some z13.toInt := (fhp175.2.2.1 _ (bs_R.uq Hhp163 (g := 133) (p := 72) rfl).1 _ (by rw [(bs_R.uq Hhp163 (g := 133) (p := 72) rfl).2]; rfl)).trans h165
                            obtain ⟨uz176, vz176⟩ := bs_s1 (x := z176.toInt) rfl (php175 _ (List.mem_of_getElem? (i := 0) rfl))
                            refine (show Ev _ 180 ([some (.ref 69), some (.int z2), some (.int z24), some (.int k137), some (.int k138)], [.int z176], (0, 0), hp175) _ from ?_)
                            obtain ⟨q179, rq179, X180⟩ := xhp175 _ _ _ B n lim (i + 3) rfl K168
                            obtain rfl := Value.int.inj (Option.some.inj rq179)
                            refine bs_ifne rfl (fun c181 => ?_) (fun c181 => ?_)
                            · skip
                              refine Ev.step (j := 186) (s' := ([some (.ref 69), some (.int z2), some (.int z24), some (.int k137), some (.int k138)], [.ref 69], (0, 0), hp175)) rfl rfl ?_
                              exact by
                               refine bs_getU (g := 11) (g1 := 133) rfl rfl Hhp175 (bs_R.uq Hhp175 (g := 11) rfl) (by decide) rfl rfl ?_
                               refine bs_lit (k := 3) rfl rfl fun z182 hz182 => ?_
                               refine Ev.step (j := 191) (s' := ([some (.ref 69), some (.int z2), some (.int z24), some (.int k137), some (.int k138)], [.int z182, .ref 72, .int z182, .ref 72], (0, 0), hp175)) rfl rfl ?_
                               refine bs_ld (g := 133) 3 3 (0, 20) rfl Hhp175 (bs_R.uq Hhp175 (g := 133) rfl) (by decide) rfl (by decide) (by decide) rfl (by decide) (by omega) (by omega) fun z183 hz183 lz183 gz183 => ?_
                               dsimp only at lz183 gz183
                               replace hz183 := bs_at hz183 (show z182.toInt.toNat = 3 by omega)
                               have e184 : z183.toInt = z2.toInt := Option.some.inj (hz183.symm.trans h177)
                               refine bs_lit (k := 1) rfl rfl fun z185 hz185 => ?_
                               first | (refine bs_add rfl (by omega) (by omega) fun z186 hz186 => ?_) | (refine bs_any rfl fun z186 => ?_)
                               have rz186 := n_range z186
                               refine bs_stv (W := [(133, 3, 3)]) (g := 133) 3 3 (0, 20) rfl Hhp175 (bs_R.uq Hhp175 (g := 133) rfl) (by decide) rfl rfl (by decide) rfl rfl (by omega) (by omega) (by dsimp only; omega) (by dsimp only; omega) fun hp187 Hhp187 fhp187 rhp187 ehp187 qhp187 nhp187 => ?_
                               replace rhp187 := bs_at rhp187 (show z182.toInt.toNat = 3 by omega)
                               have Fhp187 := sf_fr_tr Fhp175 (sf_fr_wider (W := [(11, 4, 4), (11, 11, 18), (133, 0, 119)]) rfl fhp187)
                               have h188 : sf_rd hp187 72 1 = some z13.toInt := (ehp187 _ _ (Or.inr (by omega))).trans h178
                               refine bs_lit (k := 1) rfl rfl fun z189 hz189 => ?_
                               exact bs_zret rfl rfl (by omega) (by omega) (by rw [hQ]; exact ⟨thp175, Hhp187, Fhp187, bs_an0, sf_S_cons (sf_s1 (x := z189.toInt) rfl (by omega) (by omega)) (sf_S_nil), (fun _ => by
                                       skip
                                       rw [show lnMiss (tok B n lim) s i = _ from if_neg (by omega)]
                                       rw [lold_o Y1X20 (by omega)]
                                       rw [lold_o Y1X36 (by omega)]
                                       obtain ⟨M1, M2⟩ := i141.mp (by omega)
                                       rw [if_neg (fun h => h.elim M1 (fun e => by obtain ⟨j, j1, j2, j3⟩ := (mtold_iff _).mp e; exact M2 j (by omega) ⟨j2, j3⟩))]
                                       obtain ⟨V0, V1, V2, V3, V4, V5, V6⟩ := X180.resolve_right (fun h => absurd h.1 (by omega))
                                       rw [lnum_o V1 (by omega) (by omega)]
                                       have EQ : z171.toInt.toNat = 100 + (s.h 3).toNat := by omega
                                       rw [EQ] at V4 V5
                                       exact RRES_ok ⟨z189, rfl, by omega⟩ (SR_miss S38 (by omega) (by omega) (rhp187.trans (congrArg some (by omega))) ((ehp187 _ _ (Or.inr (by omega))).trans ((V5 (60 + (s.h 3).toNat) (by omega)).trans ((fhp163.2.2.1 _ (bs_R.uq Hhp156 (g := 133) (p := 72) rfl).1 _ (by rw [(bs_R.uq Hhp156 (g := 133) (p := 72) rfl).2]; rfl)).trans ((ehp156 _ _ (Or.inr (by omega))).trans ((bs_at rhp146 (show z145.toInt.toNat = 60 + (s.h 3).toNat by omega)).trans (congrArg some (by omega))))))) ((ehp187 _ _ (Or.inr (by omega))).trans ((V5 (80 + (s.h 3).toNat) (by omega)).trans ((fhp163.2.2.1 _ (bs_R.uq Hhp156 (g := 133) (p := 72) rfl).1 _ (by rw [(bs_R.uq Hhp156 (g := 133) (p := 72) rfl).2]; rfl)).trans ((bs_at rhp156 (show z153.toInt.toNat = 80 + (s.h 3).toNat by omega)).trans (congrArg some (by omega)))))) ((ehp187 _ _ (Or.inr (by omega))).trans V4) (fun q h1 h2 h3 h4 => (ehp187 _ _ (Or.inr (by omega))).trans ((V5 q h4).trans (((fhp163.2.2.1 _ (bs_R.uq Hhp156 (g := 133) (p := 72) rfl).1 _ (by rw [(bs_R.uq Hhp156 (g := 133) (p := 72) rfl).2]; rfl)).trans ((ehp156 _ _ (Or.inr (by omega))).trans (ehp146 _ _ (Or.inr (by omega)))))))) (((ehp187 _ _ (Or.inl (by decide))).trans ((fhp175.2.2.1 _ (bs_R.uq Hhp163 (g := 11) (p := 69) rfl).1 _ (by rw [(bs_R.uq Hhp163 (g := 11) (p := 69) rfl).2]; rfl)).trans ((fhp163.2.2.1 _ (bs_R.uq Hhp156 (g := 11) (p := 69) rfl).1 _ (by rw [(bs_R.uq Hhp156 (g := 11) (p := 69) rfl).2]; rfl)).trans ((ehp156 _ _ (Or.inl (by decide))).trans (ehp146 _ _ (Or.inl (by decide)))))))) (((fhp187.2.2.2.1 _ (bs_R.uq Hhp175 (g := 137) rfl).1 (by rw [(bs_R.uq Hhp175 (g := 137) rfl).2]; rfl)).trans ((fhp175.2.2.2.1 _ (bs_R.uq Hhp163 (g := 137) (p := 76) rfl).1 (by rw [(bs_R.uq Hhp163 (g := 137) (p := 76) rfl).2]; rfl)).trans ((fhp163.2.2.2.1 _ (bs_R.uq Hhp156 (g := 137) (p := 76) rfl).1 (by rw [(bs_R.uq Hhp156 (g := 137) (p := 76) rfl).2]; rfl)).trans ((fhp156.2.2.2.1 _ (bs_R.uq Hhp146 (g := 137) rfl).1 (by rw [(bs_R.uq Hhp146 (g := 137) rfl).2]; rfl)).trans (fhp146.2.2.2.1 _ (bs_R.uq Hhp31 (g := 137) rfl).1 (by rw [(bs_R.uq Hhp31 (g := 137) rfl).2]; rfl))))))) (((fhp187.2.2.2.1 _ (bs_R.uq Hhp175 (g := 135) rfl).1 (by rw [(bs_R.uq Hhp175 (g := 135) rfl).2]; rfl)).trans ((fhp175.2.2.2.1 _ (bs_R.uq Hhp163 (g := 135) (p := 74) rfl).1 (by rw [(bs_R.uq Hhp163 (g := 135) (p := 74) rfl).2]; rfl)).trans ((fhp163.2.2.2.1 _ (bs_R.uq Hhp156 (g := 135) (p := 74) rfl).1 (by rw [(bs_R.uq Hhp156 (g := 135) (p := 74) rfl).2]; rfl)).trans ((fhp156.2.2.2.1 _ (bs_R.uq Hhp146 (g := 135) rfl).1 (by rw [(bs_R.uq Hhp146 (g := 135) rfl).2]; rfl)).trans (fhp146.2.2.2.1 _ (bs_R.uq Hhp31 (g := 135) rfl).1 (by rw [(bs_R.uq Hhp31 (g := 135) rfl).2]; rfl)))))))) (RK_keep Hhp175 fhp187 rfl rfl (nhp187 _ _) V6))⟩)
                            · skip
                              have c190 : z176.toInt = 0 := by omega
                              refine bs_lit (k := 0) rfl rfl fun z191 hz191 => ?_
                              exact bs_zret rfl rfl (by omega) (by omega) (by rw [hQ]; exact ⟨thp175, Hhp175, Fhp175, bs_an0, sf_S_cons (sf_s1 (x := z191.toInt) rfl (by omega) (by omega)) (sf_S_nil), (fun _ => by
                                      skip
                                      rw [show lnMiss (tok B n lim) s i = _ from if_neg (by omega)]
                                      rw [lold_o Y1X20 (by omega)]
                                      rw [lold_o Y1X36 (by omega)]
                                      obtain ⟨M1, M2⟩ := i141.mp (by omega)
                                      rw [if_neg (fun h => h.elim M1 (fun e => by obtain ⟨j, j1, j2, j3⟩ := (mtold_iff _).mp e; exact M2 j (by omega) ⟨j2, j3⟩))]
                                      rcases X180.resolve_left (fun h => absurd h.1 (by omega)) with ⟨Y0, P1, ⟨P2, P3⟩ | ⟨⟨P2, P4⟩, P3⟩⟩
                                      · rw [lnum_1 P2]
                                        exact RRES_bad ⟨z191, rfl, by omega⟩ P3 P1
                                      · rw [lnum_2 P2 (by omega)]
                                        exact RRES_bad ⟨z191, rfl, by omega⟩ P3 P1)⟩)
                      · skip
                        have c192 : k137.toInt = 0 := by omega
                        refine Ev.step (j := 137) (s' := ([some (.ref 69), some (.int z2), some (.int z24), some (.int k137), some (.int k138)], [.ref 69], (0, 0), hp31)) rfl rfl ?_
                        exact by
                         refine bs_lit (k := 3) rfl rfl fun z193 hz193 => ?_
                         refine Ev.inl (L := L_X11_bad) (nL := 2) rfl (bs_rcv (g := 11) Hhp31 (bs_R.uq Hhp31 (g := 11) rfl) (by decide) rfl) rfl (Nat.le_of_ble_eq_true rfl) ?_
                         generalize hQ194 : (fun (o : ab_O) => Ev _ _ _ _) = Q194
                         refine (show Ev (ab_T L_X11_bad) 0 ([some (.ref 69), some (.int z193)], [], (0, 0), hp31) Q194 from ?_)
                         refine Ev.step (j := 1) (s' := ([some (.ref 69), some (.int z193)], [.ref 69], (0, 0), hp31)) rfl rfl ?_
                         refine Ev.step (j := 2) (s' := ([some (.ref 69), some (.int z193)], [.int z193, .ref 69], (0, 0), hp31)) rfl rfl ?_
                         refine bs_putIv (W := [(11, 15, 15)]) (g := 11) rfl rfl Hhp31 (bs_R.uq Hhp31 (g := 11) rfl) (by decide) rfl rfl rfl rfl (Or.inl rfl) (by omega) (by omega) fun hp195 Hhp195 fhp195 rhp195 ehp195 qhp195 nhp195 => ?_
                         have Fhp195 := sf_fr_tr Fhp31 (sf_fr_wider (W := [(11, 4, 4), (11, 11, 18), (133, 0, 119)]) rfl fhp195)
                         have h196 : sf_rd hp195 72 3 = some z2.toInt := (ehp195 _ _ (Or.inl (by decide))).trans h33
                         have h197 : sf_rd hp195 72 1 = some z13.toInt := (ehp195 _ _ (Or.inl (by decide))).trans h34
                         have h198 : sf_rd hp195 69 18 = some (fnd s.nm 6 (s.h 1) (tok B n lim (i + 2)).v) := (ehp195 _ _ (Or.inr (by omega))).trans Y3X36
                         refine Ev.step (j := 6) (s' := ([some (.ref 69), some (.int z193)], [.ref 69], (0, 0), hp195)) rfl rfl ?_
                         exact by
                          refine Ev.step (j := 7) (s' := ([some (.ref 69), some (.int z193)], [.ref 69, .ref 69], (0, 0), hp195)) rfl rfl ?_
                          refine bs_getI 11 rfl rfl rfl Hhp195 (bs_R.uq Hhp195 (g := 11) rfl) (by decide) rfl fun z199 hz199 lz199 gz199 => ?_
                          refine bs_putIv (W := [(11, 16, 16)]) (g := 11) rfl rfl Hhp195 (bs_R.uq Hhp195 (g := 11) rfl) (by decide) rfl rfl rfl rfl (Or.inl rfl) (by omega) (by omega) fun hp200 Hhp200 fhp200 rhp200 ehp200 qhp200 nhp200 => ?_
                          have Fhp200 := sf_fr_tr Fhp195 (sf_fr_wider (W := [(11, 4, 4), (11, 11, 18), (133, 0, 119)]) rfl fhp200)
                          have h201 : sf_rd hp200 72 3 = some z2.toInt := (ehp200 _ _ (Or.inl (by decide))).trans h196
                          have h202 : sf_rd hp200 72 1 = some z13.toInt := (ehp200 _ _ (Or.inl (by decide))).trans h197
                          have h203 : sf_rd hp200 69 18 = some (fnd s.nm 6 (s.h 1) (tok B n lim (i + 2)).v) := (ehp200 _ _ (Or.inr (by omega))).trans h198
                          have h204 : sf_rd hp200 69 15 = some z193.toInt := (ehp200 _ _ (Or.inr (by omega))).trans rhp195
                          have h205 : sf_rd hp200 69 12 = some z199.toInt := (ehp200 _ _ (Or.inr (by omega))).trans hz199
                          refine bs_lit (k := 0) rfl rfl fun z206 hz206 => ?_
                          exact by
                           refine bs_zret rfl rfl (by omega) (by omega) ?_
                           rw [← hQ194]
                           refine (show Ev _ 141 ([some (.ref 69), some (.int z2), some (.int z24), some (.int k137), some (.int k138)], [.int z206], (0, 0), hp200) _ from ?_)
                           exact bs_zret rfl rfl (by omega) (by omega) (by rw [hQ]; exact ⟨thp31, Hhp200, Fhp200, bs_an0, sf_S_cons (sf_s1 (x := z206.toInt) rfl (by omega) (by omega)) (sf_S_nil), (fun _ => by
                                   skip
                                   rw [show lnMiss (tok B n lim) s i = _ from if_neg (by omega)]
                                   rw [lold_o Y1X20 (by omega)]
                                   rw [lold_o Y1X36 (by omega)]
                                   rw [if_pos (by rcases Decidable.em (fnd s.nm 6 (s.h 1) (tok B n lim (i + 1)).v = fnd s.nm 6 (s.h 1) (tok B n lim (i + 2)).v) with e | e; exact Or.inl e; exact Or.inr ((mtold_iff _).mpr (Classical.byContradiction fun hn => absurd (i141.mpr ⟨e, fun j hj hh => hn ⟨j, by omega, hh.1, hh.2⟩⟩) (by omega))))]
                                   have PL : z199.toInt = (tok B n lim (i + 2)).pl := Option.some.inj (hz199.symm.trans (((ehp195 _ _ (Or.inr (by omega)))).trans (RK_pl Y4X36)))
                                   exact RRES_bad ⟨z206, rfl, by omega⟩ (h204.trans (congrArg some (by omega))) (rhp200.trans (congrArg some PL)))⟩)
                    · skip
                      refine Ev.step (j := 86) (s' := ([some (.ref 69), some (.int z2), some (.int z24), some (.int k137), some (.int k138)], [.int k137], (0, 0), hp31)) rfl rfl ?_
                      exact by
                       refine bs_ifeq rfl (fun c207 => ?_) (fun c207 => ?_)
                       · skip
                         have c208 : k137.toInt = 0 := by omega
                         refine bs_lit (k := 0) rfl rfl fun z209 hz209 => ?_
                         refine Ev.step (j := 126) (s' := ([some (.ref 69), some (.int z2), some (.int z24), some (.int z209), some (.int k138)], [], (0, 0), hp31)) rfl rfl ?_
                         refine bs_iinc (1) rfl rfl rfl rfl (by omega) (by omega) fun z210 hz210 => ?_
                         refine (show Ev _ 129 ([some (.ref 69), some (.int z2), some (.int z24), some (.int z209), some (.int z210)], [], (0, 0), hp31) _ from ?_)
                         refine Ev.step (j := 79) (s' := ([some (.ref 69), some (.int z2), some (.int z24), some (.int z209), some (.int z210)], [], (0, 0), hp31)) rfl rfl ?_
                         have INV : (z209.toInt = 1 ↔ fnd s.nm 6 (s.h 1) (tok B n lim (i + 1)).v ≠ fnd s.nm 6 (s.h 1) (tok B n lim (i + 2)).v ∧ ∀ j : Nat, (j : Int) < z210.toInt → ¬ (s.h (60 + j) = fnd s.nm 6 (s.h 1) (tok B n lim (i + 1)).v ∧ s.h (80 + j) = fnd s.nm 6 (s.h 1) (tok B n lim (i + 2)).v)) := ⟨fun e => absurd e (by omega), fun h => by have := i141.mpr ⟨h.1, fun j hj => h.2 j (by omega)⟩; omega⟩
                         refine ih139 (z209, z210) ⟨(by first | omega | assumption), (by exact INV)⟩ ?_
                         show (20 - z210.toInt).toNat < (20 - k138.toInt).toNat
                         omega
                       · skip
                         refine Ev.step (j := 90) (s' := ([some (.ref 69), some (.int z2), some (.int z24), some (.int k137), some (.int k138)], [.ref 69], (0, 0), hp31)) rfl rfl ?_
                         exact by
                          refine bs_getU (g := 11) (g1 := 133) rfl rfl Hhp31 (bs_R.uq Hhp31 (g := 11) rfl) (by decide) rfl rfl ?_
                          refine bs_lit (k := 60) rfl rfl fun z211 hz211 => ?_
                          refine Ev.step (j := 97) (s' := ([some (.ref 69), some (.int z2), some (.int z24), some (.int k137), some (.int k138)], [.int k138, .int z211, .ref 72], (0, 0), hp31)) rfl rfl ?_
                          first | (refine bs_add rfl (by omega) (by omega) fun z212 hz212 => ?_) | (refine bs_any rfl fun z212 => ?_)
                          have rz212 := n_range z212
                          refine bs_ld (g := 133) 60 79 (0, 7) rfl Hhp31 (bs_R.uq Hhp31 (g := 133) rfl) (by decide) rfl (by decide) (by decide) rfl (by decide) (by omega) (by omega) fun z213 hz213 lz213 gz213 => ?_
                          dsimp only at lz213 gz213
                          have V6 : z213.toInt = s.h (60 + k138.toInt.toNat) := Option.some.inj (hz213.symm.trans (bs_at (S38.1 (60 + k138.toInt.toNat) (by omega)) (by omega)))
                          refine Ev.step (j := 100) (s' := ([some (.ref 69), some (.int z2), some (.int z24), some (.int k137), some (.int k138)], [.int z24, .int z213], (0, 0), hp31)) rfl rfl ?_
                          exact by
                           refine bs_ne rfl (fun c214 => ?_) (fun c214 => ?_)
                           · skip
                             refine bs_lit (k := 1) rfl rfl fun z215 hz215 => ?_
                             refine Ev.step (j := 125) (s' := ([some (.ref 69), some (.int z2), some (.int z24), some (.int k137), some (.int k138)], [.int z215], (0, 0), hp31)) rfl rfl ?_
                             refine Ev.step (j := 126) (s' := ([some (.ref 69), some (.int z2), some (.int z24), some (.int z215), some (.int k138)], [], (0, 0), hp31)) rfl rfl ?_
                             refine bs_iinc (1) rfl rfl rfl rfl (by omega) (by omega) fun z216 hz216 => ?_
                             refine (show Ev _ 129 ([some (.ref 69), some (.int z2), some (.int z24), some (.int z215), some (.int z216)], [], (0, 0), hp31) _ from ?_)
                             refine Ev.step (j := 79) (s' := ([some (.ref 69), some (.int z2), some (.int z24), some (.int z215), some (.int z216)], [], (0, 0), hp31)) rfl rfl ?_
                             have INV : (z215.toInt = 1 ↔ fnd s.nm 6 (s.h 1) (tok B n lim (i + 1)).v ≠ fnd s.nm 6 (s.h 1) (tok B n lim (i + 2)).v ∧ ∀ j : Nat, (j : Int) < z216.toInt → ¬ (s.h (60 + j) = fnd s.nm 6 (s.h 1) (tok B n lim (i + 1)).v ∧ s.h (80 + j) = fnd s.nm 6 (s.h 1) (tok B n lim (i + 2)).v)) := ⟨fun _ => ⟨(i141.mp (by omega)).1, fun j hj => by rcases (show (j : Int) < k138.toInt ∨ j = k138.toInt.toNat by omega) with g | g; exact (i141.mp (by omega)).2 j g; rw [g]; intro h; have h1 := h.1; have h2 := h.2; omega⟩, fun _ => by omega⟩
                             refine ih139 (z215, z216) ⟨(by first | omega | assumption), (by exact INV)⟩ ?_
                             show (20 - z216.toInt).toNat < (20 - k138.toInt).toNat
                             omega
                           · skip
                             refine Ev.step (j := 104) (s' := ([some (.ref 69), some (.int z2), some (.int z24), some (.int k137), some (.int k138)], [.ref 69], (0, 0), hp31)) rfl rfl ?_
                             exact by
                              refine bs_getU (g := 11) (g1 := 133) rfl rfl Hhp31 (bs_R.uq Hhp31 (g := 11) rfl) (by decide) rfl rfl ?_
                              refine bs_lit (k := 80) rfl rfl fun z217 hz217 => ?_
                              refine Ev.step (j := 111) (s' := ([some (.ref 69), some (.int z2), some (.int z24), some (.int k137), some (.int k138)], [.int k138, .int z217, .ref 72], (0, 0), hp31)) rfl rfl ?_
                              first | (refine bs_add rfl (by omega) (by omega) fun z218 hz218 => ?_) | (refine bs_any rfl fun z218 => ?_)
                              have rz218 := n_range z218
                              refine bs_ld (g := 133) 80 99 (0, 7) rfl Hhp31 (bs_R.uq Hhp31 (g := 133) rfl) (by decide) rfl (by decide) (by decide) rfl (by decide) (by omega) (by omega) fun z219 hz219 lz219 gz219 => ?_
                              dsimp only at lz219 gz219
                              have V8 : z219.toInt = s.h (80 + k138.toInt.toNat) := Option.some.inj (hz219.symm.trans (bs_at (S38.1 (80 + k138.toInt.toNat) (by omega)) (by omega)))
                              refine Ev.step (j := 114) (s' := ([some (.ref 69), some (.int z2), some (.int z24), some (.int k137), some (.int k138)], [.ref 69, .int z219], (0, 0), hp31)) rfl rfl ?_
                              exact by
                               refine bs_getI 11 rfl rfl rfl Hhp31 (bs_R.uq Hhp31 (g := 11) rfl) (by decide) rfl fun z220 hz220 lz220 gz220 => ?_
                               have e221 : z220.toInt = (fnd s.nm 6 (s.h 1) (tok B n lim (i + 2)).v) := Option.some.inj (hz220.symm.trans Y3X36)
                               refine bs_eq rfl (fun c222 => ?_) (fun c222 => ?_)
                               · skip
                                 refine bs_lit (k := 0) rfl rfl fun z223 hz223 => ?_
                                 refine Ev.step (j := 126) (s' := ([some (.ref 69), some (.int z2), some (.int z24), some (.int z223), some (.int k138)], [], (0, 0), hp31)) rfl rfl ?_
                                 refine bs_iinc (1) rfl rfl rfl rfl (by omega) (by omega) fun z224 hz224 => ?_
                                 refine (show Ev _ 129 ([some (.ref 69), some (.int z2), some (.int z24), some (.int z223), some (.int z224)], [], (0, 0), hp31) _ from ?_)
                                 refine Ev.step (j := 79) (s' := ([some (.ref 69), some (.int z2), some (.int z24), some (.int z223), some (.int z224)], [], (0, 0), hp31)) rfl rfl ?_
                                 have INV : (z223.toInt = 1 ↔ fnd s.nm 6 (s.h 1) (tok B n lim (i + 1)).v ≠ fnd s.nm 6 (s.h 1) (tok B n lim (i + 2)).v ∧ ∀ j : Nat, (j : Int) < z224.toInt → ¬ (s.h (60 + j) = fnd s.nm 6 (s.h 1) (tok B n lim (i + 1)).v ∧ s.h (80 + j) = fnd s.nm 6 (s.h 1) (tok B n lim (i + 2)).v)) := ⟨fun e => absurd e (by omega), fun h => absurd ⟨by omega, by omega⟩ (h.2 k138.toInt.toNat (by omega))⟩
                                 refine ih139 (z223, z224) ⟨(by first | omega | assumption), (by exact INV)⟩ ?_
                                 show (20 - z224.toInt).toNat < (20 - k138.toInt).toNat
                                 omega
                               · skip
                                 refine bs_lit (k := 1) rfl rfl fun z225 hz225 => ?_
                                 exact by
                                  refine Ev.step (j := 125) (s' := ([some (.ref 69), some (.int z2), some (.int z24), some (.int k137), some (.int k138)], [.int z225], (0, 0), hp31)) rfl rfl ?_
                                  refine Ev.step (j := 126) (s' := ([some (.ref 69), some (.int z2), some (.int z24), some (.int z225), some (.int k138)], [], (0, 0), hp31)) rfl rfl ?_
                                  refine bs_iinc (1) rfl rfl rfl rfl (by omega) (by omega) fun z226 hz226 => ?_
                                  refine (show Ev _ 129 ([some (.ref 69), some (.int z2), some (.int z24), some (.int z225), some (.int z226)], [], (0, 0), hp31) _ from ?_)
                                  refine Ev.step (j := 79) (s' := ([some (.ref 69), some (.int z2), some (.int z24), some (.int z225), some (.int z226)], [], (0, 0), hp31)) rfl rfl ?_
                                  have INV : (z225.toInt = 1 ↔ fnd s.nm 6 (s.h 1) (tok B n lim (i + 1)).v ≠ fnd s.nm 6 (s.h 1) (tok B n lim (i + 2)).v ∧ ∀ j : Nat, (j : Int) < z226.toInt → ¬ (s.h (60 + j) = fnd s.nm 6 (s.h 1) (tok B n lim (i + 1)).v ∧ s.h (80 + j) = fnd s.nm 6 (s.h 1) (tok B n lim (i + 2)).v)) := ⟨fun _ => ⟨(i141.mp (by omega)).1, fun j hj => by rcases (show (j : Int) < k138.toInt ∨ j = k138.toInt.toNat by omega) with g | g; exact (i141.mp (by omega)).2 j g; rw [g]; intro h; have h1 := h.1; have h2 := h.2; omega⟩, fun _ => by omega⟩
                                  refine ih139 (z225, z226) ⟨(by first | omega | assumption), (by exact INV)⟩ ?_
                                  show (20 - z226.toInt).toNat < (20 - k138.toInt).toNat
                                  omega
             · skip
               have c227 : z32.toInt = 0 := by omega
               refine bs_lit (k := 0) rfl rfl fun z228 hz228 => ?_
               exact bs_zret rfl rfl (by omega) (by omega) (by rw [hQ]; exact ⟨thp31, Hhp31, Fhp31, bs_an0, sf_S_cons (sf_s1 (x := z228.toInt) rfl (by omega) (by omega)) (sf_S_nil), (fun _ => by
                       skip
                       rw [show lnMiss (tok B n lim) s i = _ from if_neg (by omega)]
                       rw [lold_o Y1X20 (by omega)]
                       rcases X36.resolve_left (fun h => absurd h.1 (by omega)) with ⟨Y0, P1, ⟨P2, P3⟩ | ⟨⟨P2, P4⟩, P3⟩⟩
                       · rw [lold_1 P2]
                         exact RRES_bad ⟨z228, rfl, by omega⟩ P3 P1
                       · rw [lold_3 P2 P4]
                         exact RRES_bad ⟨z228, rfl, by omega⟩ P3 P1)⟩)
         · skip
           have c229 : z16.toInt = 0 := by omega
           refine bs_lit (k := 0) rfl rfl fun z230 hz230 => ?_
           exact bs_zret rfl rfl (by omega) (by omega) (by rw [hQ]; exact ⟨thp15, Hhp15, Fhp15, bs_an0, sf_S_cons (sf_s1 (x := z230.toInt) rfl (by omega) (by omega)) (sf_S_nil), (fun _ => by
                   skip
                   rw [show lnMiss (tok B n lim) s i = _ from if_neg (by omega)]
                   rcases X20.resolve_left (fun h => absurd h.1 (by omega)) with ⟨Y0, P1, ⟨P2, P3⟩ | ⟨⟨P2, P4⟩, P3⟩⟩
                   · rw [lold_1 P2]
                     exact RRES_bad ⟨z230, rfl, by omega⟩ P3 P1
                   · rw [lold_3 P2 P4]
                     exact RRES_bad ⟨z230, rfl, by omega⟩ P3 P1)⟩)
      · skip
        have c231 : z2.toInt = 20 := by omega
        refine Ev.step (j := 14) (s' := ([some (.ref 69), some (.int z2), none, none, none], [.ref 69], (0, 0), hp)) rfl rfl ?_
        exact by
         refine bs_lit (k := 4) rfl rfl fun z232 hz232 => ?_
         refine Ev.inl (L := L_X11_bad) (nL := 2) rfl (bs_rcv (g := 11) H (bs_R.uq H (g := 11) rfl) (by decide) rfl) rfl (Nat.le_of_ble_eq_true rfl) ?_
         generalize hQ233 : (fun (o : ab_O) => Ev _ _ _ _) = Q233
         refine (show Ev (ab_T L_X11_bad) 0 ([some (.ref 69), some (.int z232)], [], (0, 0), hp) Q233 from ?_)
         refine Ev.step (j := 1) (s' := ([some (.ref 69), some (.int z232)], [.ref 69], (0, 0), hp)) rfl rfl ?_
         refine Ev.step (j := 2) (s' := ([some (.ref 69), some (.int z232)], [.int z232, .ref 69], (0, 0), hp)) rfl rfl ?_
         refine bs_putIv (W := [(11, 15, 15)]) (g := 11) rfl rfl H (bs_R.uq H (g := 11) rfl) (by decide) rfl rfl rfl rfl (Or.inl rfl) (by omega) (by omega) fun hp234 Hhp234 fhp234 rhp234 ehp234 qhp234 nhp234 => ?_
         have Fhp234 := sf_fr_tr F0 (sf_fr_wider (W := [(11, 4, 4), (11, 11, 18), (133, 0, 119)]) rfl fhp234)
         have h235 : sf_rd hp234 72 3 = some z2.toInt := (ehp234 _ _ (Or.inl (by decide))).trans hz2
         refine Ev.step (j := 6) (s' := ([some (.ref 69), some (.int z232)], [.ref 69], (0, 0), hp234)) rfl rfl ?_
         exact by
          refine Ev.step (j := 7) (s' := ([some (.ref 69), some (.int z232)], [.ref 69, .ref 69], (0, 0), hp234)) rfl rfl ?_
          refine bs_getI 11 rfl rfl rfl Hhp234 (bs_R.uq Hhp234 (g := 11) rfl) (by decide) rfl fun z236 hz236 lz236 gz236 => ?_
          refine bs_putIv (W := [(11, 16, 16)]) (g := 11) rfl rfl Hhp234 (bs_R.uq Hhp234 (g := 11) rfl) (by decide) rfl rfl rfl rfl (Or.inl rfl) (by omega) (by omega) fun hp237 Hhp237 fhp237 rhp237 ehp237 qhp237 nhp237 => ?_
          have Fhp237 := sf_fr_tr Fhp234 (sf_fr_wider (W := [(11, 4, 4), (11, 11, 18), (133, 0, 119)]) rfl fhp237)
          have h238 : sf_rd hp237 72 3 = some z2.toInt := (ehp237 _ _ (Or.inl (by decide))).trans h235
          have h239 : sf_rd hp237 69 15 = some z232.toInt := (ehp237 _ _ (Or.inr (by omega))).trans rhp234
          have h240 : sf_rd hp237 69 12 = some z236.toInt := (ehp237 _ _ (Or.inr (by omega))).trans hz236
          refine bs_lit (k := 0) rfl rfl fun z241 hz241 => ?_
          exact by
           refine bs_zret rfl rfl (by omega) (by omega) ?_
           rw [← hQ233]
           refine (show Ev _ 18 ([some (.ref 69), some (.int z2), none, none, none], [.int z241], (0, 0), hp237) _ from ?_)
           exact bs_zret rfl rfl (by omega) (by omega) (by rw [hQ]; exact ⟨t, Hhp237, Fhp237, bs_an0, sf_S_cons (sf_s1 (x := z241.toInt) rfl (by omega) (by omega)) (sf_S_nil), (fun _ => by
                   skip
                   rw [show lnMiss (tok B n lim) s i = _ from if_pos (by omega)]
                   have PL : z236.toInt = (tok B n lim i).pl := Option.some.inj (hz236.symm.trans (((ehp234 _ _ (Or.inr (by omega)))).trans (RK_pl hK)))
                   exact RRES_bad ⟨z241, rfl, by omega⟩ (h239.trans (congrArg some (by omega))) (rhp237.trans (congrArg some PL)))⟩)
end
-- 63.b34.lean.txt
section
def kq_X11_line_v : sf_Q := ([(1, 11, 0)], [], some (0, 0, 0), [(1, 0, 0, 0, 1, 0)], [(11, 4, 4), (11, 11, 18), (11, 20, 20), (133, 0, 119), (135, 0, 0), (137, 0, 3)])
def ke_X11_line_v (B : Nat → Int) (n lim i : Nat) (s : PS) : List Value → ab_H → Option Value → ab_H → Prop := fun as _ r hp' => as = [.ref 69] → RRES hp' B n lim r (lnx (tok B n lim) s i)
set_option maxRecDepth 100000 in
set_option maxHeartbeats 4000000 in
theorem cp_X11_line_v {B : Nat → Int} {n lim i : Nat} {s : PS} : sf_cG kq_X11_line_v Z_X11_line (fun hp => RK hp B n lim i ∧ SR hp s ∧ RES hp) (ke_X11_line_v B n lim i s) := by
  intro t hp as H hl hj hpre hG
  match as, hl with
  | [v0], _ =>
    obtain ⟨a0, rfl, ra0⟩ := bs_aR (hj 0 _ rfl)
    obtain rfl := ra0.eq H (p := 69) rfl
    clear hpre hj
    have F0 : sf_fr [(11, 4, 4), (11, 11, 18), (11, 20, 20), (133, 0, 119), (135, 0, 0), (137, 0, 3)] t hp t hp := sf_fr_rf
    refine bs_finx (E := (ke_X11_line_v B n lim i s)) (K := kq_X11_line_v) (L := (L_X11_line Z_X11_isWord Z_X11_bad Z_X11_next Z_X11_puts Z_X11_fresh Z_X11_readMisses Z_X11_takesName Z_X11_bitOf)) (nL := 4) (Nat.le_of_ble_eq_true rfl) ?_
    obtain ⟨Q, hQ⟩ : ∃ Q : ab_O → Prop, Q = (fun o => ∃ t', sf_h t' o.2 ∧ sf_fr (kq_X11_line_v).2.2.2.2 t hp t' o.2 ∧ sf_an t' o.2.1 (kq_X11_line_v).2.2.1 o.1 ∧ sf_S (sf_v1 o.1 [.ref 69] o.2) (kq_X11_line_v).2.2.2.1 ∧ (ke_X11_line_v B n lim i s) [.ref 69] hp o.1 o.2) := ⟨_, rfl⟩
    rw [← hQ]
    refine (show Ev (ab_T (L_X11_line Z_X11_isWord Z_X11_bad Z_X11_next Z_X11_puts Z_X11_fresh Z_X11_readMisses Z_X11_takesName Z_X11_bitOf)) 0 ([some (.ref 69), none, none, none], [], (0, 0), hp) Q from ?_)
    obtain ⟨hK, hS, hR⟩ := hG
    refine Ev.step (j := 1) (s' := ([some (.ref 69), none, none, none], [.ref 69], (0, 0), hp)) rfl rfl ?_
    exact by
     refine Ev.step (j := 4) (s' := ([some (.ref 69), none, none, none], [.long (1819238756 : Int64), .ref 69], (0, 0), hp)) rfl rfl ?_
     refine bs_callx (K := kq_X11_isWord_v) [.ref 69, .long (1819238756 : Int64)] [] rfl ce_X11_isWord_v H rfl rfl rfl (bs_rcv (g := 11) H (bs_R.uq H (g := 11) rfl) (by decide) rfl) rfl ?_ (sf_S_nil) fun r1 hp2 thp2 Hhp2 fhp2 ahp2 php2 xhp2 => ?_
     · intro q k h
       match q, h with
       | 0, h => cases h; exact bs_jR (bs_R.uq H (g := 11) rfl)
       | 1, h => cases h; exact sf_j2
       | q + 2, h => cases h
     obtain ⟨z3, rfl⟩ := bs_anI ahp2
     have rgz3 := n_range z3
     have Fhp2 := sf_fr_tr F0 (sf_fr_wider (W := [(11, 4, 4), (11, 11, 18), (11, 20, 20), (133, 0, 119), (135, 0, 0), (137, 0, 3)]) rfl fhp2)
     obtain ⟨uz3, vz3⟩ := bs_s1 (x := z3.toInt) rfl (php2 _ (List.mem_of_getElem? (i := 0) rfl))
     refine (show Ev _ 7 ([some (.ref 69), none, none, none], [.int z3], (0, 0), hp2) _ from ?_)
     obtain ⟨zg4, rg4, ag4, bg4⟩ := xhp2 _ (tok B n lim i) 0 rfl hK.1 (tok_wok B n lim i) (tok_k88 B n lim i) (by decide) (by decide)
     obtain rfl := Value.int.inj (Option.some.inj rg4)
     have K5 := RK_nil H fhp2 hK
     have S6 := SR_nil H fhp2 hS
     have R7 := RES_nil H fhp2 hR
     refine bs_ifeq rfl (fun c8 => ?_) (fun c8 => ?_)
     · skip
       have c9 : z3.toInt = 0 := by omega
       refine Ev.step (j := 42) (s' := ([some (.ref 69), none, none, none], [.ref 69], (0, 0), hp2)) rfl rfl ?_
       exact by
        refine Ev.step (j := 45) (s' := ([some (.ref 69), none, none, none], [.long (1735356260 : Int64), .ref 69], (0, 0), hp2)) rfl rfl ?_
        refine bs_callx (K := kq_X11_isWord_v) [.ref 69, .long (1735356260 : Int64)] [] rfl ce_X11_isWord_v Hhp2 rfl rfl rfl (bs_rcv (g := 11) Hhp2 (bs_R.uq Hhp2 (g := 11) rfl) (by decide) rfl) rfl ?_ (sf_S_nil) fun r10 hp11 thp11 Hhp11 fhp11 ahp11 php11 xhp11 => ?_
        · intro q k h
          match q, h with
          | 0, h => cases h; exact bs_jR (bs_R.uq Hhp2 (g := 11) rfl)
          | 1, h => cases h; exact sf_j2
          | q + 2, h => cases h
        obtain ⟨z12, rfl⟩ := bs_anI ahp11
        have rgz12 := n_range z12
        have Fhp11 := sf_fr_tr Fhp2 (sf_fr_wider (W := [(11, 4, 4), (11, 11, 18), (11, 20, 20), (133, 0, 119), (135, 0, 0), (137, 0, 3)]) rfl fhp11)
        obtain ⟨uz12, vz12⟩ := bs_s1 (x := z12.toInt) rfl (php11 _ (List.mem_of_getElem? (i := 0) rfl))
        refine (show Ev _ 48 ([some (.ref 69), none, none, none], [.int z12], (0, 0), hp11) _ from ?_)
        obtain ⟨zg13, rg13, ag13, bg13⟩ := xhp11 _ (tok B n lim i) 1 rfl K5.1 (tok_wok B n lim i) (tok_k88 B n lim i) (by decide) (by decide)
        obtain rfl := Value.int.inj (Option.some.inj rg13)
        have K14 := RK_nil Hhp2 fhp11 K5
        have S15 := SR_nil Hhp2 fhp11 S6
        have R16 := RES_nil Hhp2 fhp11 R7
        refine bs_ifeq rfl (fun c17 => ?_) (fun c17 => ?_)
        · skip
          have c18 : z12.toInt = 0 := by omega
          refine Ev.step (j := 103) (s' := ([some (.ref 69), none, none, none], [.ref 69], (0, 0), hp11)) rfl rfl ?_
          exact by
           refine Ev.step (j := 106) (s' := ([some (.ref 69), none, none, none], [.long (7168366 : Int64), .ref 69], (0, 0), hp11)) rfl rfl ?_
           refine bs_callx (K := kq_X11_isWord_v) [.ref 69, .long (7168366 : Int64)] [] rfl ce_X11_isWord_v Hhp11 rfl rfl rfl (bs_rcv (g := 11) Hhp11 (bs_R.uq Hhp11 (g := 11) rfl) (by decide) rfl) rfl ?_ (sf_S_nil) fun r19 hp20 thp20 Hhp20 fhp20 ahp20 php20 xhp20 => ?_
           · intro q k h
             match q, h with
             | 0, h => cases h; exact bs_jR (bs_R.uq Hhp11 (g := 11) rfl)
             | 1, h => cases h; exact sf_j2
             | q + 2, h => cases h
           obtain ⟨z21, rfl⟩ := bs_anI ahp20
           have rgz21 := n_range z21
           have Fhp20 := sf_fr_tr Fhp11 (sf_fr_wider (W := [(11, 4, 4), (11, 11, 18), (11, 20, 20), (133, 0, 119), (135, 0, 0), (137, 0, 3)]) rfl fhp20)
           obtain ⟨uz21, vz21⟩ := bs_s1 (x := z21.toInt) rfl (php20 _ (List.mem_of_getElem? (i := 0) rfl))
           refine (show Ev _ 109 ([some (.ref 69), none, none, none], [.int z21], (0, 0), hp20) _ from ?_)
           obtain ⟨zg22, rg22, ag22, bg22⟩ := xhp20 _ (tok B n lim i) 6 rfl K14.1 (tok_wok B n lim i) (tok_k88 B n lim i) (by decide) (by decide)
           obtain rfl := Value.int.inj (Option.some.inj rg22)
           have K23 := RK_nil Hhp11 fhp20 K14
           have S24 := SR_nil Hhp11 fhp20 S15
           have R25 := RES_nil Hhp11 fhp20 R16
           refine bs_ifeq rfl (fun c26 => ?_) (fun c26 => ?_)
           · skip
             have c27 : z21.toInt = 0 := by omega
             refine Ev.step (j := 174) (s' := ([some (.ref 69), none, none, none], [.ref 69], (0, 0), hp20)) rfl rfl ?_
             exact by
              refine Ev.step (j := 177) (s' := ([some (.ref 69), none, none, none], [.long (120299675936115 : Int64), .ref 69], (0, 0), hp20)) rfl rfl ?_
              refine bs_callx (K := kq_X11_isWord_v) [.ref 69, .long (120299675936115 : Int64)] [] rfl ce_X11_isWord_v Hhp20 rfl rfl rfl (bs_rcv (g := 11) Hhp20 (bs_R.uq Hhp20 (g := 11) rfl) (by decide) rfl) rfl ?_ (sf_S_nil) fun r28 hp29 thp29 Hhp29 fhp29 ahp29 php29 xhp29 => ?_
              · intro q k h
                match q, h with
                | 0, h => cases h; exact bs_jR (bs_R.uq Hhp20 (g := 11) rfl)
                | 1, h => cases h; exact sf_j2
                | q + 2, h => cases h
              obtain ⟨z30, rfl⟩ := bs_anI ahp29
              have rgz30 := n_range z30
              have Fhp29 := sf_fr_tr Fhp20 (sf_fr_wider (W := [(11, 4, 4), (11, 11, 18), (11, 20, 20), (133, 0, 119), (135, 0, 0), (137, 0, 3)]) rfl fhp29)
              obtain ⟨uz30, vz30⟩ := bs_s1 (x := z30.toInt) rfl (php29 _ (List.mem_of_getElem? (i := 0) rfl))
              refine (show Ev _ 180 ([some (.ref 69), none, none, none], [.int z30], (0, 0), hp29) _ from ?_)
              obtain ⟨zg31, rg31, ag31, bg31⟩ := xhp29 _ (tok B n lim i) 7 rfl K23.1 (tok_wok B n lim i) (tok_k88 B n lim i) (by decide) (by decide)
              obtain rfl := Value.int.inj (Option.some.inj rg31)
              have K32 := RK_nil Hhp20 fhp29 K23
              have S33 := SR_nil Hhp20 fhp29 S24
              have R34 := RES_nil Hhp20 fhp29 R25
              refine bs_ifeq rfl (fun c35 => ?_) (fun c35 => ?_)
              · skip
                have c36 : z30.toInt = 0 := by omega
                refine Ev.step (j := 189) (s' := ([some (.ref 69), none, none, none], [.ref 69], (0, 0), hp29)) rfl rfl ?_
                exact by
                 refine Ev.step (j := 192) (s' := ([some (.ref 69), none, none, none], [.long (495874696043 : Int64), .ref 69], (0, 0), hp29)) rfl rfl ?_
                 refine bs_callx (K := kq_X11_isWord_v) [.ref 69, .long (495874696043 : Int64)] [] rfl ce_X11_isWord_v Hhp29 rfl rfl rfl (bs_rcv (g := 11) Hhp29 (bs_R.uq Hhp29 (g := 11) rfl) (by decide) rfl) rfl ?_ (sf_S_nil) fun r37 hp38 thp38 Hhp38 fhp38 ahp38 php38 xhp38 => ?_
                 · intro q k h
                   match q, h with
                   | 0, h => cases h; exact bs_jR (bs_R.uq Hhp29 (g := 11) rfl)
                   | 1, h => cases h; exact sf_j2
                   | q + 2, h => cases h
                 obtain ⟨z39, rfl⟩ := bs_anI ahp38
                 have rgz39 := n_range z39
                 have Fhp38 := sf_fr_tr Fhp29 (sf_fr_wider (W := [(11, 4, 4), (11, 11, 18), (11, 20, 20), (133, 0, 119), (135, 0, 0), (137, 0, 3)]) rfl fhp38)
                 obtain ⟨uz39, vz39⟩ := bs_s1 (x := z39.toInt) rfl (php38 _ (List.mem_of_getElem? (i := 0) rfl))
                 refine (show Ev _ 195 ([some (.ref 69), none, none, none], [.int z39], (0, 0), hp38) _ from ?_)
                 obtain ⟨zg40, rg40, ag40, bg40⟩ := xhp38 _ (tok B n lim i) 2 rfl K32.1 (tok_wok B n lim i) (tok_k88 B n lim i) (by decide) (by decide)
                 obtain rfl := Value.int.inj (Option.some.inj rg40)
                 have K41 := RK_nil Hhp29 fhp38 K32
                 have S42 := SR_nil Hhp29 fhp38 S33
                 have R43 := RES_nil Hhp29 fhp38 R34
                 refine bs_ifeq rfl (fun c44 => ?_) (fun c44 => ?_)
                 · skip
                   have c45 : z39.toInt = 0 := by omega
                   refine Ev.step (j := 203) (s' := ([some (.ref 69), none, none, none], [.ref 69], (0, 0), hp38)) rfl rfl ?_
                   exact by
                    refine Ev.step (j := 206) (s' := ([some (.ref 69), none, none, none], [.long (512735736947 : Int64), .ref 69], (0, 0), hp38)) rfl rfl ?_
                    refine bs_callx (K := kq_X11_isWord_v) [.ref 69, .long (512735736947 : Int64)] [] rfl ce_X11_isWord_v Hhp38 rfl rfl rfl (bs_rcv (g := 11) Hhp38 (bs_R.uq Hhp38 (g := 11) rfl) (by decide) rfl) rfl ?_ (sf_S_nil) fun r46 hp47 thp47 Hhp47 fhp47 ahp47 php47 xhp47 => ?_
                    · intro q k h
                      match q, h with
                      | 0, h => cases h; exact bs_jR (bs_R.uq Hhp38 (g := 11) rfl)
                      | 1, h => cases h; exact sf_j2
                      | q + 2, h => cases h
                    obtain ⟨z48, rfl⟩ := bs_anI ahp47
                    have rgz48 := n_range z48
                    have Fhp47 := sf_fr_tr Fhp38 (sf_fr_wider (W := [(11, 4, 4), (11, 11, 18), (11, 20, 20), (133, 0, 119), (135, 0, 0), (137, 0, 3)]) rfl fhp47)
                    obtain ⟨uz48, vz48⟩ := bs_s1 (x := z48.toInt) rfl (php47 _ (List.mem_of_getElem? (i := 0) rfl))
                    refine (show Ev _ 209 ([some (.ref 69), none, none, none], [.int z48], (0, 0), hp47) _ from ?_)
                    obtain ⟨zg49, rg49, ag49, bg49⟩ := xhp47 _ (tok B n lim i) 3 rfl K41.1 (tok_wok B n lim i) (tok_k88 B n lim i) (by decide) (by decide)
                    obtain rfl := Value.int.inj (Option.some.inj rg49)
                    have K50 := RK_nil Hhp38 fhp47 K41
                    have S51 := SR_nil Hhp38 fhp47 S42
                    have R52 := RES_nil Hhp38 fhp47 R43
                    refine bs_ifeq rfl (fun c53 => ?_) (fun c53 => ?_)
                    · skip
                      have c54 : z48.toInt = 0 := by omega
                      refine Ev.step (j := 217) (s' := ([some (.ref 69), none, none, none], [.ref 69], (0, 0), hp47)) rfl rfl ?_
                      exact by
                       refine Ev.step (j := 220) (s' := ([some (.ref 69), none, none, none], [.long (1700885619 : Int64), .ref 69], (0, 0), hp47)) rfl rfl ?_
                       refine bs_callx (K := kq_X11_isWord_v) [.ref 69, .long (1700885619 : Int64)] [] rfl ce_X11_isWord_v Hhp47 rfl rfl rfl (bs_rcv (g := 11) Hhp47 (bs_R.uq Hhp47 (g := 11) rfl) (by decide) rfl) rfl ?_ (sf_S_nil) fun r55 hp56 thp56 Hhp56 fhp56 ahp56 php56 xhp56 => ?_
                       · intro q k h
                         match q, h with
                         | 0, h => cases h; exact bs_jR (bs_R.uq Hhp47 (g := 11) rfl)
                         | 1, h => cases h; exact sf_j2
                         | q + 2, h => cases h
                       obtain ⟨z57, rfl⟩ := bs_anI ahp56
                       have rgz57 := n_range z57
                       have Fhp56 := sf_fr_tr Fhp47 (sf_fr_wider (W := [(11, 4, 4), (11, 11, 18), (11, 20, 20), (133, 0, 119), (135, 0, 0), (137, 0, 3)]) rfl fhp56)
                       obtain ⟨uz57, vz57⟩ := bs_s1 (x := z57.toInt) rfl (php56 _ (List.mem_of_getElem? (i := 0) rfl))
                       refine (show Ev _ 223 ([some (.ref 69), none, none, none], [.int z57], (0, 0), hp56) _ from ?_)
                       obtain ⟨zg58, rg58, ag58, bg58⟩ := xhp56 _ (tok B n lim i) 4 rfl K50.1 (tok_wok B n lim i) (tok_k88 B n lim i) (by decide) (by decide)
                       obtain rfl := Value.int.inj (Option.some.inj rg58)
                       have K59 := RK_nil Hhp47 fhp56 K50
                       have S60 := SR_nil Hhp47 fhp56 S51
                       have R61 := RES_nil Hhp47 fhp56 R52
                       refine bs_ifeq rfl (fun c62 => ?_) (fun c62 => ?_)
                       · skip
                         have c63 : z57.toInt = 0 := by omega
                         refine Ev.step (j := 231) (s' := ([some (.ref 69), none, none, none], [.ref 69], (0, 0), hp56)) rfl rfl ?_
                         exact by
                          refine Ev.step (j := 234) (s' := ([some (.ref 69), none, none, none], [.long (469785863539 : Int64), .ref 69], (0, 0), hp56)) rfl rfl ?_
                          refine bs_callx (K := kq_X11_isWord_v) [.ref 69, .long (469785863539 : Int64)] [] rfl ce_X11_isWord_v Hhp56 rfl rfl rfl (bs_rcv (g := 11) Hhp56 (bs_R.uq Hhp56 (g := 11) rfl) (by decide) rfl) rfl ?_ (sf_S_nil) fun r64 hp65 thp65 Hhp65 fhp65 ahp65 php65 xhp65 => ?_
                          · intro q k h
                            match q, h with
                            | 0, h => cases h; exact bs_jR (bs_R.uq Hhp56 (g := 11) rfl)
                            | 1, h => cases h; exact sf_j2
                            | q + 2, h => cases h
                          obtain ⟨z66, rfl⟩ := bs_anI ahp65
                          have rgz66 := n_range z66
                          have Fhp65 := sf_fr_tr Fhp56 (sf_fr_wider (W := [(11, 4, 4), (11, 11, 18), (11, 20, 20), (133, 0, 119), (135, 0, 0), (137, 0, 3)]) rfl fhp65)
                          obtain ⟨uz66, vz66⟩ := bs_s1 (x := z66.toInt) rfl (php65 _ (List.mem_of_getElem? (i := 0) rfl))
                          refine (show Ev _ 237 ([some (.ref 69), none, none, none], [.int z66], (0, 0), hp65) _ from ?_)
                          obtain ⟨zg67, rg67, ag67, bg67⟩ := xhp65 _ (tok B n lim i) 5 rfl K59.1 (tok_wok B n lim i) (tok_k88 B n lim i) (by decide) (by decide)
                          obtain rfl := Value.int.inj (Option.some.inj rg67)
                          have K68 := RK_nil Hhp56 fhp65 K59
                          have S69 := SR_nil Hhp56 fhp65 S60
                          have R70 := RES_nil Hhp56 fhp65 R61
                          refine bs_ifeq rfl (fun c71 => ?_) (fun c71 => ?_)
                          · skip
                            have c72 : z66.toInt = 0 := by omega
                            refine bs_lit (k := -1) rfl rfl fun z73 hz73 => ?_
                            exact by
                             refine Ev.step (j := 246) (s' := ([some (.ref 69), some (.int z73), none, none], [], (0, 0), hp65)) rfl rfl ?_
                             refine Ev.step (j := 247) (s' := ([some (.ref 69), some (.int z73), none, none], [.int z73], (0, 0), hp65)) rfl rfl ?_
                             refine bs_ifge rfl (fun c74 => ?_) (fun c74 => ?_)
                             · exfalso; omega
                             · skip
                               refine Ev.step (j := 251) (s' := ([some (.ref 69), some (.int z73), none, none], [.ref 69], (0, 0), hp65)) rfl rfl ?_
                               refine bs_lit (k := 1) rfl rfl fun z75 hz75 => ?_
                               refine Ev.inl (L := L_X11_bad) (nL := 2) rfl (bs_rcv (g := 11) Hhp65 (bs_R.uq Hhp65 (g := 11) rfl) (by decide) rfl) rfl (Nat.le_of_ble_eq_true rfl) ?_
                               generalize hQ76 : (fun (o : ab_O) => Ev _ _ _ _) = Q76
                               refine (show Ev (ab_T L_X11_bad) 0 ([some (.ref 69), some (.int z75)], [], (0, 0), hp65) Q76 from ?_)
                               refine Ev.step (j := 1) (s' := ([some (.ref 69), some (.int z75)], [.ref 69], (0, 0), hp65)) rfl rfl ?_
                               exact by
                                refine Ev.step (j := 2) (s' := ([some (.ref 69), some (.int z75)], [.int z75, .ref 69], (0, 0), hp65)) rfl rfl ?_
                                refine bs_putIv (W := [(11, 15, 15)]) (g := 11) rfl rfl Hhp65 (bs_R.uq Hhp65 (g := 11) rfl) (by decide) rfl rfl rfl rfl (Or.inl rfl) (by omega) (by omega) fun hp77 Hhp77 fhp77 rhp77 ehp77 qhp77 nhp77 => ?_
                                have Fhp77 := sf_fr_tr Fhp65 (sf_fr_wider (W := [(11, 4, 4), (11, 11, 18), (11, 20, 20), (133, 0, 119), (135, 0, 0), (137, 0, 3)]) rfl fhp77)
                                refine Ev.step (j := 6) (s' := ([some (.ref 69), some (.int z75)], [.ref 69], (0, 0), hp77)) rfl rfl ?_
                                refine Ev.step (j := 7) (s' := ([some (.ref 69), some (.int z75)], [.ref 69, .ref 69], (0, 0), hp77)) rfl rfl ?_
                                refine bs_getI 11 rfl rfl rfl Hhp77 (bs_R.uq Hhp77 (g := 11) rfl) (by decide) rfl fun z78 hz78 lz78 gz78 => ?_
                                refine bs_putIv (W := [(11, 16, 16)]) (g := 11) rfl rfl Hhp77 (bs_R.uq Hhp77 (g := 11) rfl) (by decide) rfl rfl rfl rfl (Or.inl rfl) (by omega) (by omega) fun hp79 Hhp79 fhp79 rhp79 ehp79 qhp79 nhp79 => ?_
                                have Fhp79 := sf_fr_tr Fhp77 (sf_fr_wider (W := [(11, 4, 4), (11, 11, 18), (11, 20, 20), (133, 0, 119), (135, 0, 0), (137, 0, 3)]) rfl fhp79)
                                have h80 : sf_rd hp79 69 15 = some z75.toInt := (ehp79 _ _ (Or.inr (by omega))).trans rhp77
                                have h81 : sf_rd hp79 69 12 = some z78.toInt := (ehp79 _ _ (Or.inr (by omega))).trans hz78
                                refine bs_lit (k := 0) rfl rfl fun z82 hz82 => ?_
                                exact by
                                 refine bs_zret rfl rfl (by omega) (by omega) ?_
                                 rw [← hQ76]
                                 refine (show Ev _ 255 ([some (.ref 69), some (.int z73), none, none], [.int z82], (0, 0), hp79) _ from ?_)
                                 exact bs_zret rfl rfl (by omega) (by omega) (by rw [hQ]; exact ⟨thp65, Hhp79, Fhp79, bs_an0, sf_S_cons (sf_s1 (x := z82.toInt) rfl (by omega) (by omega)) (sf_S_nil), (fun _ => by
                                         skip
                                         rw [lnx_bad (by omega)]
                                         have PL : z78.toInt = (tok B n lim i).pl := Option.some.inj (hz78.symm.trans (((ehp77 _ _ (Or.inr (by omega)))).trans (RK_pl K68)))
                                         exact RRES_bad ⟨z82, rfl, by omega⟩ (h80.trans (congrArg some (by omega))) (rhp79.trans (congrArg some PL)))⟩)
                          · skip
                            refine bs_lit (k := 3) rfl rfl fun z83 hz83 => ?_
                            exact by
                             refine Ev.step (j := 245) (s' := ([some (.ref 69), none, none, none], [.int z83], (0, 0), hp65)) rfl rfl ?_
                             refine Ev.step (j := 246) (s' := ([some (.ref 69), some (.int z83), none, none], [], (0, 0), hp65)) rfl rfl ?_
                             refine Ev.step (j := 247) (s' := ([some (.ref 69), some (.int z83), none, none], [.int z83], (0, 0), hp65)) rfl rfl ?_
                             refine bs_ifge rfl (fun c84 => ?_) (fun c84 => ?_)
                             · skip
                               refine Ev.step (j := 257) (s' := ([some (.ref 69), some (.int z83), none, none], [.ref 69], (0, 0), hp65)) rfl rfl ?_
                               refine bs_callx (K := kq_X11_next_v) [.ref 69] [] rfl ce_X11_next_v Hhp65 rfl rfl rfl (bs_rcv (g := 11) Hhp65 (bs_R.uq Hhp65 (g := 11) rfl) (by decide) rfl) rfl ?_ (sf_S_nil) fun r85 hp86 thp86 Hhp86 fhp86 ahp86 php86 xhp86 => ?_
                               · intro q k h
                                 match q, h with
                                 | 0, h => cases h; exact bs_jR (bs_R.uq Hhp65 (g := 11) rfl)
                                 | q + 1, h => cases h
                               obtain rfl := ahp86.1 rfl
                               have Fhp86 := sf_fr_tr Fhp65 (sf_fr_wider (W := [(11, 4, 4), (11, 11, 18), (11, 20, 20), (133, 0, 119), (135, 0, 0), (137, 0, 3)]) rfl fhp86)
                               refine (show Ev _ 260 ([some (.ref 69), some (.int z83), none, none], [], (0, 0), hp86) _ from ?_)
                               have K87 := (RK_next Hhp65 fhp86 rfl rfl rfl xhp86 K68).1
                               have R88 := RES_fr Hhp65 fhp86 rfl R70
                               have S89 := SR_fr Hhp65 fhp86 rfl rfl rfl rfl S69
                               refine Ev.step (j := 261) (s' := ([some (.ref 69), some (.int z83), none, none], [.ref 69], (0, 0), hp86)) rfl rfl ?_
                               exact by
                                refine bs_lit (k := 14) rfl rfl fun z90 hz90 => ?_
                                refine Ev.step (j := 264) (s' := ([some (.ref 69), some (.int z83), none, none], [.ref 69, .int z90, .ref 69], (0, 0), hp86)) rfl rfl ?_
                                refine bs_getU (g := 11) (g1 := 133) rfl rfl Hhp86 (bs_R.uq Hhp86 (g := 11) rfl) (by decide) rfl rfl ?_
                                refine bs_lit (k := 0) rfl rfl fun z91 hz91 => ?_
                                refine bs_ld (g := 133) 0 0 (0, 6) rfl Hhp86 (bs_R.uq Hhp86 (g := 133) rfl) (by decide) rfl (by decide) (by decide) rfl (by decide) (by omega) (by omega) fun z92 hz92 lz92 gz92 => ?_
                                dsimp only at lz92 gz92
                                replace hz92 := bs_at hz92 (show z91.toInt.toNat = 0 by omega)
                                have c0_z92 : z92.toInt = s.h 0 := Option.some.inj (hz92.symm.trans (S89.1 0 (by decide)))
                                refine bs_callx (K := kq_X11_takesName_v) [.ref 69, .int z90, .int z92] [] rfl ce_X11_takesName_v Hhp86 rfl rfl rfl (bs_rcv (g := 11) Hhp86 (bs_R.uq Hhp86 (g := 11) rfl) (by decide) rfl) rfl ?_ (sf_S_cons (sf_s1 (x := z90.toInt) rfl (by omega) (by omega)) (sf_S_cons (sf_s1 (x := z92.toInt) rfl (by omega) (by omega)) (sf_S_nil))) fun r93 hp94 thp94 Hhp94 fhp94 ahp94 php94 xhp94 => ?_
                                · intro q k h
                                  match q, h with
                                  | 0, h => cases h; exact bs_jR (bs_R.uq Hhp86 (g := 11) rfl)
                                  | 1, h => cases h; exact sf_j0
                                  | 2, h => cases h; exact sf_j0
                                  | q + 3, h => cases h
                                obtain ⟨z95, rfl⟩ := bs_anI ahp94
                                have rgz95 := n_range z95
                                have Fhp94 := sf_fr_tr Fhp86 (sf_fr_wider (W := [(11, 4, 4), (11, 11, 18), (11, 20, 20), (133, 0, 119), (135, 0, 0), (137, 0, 3)]) rfl fhp94)
                                have h96 : sf_rd hp94 72 0 = some z92.toInt := (fhp94.2.2.1 _ (bs_R.uq Hhp86 (g := 133) (p := 72) rfl).1 _ (by rw [(bs_R.uq Hhp86 (g := 133) (p := 72) rfl).2]; rfl)).trans hz92
                                obtain ⟨uz95, vz95⟩ := bs_s1 (x := z95.toInt) rfl (php94 _ (List.mem_of_getElem? (i := 0) rfl))
                                refine (show Ev _ 272 ([some (.ref 69), some (.int z83), none, none], [.int z95], (0, 0), hp94) _ from ?_)
                                obtain ⟨q97, rq97, X98⟩ := xhp94 _ _ s.nm 0 B n lim (i + 1) rfl (fun k hk => by rw [show z90.toInt.toNat + k = 14 + k by omega, Nat.zero_add]; exact S89.2.2.2.1 k (by omega)) R88 K87
                                obtain rfl := Value.int.inj (Option.some.inj rq97)
                                rw [show z92.toInt = s.h 0 by omega] at X98
                                have R99 := RES_fr Hhp86 fhp94 rfl R88
                                have S100 := SR_fr Hhp86 fhp94 rfl rfl rfl rfl S89
                                refine bs_ifne rfl (fun c101 => ?_) (fun c101 => ?_)
                                · skip
                                  obtain ⟨Y0X98, Y1X98, Y2X98, Y3X98, Y4X98⟩ := X98.resolve_right (fun h => absurd h.1 (by omega))
                                  have K2X98 : RK hp94 B n lim (i + 2) := Y4X98
                                  have FBX98 : fnd s.nm 0 (s.h 0) (tok B n lim (i + 1)).v ≤ 5 := by have := fnd_lt (nm := s.nm) (o := 0) (n := s.h 0) (v := (tok B n lim (i + 1)).v); omega
                                  refine Ev.step (j := 278) (s' := ([some (.ref 69), some (.int z83), none, none], [.ref 69], (0, 0), hp94)) rfl rfl ?_
                                  exact by
                                   refine bs_getI 11 rfl rfl rfl Hhp94 (bs_R.uq Hhp94 (g := 11) rfl) (by decide) rfl fun z102 hz102 lz102 gz102 => ?_
                                   have e103 : z102.toInt = (fnd s.nm 0 (s.h 0) (tok B n lim (i + 1)).v) := Option.some.inj (hz102.symm.trans Y3X98)
                                   refine Ev.step (j := 282) (s' := ([some (.ref 69), some (.int z83), some (.int z102), none], [], (0, 0), hp94)) rfl rfl ?_
                                   refine Ev.step (j := 283) (s' := ([some (.ref 69), some (.int z83), some (.int z102), none], [.ref 69], (0, 0), hp94)) rfl rfl ?_
                                   refine bs_getI 11 rfl rfl rfl Hhp94 (bs_R.uq Hhp94 (g := 11) rfl) (by decide) rfl fun z104 hz104 lz104 gz104 => ?_
                                   refine bs_lit (k := 2) rfl rfl fun z105 hz105 => ?_
                                   refine bs_eq rfl (fun c106 => ?_) (fun c106 => ?_)
                                   · skip
                                     have c107 : z104.toInt = 2 := by omega
                                     refine Ev.step (j := 297) (s' := ([some (.ref 69), some (.int z83), some (.int z102), none], [.ref 69], (0, 0), hp94)) rfl rfl ?_
                                     exact by
                                      refine bs_getI 11 rfl rfl rfl Hhp94 (bs_R.uq Hhp94 (g := 11) rfl) (by decide) rfl fun z108 hz108 lz108 gz108 => ?_
                                      refine bs_lit (k := 1) rfl rfl fun z109 hz109 => ?_
                                      refine bs_le rfl (fun c110 => ?_) (fun c110 => ?_)
                                      · skip
                                        have KT : (tok B n lim (i + 2)).k = 3 := rkk_2 (by have KK := RK_k K2X98 hz104; omega)
                                        have VT := RK_v K2X98 KT hz108
                                        have NT_ := tok_nok B n lim (i + 2) KT
                                        refine bs_lit (k := 2) rfl rfl fun z111 hz111 => ?_
                                        refine Ev.step (j := 312) (s' := ([some (.ref 69), some (.int z83), some (.int z102), none], [.int z102, .int z111], (0, 0), hp94)) rfl rfl ?_
                                        exact by
                                         refine bs_mul (2) rfl (Or.inl hz111) (by rw [hz111]; omega) (by rw [hz111]; omega) fun z112 hz112 => ?_
                                         rw [hz111] at hz112
                                         refine Ev.step (j := 314) (s' := ([some (.ref 69), some (.int z83), some (.int z102), none], [.ref 69, .int z112], (0, 0), hp94)) rfl rfl ?_
                                         refine bs_getI 11 rfl rfl rfl Hhp94 (bs_R.uq Hhp94 (g := 11) rfl) (by decide) rfl fun z113 hz113 lz113 gz113 => ?_
                                         have e114 : z113.toInt = z108.toInt := Option.some.inj (hz113.symm.trans hz108)
                                         first | (refine bs_add rfl (by omega) (by omega) fun z115 hz115 => ?_) | (refine bs_any rfl fun z115 => ?_)
                                         have rz115 := n_range z115
                                         refine Ev.step (j := 319) (s' := ([some (.ref 69), some (.int z83), some (.int z102), some (.int z115)], [], (0, 0), hp94)) rfl rfl ?_
                                         refine Ev.step (j := 320) (s' := ([some (.ref 69), some (.int z83), some (.int z102), some (.int z115)], [.ref 69], (0, 0), hp94)) rfl rfl ?_
                                         exact by
                                          refine bs_getU (g := 11) (g1 := 137) rfl rfl Hhp94 (bs_R.uq Hhp94 (g := 11) rfl) (by decide) rfl rfl ?_
                                          refine Ev.step (j := 324) (s' := ([some (.ref 69), some (.int z83), some (.int z102), some (.int z115)], [.int z83, .ref 76], (0, 0), hp94)) rfl rfl ?_
                                          refine bs_ld (g := 137) 0 3 (-2147483648, 2147483647) rfl Hhp94 (bs_R.uq Hhp94 (g := 137) rfl) (by decide) rfl (by decide) (by decide) rfl (by decide) (by omega) (by omega) fun z116 hz116 lz116 gz116 => ?_
                                          dsimp only at lz116 gz116
                                          replace hz116 := bs_at hz116 (show z83.toInt.toNat = 3 by omega)
                                          refine Ev.step (j := 326) (s' := ([some (.ref 69), some (.int z83), some (.int z102), some (.int z115)], [.int z115, .int z116], (0, 0), hp94)) rfl rfl ?_
                                          refine bs_pure [.int z116, .int z115] [] rfl rfl rfl rfl (px_X11_bitOf (by omega) (by omega)) fun z117 hz117 => ?_
                                          refine (show Ev _ 329 ([some (.ref 69), some (.int z83), some (.int z102), some (.int z115)], [.int z117], (0, 0), hp94) _ from ?_)
                                          rcases hz117 with ⟨ez117, tz117⟩ | ⟨ez117, tz117⟩
                                          · skip
                                            refine bs_ifeq rfl (fun c118 => ?_) (fun c118 => ?_)
                                            · exfalso; omega
                                            · skip
                                              refine Ev.step (j := 333) (s' := ([some (.ref 69), some (.int z83), some (.int z102), some (.int z115)], [.ref 69], (0, 0), hp94)) rfl rfl ?_
                                              exact by
                                               refine bs_lit (k := 3) rfl rfl fun z119 hz119 => ?_
                                               refine Ev.inl (L := L_X11_bad) (nL := 2) rfl (bs_rcv (g := 11) Hhp94 (bs_R.uq Hhp94 (g := 11) rfl) (by decide) rfl) rfl (Nat.le_of_ble_eq_true rfl) ?_
                                               generalize hQ120 : (fun (o : ab_O) => Ev _ _ _ _) = Q120
                                               refine (show Ev (ab_T L_X11_bad) 0 ([some (.ref 69), some (.int z119)], [], (0, 0), hp94) Q120 from ?_)
                                               refine Ev.step (j := 1) (s' := ([some (.ref 69), some (.int z119)], [.ref 69], (0, 0), hp94)) rfl rfl ?_
                                               refine Ev.step (j := 2) (s' := ([some (.ref 69), some (.int z119)], [.int z119, .ref 69], (0, 0), hp94)) rfl rfl ?_
                                               refine bs_putIv (W := [(11, 15, 15)]) (g := 11) rfl rfl Hhp94 (bs_R.uq Hhp94 (g := 11) rfl) (by decide) rfl rfl rfl rfl (Or.inl rfl) (by omega) (by omega) fun hp121 Hhp121 fhp121 rhp121 ehp121 qhp121 nhp121 => ?_
                                               have Fhp121 := sf_fr_tr Fhp94 (sf_fr_wider (W := [(11, 4, 4), (11, 11, 18), (11, 20, 20), (133, 0, 119), (135, 0, 0), (137, 0, 3)]) rfl fhp121)
                                               have h122 : sf_rd hp121 72 0 = some z92.toInt := (ehp121 _ _ (Or.inl (by decide))).trans h96
                                               have h123 : sf_rd hp121 69 18 = some (fnd s.nm 0 (s.h 0) (tok B n lim (i + 1)).v) := (ehp121 _ _ (Or.inr (by omega))).trans Y3X98
                                               have h124 : sf_rd hp121 69 11 = some z104.toInt := (ehp121 _ _ (Or.inr (by omega))).trans hz104
                                               have h125 : sf_rd hp121 69 14 = some z108.toInt := (ehp121 _ _ (Or.inr (by omega))).trans hz108
                                               have h126 : sf_rd hp121 76 3 = some z116.toInt := (ehp121 _ _ (Or.inl (by decide))).trans hz116
                                               refine Ev.step (j := 6) (s' := ([some (.ref 69), some (.int z119)], [.ref 69], (0, 0), hp121)) rfl rfl ?_
                                               exact by
                                                refine Ev.step (j := 7) (s' := ([some (.ref 69), some (.int z119)], [.ref 69, .ref 69], (0, 0), hp121)) rfl rfl ?_
                                                refine bs_getI 11 rfl rfl rfl Hhp121 (bs_R.uq Hhp121 (g := 11) rfl) (by decide) rfl fun z127 hz127 lz127 gz127 => ?_
                                                refine bs_putIv (W := [(11, 16, 16)]) (g := 11) rfl rfl Hhp121 (bs_R.uq Hhp121 (g := 11) rfl) (by decide) rfl rfl rfl rfl (Or.inl rfl) (by omega) (by omega) fun hp128 Hhp128 fhp128 rhp128 ehp128 qhp128 nhp128 => ?_
                                                have Fhp128 := sf_fr_tr Fhp121 (sf_fr_wider (W := [(11, 4, 4), (11, 11, 18), (11, 20, 20), (133, 0, 119), (135, 0, 0), (137, 0, 3)]) rfl fhp128)
                                                have h129 : sf_rd hp128 72 0 = some z92.toInt := (ehp128 _ _ (Or.inl (by decide))).trans h122
                                                have h130 : sf_rd hp128 69 18 = some (fnd s.nm 0 (s.h 0) (tok B n lim (i + 1)).v) := (ehp128 _ _ (Or.inr (by omega))).trans h123
                                                have h131 : sf_rd hp128 69 11 = some z104.toInt := (ehp128 _ _ (Or.inr (by omega))).trans h124
                                                have h132 : sf_rd hp128 69 14 = some z108.toInt := (ehp128 _ _ (Or.inr (by omega))).trans h125
                                                have h133 : sf_rd hp128 76 3 = some z116.toInt := (ehp128 _ _ (Or.inl (by decide))).trans h126
                                                have h134 : sf_rd hp128 69 15 = some z119.toInt := (ehp128 _ _ (Or.inr (by omega))).trans rhp121
                                                have h135 : sf_rd hp128 69 12 = some z127.toInt := (ehp128 _ _ (Or.inr (by omega))).trans hz127
                                                refine bs_lit (k := 0) rfl rfl fun z136 hz136 => ?_
                                                exact by
                                                 refine bs_zret rfl rfl (by omega) (by omega) ?_
                                                 rw [← hQ120]
                                                 refine (show Ev _ 337 ([some (.ref 69), some (.int z83), some (.int z102), some (.int z115)], [.int z136], (0, 0), hp128) _ from ?_)
                                                 exact bs_zret rfl rfl (by omega) (by omega) (by rw [hQ]; exact ⟨thp94, Hhp128, Fhp128, bs_an0, sf_S_cons (sf_s1 (x := z136.toInt) rfl (by omega) (by omega)) (sf_S_nil), (fun _ => by
                                                         skip
                                                         rw [lnx_amt (by omega), show ((tok B n lim i).k - 66).toNat = 3 by omega]
                                                         show RRES _ _ _ _ _ (lold (tok B n lim) s 0 (s.h 0) (i + 1) _)
                                                         rw [lold_o Y1X98 (by omega)]
                                                         have K3 : (tok B n lim (i + 2)).k = 3 := rkk_2 (by have KK := RK_k K2X98 hz104; omega)
                                                         have VV := RK_v K2X98 K3 hz108
                                                         have N9 := tok_nok B n lim (i + 2) K3
                                                         rw [lnum_o K3 (by omega) (by omega)]
                                                         have EK : (2 * fnd s.nm 0 (s.h 0) (tok B n lim (i + 1)).v + (tok B n lim (i + 2)).v).toNat = z115.toInt.toNat := by omega
                                                         rw [EK]
                                                         obtain ⟨A9, hA9, hB9⟩ := S100.2.2.1 3 (by decide)
                                                         have EA : z116.toInt = A9 := Option.some.inj (hz116.symm.trans hA9)
                                                         have TB9 := hB9 z115.toInt.toNat (by omega)
                                                         rw [← EA, tz117] at TB9
                                                         rw [if_pos TB9.symm]
                                                         have PL : z127.toInt = (tok B n lim (i + 2)).pl := Option.some.inj (hz127.symm.trans (((ehp121 _ _ (Or.inr (by omega)))).trans (RK_pl K2X98)))
                                                         exact RRES_bad ⟨z136, rfl, by omega⟩ (h134.trans (congrArg some (by omega))) (rhp128.trans (congrArg some PL)))⟩)
                                          · skip
                                            refine bs_ifeq rfl (fun c137 => ?_) (fun c137 => ?_)
                                            · skip
                                              refine Ev.step (j := 339) (s' := ([some (.ref 69), some (.int z83), some (.int z102), some (.int z115)], [.ref 69], (0, 0), hp94)) rfl rfl ?_
                                              exact by
                                               refine bs_getU (g := 11) (g1 := 137) rfl rfl Hhp94 (bs_R.uq Hhp94 (g := 11) rfl) (by decide) rfl rfl ?_
                                               refine Ev.step (j := 343) (s' := ([some (.ref 69), some (.int z83), some (.int z102), some (.int z115)], [.int z83, .ref 76], (0, 0), hp94)) rfl rfl ?_
                                               refine Ev.step (j := 344) (s' := ([some (.ref 69), some (.int z83), some (.int z102), some (.int z115)], [.int z83, .ref 76, .int z83, .ref 76], (0, 0), hp94)) rfl rfl ?_
                                               refine bs_ld (g := 137) 0 3 (-2147483648, 2147483647) rfl Hhp94 (bs_R.uq Hhp94 (g := 137) rfl) (by decide) rfl (by decide) (by decide) rfl (by decide) (by omega) (by omega) fun z138 hz138 lz138 gz138 => ?_
                                               dsimp only at lz138 gz138
                                               replace hz138 := bs_at hz138 (show z83.toInt.toNat = 3 by omega)
                                               have e139 : z138.toInt = z116.toInt := Option.some.inj (hz138.symm.trans hz116)
                                               refine bs_lit (k := 1) rfl rfl fun z140 hz140 => ?_
                                               refine Ev.step (j := 347) (s' := ([some (.ref 69), some (.int z83), some (.int z102), some (.int z115)], [.int z115, .int z140, .int z138, .int z83, .ref 76], (0, 0), hp94)) rfl rfl ?_
                                               exact by
                                                refine Ev.step (j := 348) (s' := ([some (.ref 69), some (.int z83), some (.int z102), some (.int z115)], [.int (z140 <<< (z115 &&& 31)), .int z138, .int z83, .ref 76], (0, 0), hp94)) rfl rfl ?_
                                                have rz141 := n_range (z140 <<< (z115 &&& 31))
                                                refine Ev.step (j := 349) (s' := ([some (.ref 69), some (.int z83), some (.int z102), some (.int z115)], [.int (z138 ||| (z140 <<< (z115 &&& 31))), .int z83, .ref 76], (0, 0), hp94)) rfl rfl ?_
                                                have rz142 := n_range (z138 ||| (z140 <<< (z115 &&& 31)))
                                                refine bs_stv (W := [(137, 0, 3)]) (g := 137) 0 3 (-2147483648, 2147483647) rfl Hhp94 (bs_R.uq Hhp94 (g := 137) rfl) (by decide) rfl rfl (by decide) rfl rfl (by omega) (by omega) (by dsimp only; omega) (by dsimp only; omega) fun hp143 Hhp143 fhp143 rhp143 ehp143 qhp143 nhp143 => ?_
                                                replace rhp143 := bs_at rhp143 (show z83.toInt.toNat = 3 by omega)
                                                have Fhp143 := sf_fr_tr Fhp94 (sf_fr_wider (W := [(11, 4, 4), (11, 11, 18), (11, 20, 20), (133, 0, 119), (135, 0, 0), (137, 0, 3)]) rfl fhp143)
                                                have h144 : sf_rd hp143 72 0 = some z92.toInt := (ehp143 _ _ (Or.inl (by decide))).trans h96
                                                have h145 : sf_rd hp143 69 18 = some (fnd s.nm 0 (s.h 0) (tok B n lim (i + 1)).v) := (ehp143 _ _ (Or.inl (by decide))).trans Y3X98
                                                have h146 : sf_rd hp143 69 11 = some z104.toInt := (ehp143 _ _ (Or.inl (by decide))).trans hz104
                                                have h147 : sf_rd hp143 69 14 = some z108.toInt := (ehp143 _ _ (Or.inl (by decide))).trans hz108
                                                have K148 := RK_keep Hhp94 fhp143 rfl rfl (nhp143 _ _) K2X98
                                                have R149 := RES_fr Hhp94 fhp143 rfl R99
                                                refine Ev.step (j := 351) (s' := ([some (.ref 69), some (.int z83), some (.int z102), some (.int z115)], [.ref 69], (0, 0), hp143)) rfl rfl ?_
                                                exact by
                                                 refine bs_callx (K := kq_X11_next_v) [.ref 69] [] rfl ce_X11_next_v Hhp143 rfl rfl rfl (bs_rcv (g := 11) Hhp143 (bs_R.uq Hhp143 (g := 11) rfl) (by decide) rfl) rfl ?_ (sf_S_nil) fun r150 hp151 thp151 Hhp151 fhp151 ahp151 php151 xhp151 => ?_
                                                 · intro q k h
                                                   match q, h with
                                                   | 0, h => cases h; exact bs_jR (bs_R.uq Hhp143 (g := 11) rfl)
                                                   | q + 1, h => cases h
                                                 obtain rfl := ahp151.1 rfl
                                                 have Fhp151 := sf_fr_tr Fhp143 (sf_fr_wider (W := [(11, 4, 4), (11, 11, 18), (11, 20, 20), (133, 0, 119), (135, 0, 0), (137, 0, 3)]) rfl fhp151)
                                                 have h152 : sf_rd hp151 72 0 = some z92.toInt := (fhp151.2.2.1 _ (bs_R.uq Hhp143 (g := 133) (p := 72) rfl).1 _ (by rw [(bs_R.uq Hhp143 (g := 133) (p := 72) rfl).2]; rfl)).trans h144
                                                 have h153 : sf_rd hp151 69 18 = some (fnd s.nm 0 (s.h 0) (tok B n lim (i + 1)).v) := (fhp151.2.2.1 _ (bs_R.uq Hhp143 (g := 11) (p := 69) rfl).1 _ (by rw [(bs_R.uq Hhp143 (g := 11) (p := 69) rfl).2]; rfl)).trans h145
                                                 have h154 : sf_rd hp151 76 3 = some (z138 ||| (z140 <<< (z115 &&& 31))).toInt := (fhp151.2.2.1 _ (bs_R.uq Hhp143 (g := 137) (p := 76) rfl).1 _ (by rw [(bs_R.uq Hhp143 (g := 137) (p := 76) rfl).2]; rfl)).trans rhp143
                                                 refine (show Ev _ 354 ([some (.ref 69), some (.int z83), some (.int z102), some (.int z115)], [], (0, 0), hp151) _ from ?_)
                                                 have K155 := (RK_next Hhp143 fhp151 rfl rfl rfl xhp151 K148).1
                                                 have R156 := RES_fr Hhp143 fhp151 rfl R149
                                                 refine Ev.step (j := 355) (s' := ([some (.ref 69), some (.int z83), some (.int z102), some (.int z115)], [.ref 69], (0, 0), hp151)) rfl rfl ?_
                                                 exact by
                                                  refine bs_lit (k := 4) rfl rfl fun z157 hz157 => ?_
                                                  refine bs_lit (k := 12) rfl rfl fun z158 hz158 => ?_
                                                  refine Ev.step (j := 359) (s' := ([some (.ref 69), some (.int z83), some (.int z102), some (.int z115)], [.int z83, .int z158, .int z157, .ref 69], (0, 0), hp151)) rfl rfl ?_
                                                  refine bs_mul (3) rfl (Or.inr hz83) (by rw [hz83]; omega) (by rw [hz83]; omega) fun z159 hz159 => ?_
                                                  rw [hz83] at hz159
                                                  first | (refine bs_add rfl (by omega) (by omega) fun z160 hz160 => ?_) | (refine bs_any rfl fun z160 => ?_)
                                                  have rz160 := n_range z160
                                                  refine Ev.step (j := 362) (s' := ([some (.ref 69), some (.int z83), some (.int z102), some (.int z115)], [.int z115, .int z160, .ref 69], (0, 0), hp151)) rfl rfl ?_
                                                  first | (refine bs_add rfl (by omega) (by omega) fun z161 hz161 => ?_) | (refine bs_any rfl fun z161 => ?_)
                                                  have rz161 := n_range z161
                                                  refine bs_lit (k := 0) rfl rfl fun z162 hz162 => ?_
                                                  exact by
                                                   refine Ev.step (j := 365) (s' := ([some (.ref 69), some (.int z83), some (.int z102), some (.int z115)], [.int z83, .int z162, .int z161, .ref 69], (0, 0), hp151)) rfl rfl ?_
                                                   refine bs_lit (k := 2) rfl rfl fun z163 hz163 => ?_
                                                   refine bs_ge rfl (fun c164 => ?_) (fun c164 => ?_)
                                                   · skip
                                                     refine bs_lit (k := 20) rfl rfl fun z165 hz165 => ?_
                                                     refine bs_callx (K := kq_X11_puts_v2) [.ref 69, .int z161, .int z162, .int z165] [] rfl ce_X11_puts_v2 Hhp151 rfl rfl rfl (bs_rcv (g := 11) Hhp151 (bs_R.uq Hhp151 (g := 11) rfl) (by decide) rfl) rfl ?_ (sf_S_cons (sf_s1 (x := z161.toInt) rfl (by omega) (by omega)) (sf_S_cons (sf_s1 (x := z162.toInt) rfl (by omega) (by omega)) (sf_S_cons (sf_s1 (x := z165.toInt) rfl (by omega) (by omega)) (sf_S_nil)))) fun r166 hp167 thp167 Hhp167 fhp167 ahp167 php167 xhp167 => ?_
                                                     · intro q k h
                                                       match q, h with
                                                       | 0, h => cases h; exact bs_jR (bs_R.uq Hhp151 (g := 11) rfl)
                                                       | 1, h => cases h; exact sf_j0
                                                       | 2, h => cases h; exact sf_j0
                                                       | 3, h => cases h; exact sf_j0
                                                       | q + 4, h => cases h
                                                     obtain ⟨z168, rfl⟩ := bs_anI ahp167
                                                     have rgz168 := n_range z168
                                                     have Fhp167 := sf_fr_tr Fhp151 (sf_fr_wider (W := [(11, 4, 4), (11, 11, 18), (11, 20, 20), (133, 0, 119), (135, 0, 0), (137, 0, 3)]) rfl fhp167)
                                                     have h169 : sf_rd hp167 72 0 = some z92.toInt := (fhp167.2.2.1 _ (bs_R.uq Hhp151 (g := 133) (p := 72) rfl).1 _ (by rw [(bs_R.uq Hhp151 (g := 133) (p := 72) rfl).2]; rfl)).trans h152
                                                     have h170 : sf_rd hp167 76 3 = some (z138 ||| (z140 <<< (z115 &&& 31))).toInt := (fhp167.2.2.1 _ (bs_R.uq Hhp151 (g := 137) (p := 76) rfl).1 _ (by rw [(bs_R.uq Hhp151 (g := 137) (p := 76) rfl).2]; rfl)).trans h154
                                                     obtain ⟨uz168, vz168⟩ := bs_s1 (x := z168.toInt) rfl (php167 _ (List.mem_of_getElem? (i := 0) rfl))
                                                     refine (show Ev _ 380 ([some (.ref 69), some (.int z83), some (.int z102), some (.int z115)], [.int z168], (0, 0), hp167) _ from ?_)
                                                     obtain ⟨q171, rq171, X172⟩ := xhp167 _ _ _ B n lim (i + 3) rfl K155
                                                     obtain rfl := Value.int.inj (Option.some.inj rq171)
                                                     exact bs_zret rfl rfl (by omega) (by omega) (by rw [hQ]; exact ⟨thp167, Hhp167, Fhp167, bs_an0, sf_S_cons (sf_s1 (x := z168.toInt) rfl (by omega) (by omega)) (sf_S_nil), (fun _ => by
                                                             skip
                                                             rw [lnx_amt (by omega), show ((tok B n lim i).k - 66).toNat = 3 by omega]
                                                             show RRES _ _ _ _ _ (lold (tok B n lim) s 0 (s.h 0) (i + 1) _)
                                                             rw [lold_o Y1X98 (by omega)]
                                                             have K3 : (tok B n lim (i + 2)).k = 3 := rkk_2 (by have KK := RK_k K2X98 hz104; omega)
                                                             have VV := RK_v K2X98 K3 hz108
                                                             have N9 := tok_nok B n lim (i + 2) K3
                                                             rw [lnum_o K3 (by omega) (by omega)]
                                                             have EK : (2 * fnd s.nm 0 (s.h 0) (tok B n lim (i + 1)).v + (tok B n lim (i + 2)).v).toNat = z115.toInt.toNat := by omega
                                                             rw [EK]
                                                             obtain ⟨A9, hA9, hB9⟩ := S100.2.2.1 3 (by decide)
                                                             have EA : z116.toInt = A9 := Option.some.inj (hz116.symm.trans hA9)
                                                             have TB9 := hB9 z115.toInt.toNat (by omega)
                                                             rw [← EA, tz117] at TB9
                                                             rw [if_neg (by rw [← TB9]; decide)]
                                                             rw [show (if (3 : Nat) = 2 ∨ (3 : Nat) = 3 then (20 : Int) else 250) = 20 from if_pos (by decide)]
                                                             rcases X172 with ⟨Y0, Y1, Y2, Y3, Y4, Y5, Y6⟩ | ⟨Y0, P1, ⟨P2, P3⟩ | ⟨⟨P2, P4⟩, P3⟩⟩
                                                             · rw [lnum_o Y1 (by omega) (by omega)]
                                                               have EP : z161.toInt.toNat = 4 + (12 * 3 + z115.toInt.toNat) := by omega
                                                               rw [EP] at Y4 Y5
                                                               exact RRES_ok ⟨z168, rfl, by omega⟩ (SR_amt S100 (by decide) (by omega) Y4 (fun q hq => (Y5 q hq).trans (((fhp151.2.2.1 _ (bs_R.uq Hhp143 (g := 133) (p := 72) rfl).1 _ (by rw [(bs_R.uq Hhp143 (g := 133) (p := 72) rfl).2]; rfl)).trans (ehp143 _ _ (Or.inl (by decide)))))) (((fhp167.2.2.1 _ (bs_R.uq Hhp151 (g := 11) (p := 69) rfl).1 _ (by rw [(bs_R.uq Hhp151 (g := 11) (p := 69) rfl).2]; rfl)).trans ((fhp151.2.2.1 _ (bs_R.uq Hhp143 (g := 11) (p := 69) rfl).1 _ (by rw [(bs_R.uq Hhp143 (g := 11) (p := 69) rfl).2]; rfl)).trans (ehp143 _ _ (Or.inl (by decide)))))) (((fhp167.2.2.2.1 _ (bs_R.uq Hhp151 (g := 135) (p := 74) rfl).1 (by rw [(bs_R.uq Hhp151 (g := 135) (p := 74) rfl).2]; rfl)).trans ((fhp151.2.2.2.1 _ (bs_R.uq Hhp143 (g := 135) (p := 74) rfl).1 (by rw [(bs_R.uq Hhp143 (g := 135) (p := 74) rfl).2]; rfl)).trans (fhp143.2.2.2.1 _ (bs_R.uq Hhp94 (g := 135) rfl).1 (by rw [(bs_R.uq Hhp94 (g := 135) rfl).2]; rfl))))) (bs_at h170 (by omega)) (fun A0 hA0 j hj => by rw [show A0 = z138.toInt from (Option.some.inj (hA0.symm.trans hz116)).trans (by omega)]; exact ib_or (by omega) (by omega) (by omega) hj) (fun q hq => ((fhp167.2.2.1 _ (bs_R.uq Hhp151 (g := 137) (p := 76) rfl).1 _ (by rw [(bs_R.uq Hhp151 (g := 137) (p := 76) rfl).2]; rfl)).trans ((fhp151.2.2.1 _ (bs_R.uq Hhp143 (g := 137) (p := 76) rfl).1 _ (by rw [(bs_R.uq Hhp143 (g := 137) (p := 76) rfl).2]; rfl)).trans (ehp143 _ _ (Or.inr (by omega))))))) Y6
                                                             · rw [lnum_1 P2]
                                                               exact RRES_bad ⟨z168, rfl, by omega⟩ P3 P1
                                                             · rw [lnum_2 P2 (by omega)]
                                                               exact RRES_bad ⟨z168, rfl, by omega⟩ P3 P1)⟩)
                                                   · exfalso; omega
                                            · exfalso; omega
                                      · skip
                                        refine Ev.step (j := 305) (s' := ([some (.ref 69), some (.int z83), some (.int z102), none], [.ref 69], (0, 0), hp94)) rfl rfl ?_
                                        exact by
                                         refine bs_lit (k := 2) rfl rfl fun z173 hz173 => ?_
                                         refine Ev.inl (L := L_X11_bad) (nL := 2) rfl (bs_rcv (g := 11) Hhp94 (bs_R.uq Hhp94 (g := 11) rfl) (by decide) rfl) rfl (Nat.le_of_ble_eq_true rfl) ?_
                                         generalize hQ174 : (fun (o : ab_O) => Ev _ _ _ _) = Q174
                                         refine (show Ev (ab_T L_X11_bad) 0 ([some (.ref 69), some (.int z173)], [], (0, 0), hp94) Q174 from ?_)
                                         refine Ev.step (j := 1) (s' := ([some (.ref 69), some (.int z173)], [.ref 69], (0, 0), hp94)) rfl rfl ?_
                                         refine Ev.step (j := 2) (s' := ([some (.ref 69), some (.int z173)], [.int z173, .ref 69], (0, 0), hp94)) rfl rfl ?_
                                         refine bs_putIv (W := [(11, 15, 15)]) (g := 11) rfl rfl Hhp94 (bs_R.uq Hhp94 (g := 11) rfl) (by decide) rfl rfl rfl rfl (Or.inl rfl) (by omega) (by omega) fun hp175 Hhp175 fhp175 rhp175 ehp175 qhp175 nhp175 => ?_
                                         have Fhp175 := sf_fr_tr Fhp94 (sf_fr_wider (W := [(11, 4, 4), (11, 11, 18), (11, 20, 20), (133, 0, 119), (135, 0, 0), (137, 0, 3)]) rfl fhp175)
                                         have h176 : sf_rd hp175 72 0 = some z92.toInt := (ehp175 _ _ (Or.inl (by decide))).trans h96
                                         have h177 : sf_rd hp175 69 18 = some (fnd s.nm 0 (s.h 0) (tok B n lim (i + 1)).v) := (ehp175 _ _ (Or.inr (by omega))).trans Y3X98
                                         have h178 : sf_rd hp175 69 11 = some z104.toInt := (ehp175 _ _ (Or.inr (by omega))).trans hz104
                                         have h179 : sf_rd hp175 69 14 = some z108.toInt := (ehp175 _ _ (Or.inr (by omega))).trans hz108
                                         refine Ev.step (j := 6) (s' := ([some (.ref 69), some (.int z173)], [.ref 69], (0, 0), hp175)) rfl rfl ?_
                                         exact by
                                          refine Ev.step (j := 7) (s' := ([some (.ref 69), some (.int z173)], [.ref 69, .ref 69], (0, 0), hp175)) rfl rfl ?_
                                          refine bs_getI 11 rfl rfl rfl Hhp175 (bs_R.uq Hhp175 (g := 11) rfl) (by decide) rfl fun z180 hz180 lz180 gz180 => ?_
                                          refine bs_putIv (W := [(11, 16, 16)]) (g := 11) rfl rfl Hhp175 (bs_R.uq Hhp175 (g := 11) rfl) (by decide) rfl rfl rfl rfl (Or.inl rfl) (by omega) (by omega) fun hp181 Hhp181 fhp181 rhp181 ehp181 qhp181 nhp181 => ?_
                                          have Fhp181 := sf_fr_tr Fhp175 (sf_fr_wider (W := [(11, 4, 4), (11, 11, 18), (11, 20, 20), (133, 0, 119), (135, 0, 0), (137, 0, 3)]) rfl fhp181)
                                          have h182 : sf_rd hp181 72 0 = some z92.toInt := (ehp181 _ _ (Or.inl (by decide))).trans h176
                                          have h183 : sf_rd hp181 69 18 = some (fnd s.nm 0 (s.h 0) (tok B n lim (i + 1)).v) := (ehp181 _ _ (Or.inr (by omega))).trans h177
                                          have h184 : sf_rd hp181 69 11 = some z104.toInt := (ehp181 _ _ (Or.inr (by omega))).trans h178
                                          have h185 : sf_rd hp181 69 14 = some z108.toInt := (ehp181 _ _ (Or.inr (by omega))).trans h179
                                          have h186 : sf_rd hp181 69 15 = some z173.toInt := (ehp181 _ _ (Or.inr (by omega))).trans rhp175
                                          have h187 : sf_rd hp181 69 12 = some z180.toInt := (ehp181 _ _ (Or.inr (by omega))).trans hz180
                                          refine bs_lit (k := 0) rfl rfl fun z188 hz188 => ?_
                                          exact by
                                           refine bs_zret rfl rfl (by omega) (by omega) ?_
                                           rw [← hQ174]
                                           refine (show Ev _ 309 ([some (.ref 69), some (.int z83), some (.int z102), none], [.int z188], (0, 0), hp181) _ from ?_)
                                           exact bs_zret rfl rfl (by omega) (by omega) (by rw [hQ]; exact ⟨thp94, Hhp181, Fhp181, bs_an0, sf_S_cons (sf_s1 (x := z188.toInt) rfl (by omega) (by omega)) (sf_S_nil), (fun _ => by
                                                   skip
                                                   rw [lnx_amt (by omega), show ((tok B n lim i).k - 66).toNat = 3 by omega]
                                                   show RRES _ _ _ _ _ (lold (tok B n lim) s 0 (s.h 0) (i + 1) _)
                                                   rw [lold_o Y1X98 (by omega)]
                                                   have K3 : (tok B n lim (i + 2)).k = 3 := rkk_2 (by have KK := RK_k K2X98 hz104; omega)
                                                   have VV := RK_v K2X98 K3 hz108
                                                   have N9 := tok_nok B n lim (i + 2) K3
                                                   rw [lnum_2 K3 (by omega)]
                                                   have PL : z180.toInt = (tok B n lim (i + 2)).pl := Option.some.inj (hz180.symm.trans (((ehp175 _ _ (Or.inr (by omega)))).trans (RK_pl K2X98)))
                                                   exact RRES_bad ⟨z188, rfl, by omega⟩ (h186.trans (congrArg some (by omega))) (rhp181.trans (congrArg some PL)))⟩)
                                   · skip
                                     refine Ev.step (j := 291) (s' := ([some (.ref 69), some (.int z83), some (.int z102), none], [.ref 69], (0, 0), hp94)) rfl rfl ?_
                                     exact by
                                      refine bs_lit (k := 1) rfl rfl fun z189 hz189 => ?_
                                      refine Ev.inl (L := L_X11_bad) (nL := 2) rfl (bs_rcv (g := 11) Hhp94 (bs_R.uq Hhp94 (g := 11) rfl) (by decide) rfl) rfl (Nat.le_of_ble_eq_true rfl) ?_
                                      generalize hQ190 : (fun (o : ab_O) => Ev _ _ _ _) = Q190
                                      refine (show Ev (ab_T L_X11_bad) 0 ([some (.ref 69), some (.int z189)], [], (0, 0), hp94) Q190 from ?_)
                                      refine Ev.step (j := 1) (s' := ([some (.ref 69), some (.int z189)], [.ref 69], (0, 0), hp94)) rfl rfl ?_
                                      refine Ev.step (j := 2) (s' := ([some (.ref 69), some (.int z189)], [.int z189, .ref 69], (0, 0), hp94)) rfl rfl ?_
                                      refine bs_putIv (W := [(11, 15, 15)]) (g := 11) rfl rfl Hhp94 (bs_R.uq Hhp94 (g := 11) rfl) (by decide) rfl rfl rfl rfl (Or.inl rfl) (by omega) (by omega) fun hp191 Hhp191 fhp191 rhp191 ehp191 qhp191 nhp191 => ?_
                                      have Fhp191 := sf_fr_tr Fhp94 (sf_fr_wider (W := [(11, 4, 4), (11, 11, 18), (11, 20, 20), (133, 0, 119), (135, 0, 0), (137, 0, 3)]) rfl fhp191)
                                      have h192 : sf_rd hp191 72 0 = some z92.toInt := (ehp191 _ _ (Or.inl (by decide))).trans h96
                                      have h193 : sf_rd hp191 69 18 = some (fnd s.nm 0 (s.h 0) (tok B n lim (i + 1)).v) := (ehp191 _ _ (Or.inr (by omega))).trans Y3X98
                                      have h194 : sf_rd hp191 69 11 = some z104.toInt := (ehp191 _ _ (Or.inr (by omega))).trans hz104
                                      refine Ev.step (j := 6) (s' := ([some (.ref 69), some (.int z189)], [.ref 69], (0, 0), hp191)) rfl rfl ?_
                                      exact by
                                       refine Ev.step (j := 7) (s' := ([some (.ref 69), some (.int z189)], [.ref 69, .ref 69], (0, 0), hp191)) rfl rfl ?_
                                       refine bs_getI 11 rfl rfl rfl Hhp191 (bs_R.uq Hhp191 (g := 11) rfl) (by decide) rfl fun z195 hz195 lz195 gz195 => ?_
                                       refine bs_putIv (W := [(11, 16, 16)]) (g := 11) rfl rfl Hhp191 (bs_R.uq Hhp191 (g := 11) rfl) (by decide) rfl rfl rfl rfl (Or.inl rfl) (by omega) (by omega) fun hp196 Hhp196 fhp196 rhp196 ehp196 qhp196 nhp196 => ?_
                                       have Fhp196 := sf_fr_tr Fhp191 (sf_fr_wider (W := [(11, 4, 4), (11, 11, 18), (11, 20, 20), (133, 0, 119), (135, 0, 0), (137, 0, 3)]) rfl fhp196)
                                       have h197 : sf_rd hp196 72 0 = some z92.toInt := (ehp196 _ _ (Or.inl (by decide))).trans h192
                                       have h198 : sf_rd hp196 69 18 = some (fnd s.nm 0 (s.h 0) (tok B n lim (i + 1)).v) := (ehp196 _ _ (Or.inr (by omega))).trans h193
                                       have h199 : sf_rd hp196 69 11 = some z104.toInt := (ehp196 _ _ (Or.inr (by omega))).trans h194
                                       have h200 : sf_rd hp196 69 15 = some z189.toInt := (ehp196 _ _ (Or.inr (by omega))).trans rhp191
                                       have h201 : sf_rd hp196 69 12 = some z195.toInt := (ehp196 _ _ (Or.inr (by omega))).trans hz195
                                       refine bs_lit (k := 0) rfl rfl fun z202 hz202 => ?_
                                       exact by
                                        refine bs_zret rfl rfl (by omega) (by omega) ?_
                                        rw [← hQ190]
                                        refine (show Ev _ 295 ([some (.ref 69), some (.int z83), some (.int z102), none], [.int z202], (0, 0), hp196) _ from ?_)
                                        exact bs_zret rfl rfl (by omega) (by omega) (by rw [hQ]; exact ⟨thp94, Hhp196, Fhp196, bs_an0, sf_S_cons (sf_s1 (x := z202.toInt) rfl (by omega) (by omega)) (sf_S_nil), (fun _ => by
                                                skip
                                                rw [lnx_amt (by omega), show ((tok B n lim i).k - 66).toNat = 3 by omega]
                                                show RRES _ _ _ _ _ (lold (tok B n lim) s 0 (s.h 0) (i + 1) _)
                                                rw [lold_o Y1X98 (by omega)]
                                                have K3 : (tok B n lim (i + 2)).k ≠ 3 := fun e => by have KK := RK_k K2X98 hz104; rw [e] at KK; have KK2 : _ = (2 : Int) := KK; omega
                                                rw [lnum_1 K3]
                                                have PL : z195.toInt = (tok B n lim (i + 2)).pl := Option.some.inj (hz195.symm.trans (((ehp191 _ _ (Or.inr (by omega)))).trans (RK_pl K2X98)))
                                                exact RRES_bad ⟨z202, rfl, by omega⟩ (h200.trans (congrArg some (by omega))) (rhp196.trans (congrArg some PL)))⟩)
                                · skip
                                  have c203 : z95.toInt = 0 := by omega
                                  refine bs_lit (k := 0) rfl rfl fun z204 hz204 => ?_
                                  exact bs_zret rfl rfl (by omega) (by omega) (by rw [hQ]; exact ⟨thp94, Hhp94, Fhp94, bs_an0, sf_S_cons (sf_s1 (x := z204.toInt) rfl (by omega) (by omega)) (sf_S_nil), (fun _ => by
                                          skip
                                          rw [lnx_amt (by omega), show ((tok B n lim i).k - 66).toNat = 3 by omega]
                                          show RRES _ _ _ _ _ (lold (tok B n lim) s 0 (s.h 0) (i + 1) _)
                                          rcases X98.resolve_left (fun h => absurd h.1 (by omega)) with ⟨Y0, P1, ⟨P2, P3⟩ | ⟨⟨P2, P4⟩, P3⟩⟩
                                          · rw [lold_1 P2]
                                            exact RRES_bad ⟨z204, rfl, by omega⟩ P3 P1
                                          · rw [lold_3 P2 (by omega)]
                                            exact RRES_bad ⟨z204, rfl, by omega⟩ P3 P1)⟩)
                             · exfalso; omega
                       · skip
                         refine bs_lit (k := 2) rfl rfl fun z205 hz205 => ?_
                         exact by
                          refine Ev.step (j := 245) (s' := ([some (.ref 69), none, none, none], [.int z205], (0, 0), hp56)) rfl rfl ?_
                          refine Ev.step (j := 246) (s' := ([some (.ref 69), some (.int z205), none, none], [], (0, 0), hp56)) rfl rfl ?_
                          refine Ev.step (j := 247) (s' := ([some (.ref 69), some (.int z205), none, none], [.int z205], (0, 0), hp56)) rfl rfl ?_
                          refine bs_ifge rfl (fun c206 => ?_) (fun c206 => ?_)
                          · skip
                            refine Ev.step (j := 257) (s' := ([some (.ref 69), some (.int z205), none, none], [.ref 69], (0, 0), hp56)) rfl rfl ?_
                            refine bs_callx (K := kq_X11_next_v) [.ref 69] [] rfl ce_X11_next_v Hhp56 rfl rfl rfl (bs_rcv (g := 11) Hhp56 (bs_R.uq Hhp56 (g := 11) rfl) (by decide) rfl) rfl ?_ (sf_S_nil) fun r207 hp208 thp208 Hhp208 fhp208 ahp208 php208 xhp208 => ?_
                            · intro q k h
                              match q, h with
                              | 0, h => cases h; exact bs_jR (bs_R.uq Hhp56 (g := 11) rfl)
                              | q + 1, h => cases h
                            obtain rfl := ahp208.1 rfl
                            have Fhp208 := sf_fr_tr Fhp56 (sf_fr_wider (W := [(11, 4, 4), (11, 11, 18), (11, 20, 20), (133, 0, 119), (135, 0, 0), (137, 0, 3)]) rfl fhp208)
                            refine (show Ev _ 260 ([some (.ref 69), some (.int z205), none, none], [], (0, 0), hp208) _ from ?_)
                            have K209 := (RK_next Hhp56 fhp208 rfl rfl rfl xhp208 K59).1
                            have R210 := RES_fr Hhp56 fhp208 rfl R61
                            have S211 := SR_fr Hhp56 fhp208 rfl rfl rfl rfl S60
                            refine Ev.step (j := 261) (s' := ([some (.ref 69), some (.int z205), none, none], [.ref 69], (0, 0), hp208)) rfl rfl ?_
                            exact by
                             refine bs_lit (k := 14) rfl rfl fun z212 hz212 => ?_
                             refine Ev.step (j := 264) (s' := ([some (.ref 69), some (.int z205), none, none], [.ref 69, .int z212, .ref 69], (0, 0), hp208)) rfl rfl ?_
                             refine bs_getU (g := 11) (g1 := 133) rfl rfl Hhp208 (bs_R.uq Hhp208 (g := 11) rfl) (by decide) rfl rfl ?_
                             refine bs_lit (k := 0) rfl rfl fun z213 hz213 => ?_
                             refine bs_ld (g := 133) 0 0 (0, 6) rfl Hhp208 (bs_R.uq Hhp208 (g := 133) rfl) (by decide) rfl (by decide) (by decide) rfl (by decide) (by omega) (by omega) fun z214 hz214 lz214 gz214 => ?_
                             dsimp only at lz214 gz214
                             replace hz214 := bs_at hz214 (show z213.toInt.toNat = 0 by omega)
                             have c0_z214 : z214.toInt = s.h 0 := Option.some.inj (hz214.symm.trans (S211.1 0 (by decide)))
                             refine bs_callx (K := kq_X11_takesName_v) [.ref 69, .int z212, .int z214] [] rfl ce_X11_takesName_v Hhp208 rfl rfl rfl (bs_rcv (g := 11) Hhp208 (bs_R.uq Hhp208 (g := 11) rfl) (by decide) rfl) rfl ?_ (sf_S_cons (sf_s1 (x := z212.toInt) rfl (by omega) (by omega)) (sf_S_cons (sf_s1 (x := z214.toInt) rfl (by omega) (by omega)) (sf_S_nil))) fun r215 hp216 thp216 Hhp216 fhp216 ahp216 php216 xhp216 => ?_
                             · intro q k h
                               match q, h with
                               | 0, h => cases h; exact bs_jR (bs_R.uq Hhp208 (g := 11) rfl)
                               | 1, h => cases h; exact sf_j0
                               | 2, h => cases h; exact sf_j0
                               | q + 3, h => cases h
                             obtain ⟨z217, rfl⟩ := bs_anI ahp216
                             have rgz217 := n_range z217
                             have Fhp216 := sf_fr_tr Fhp208 (sf_fr_wider (W := [(11, 4, 4), (11, 11, 18), (11, 20, 20), (133, 0, 119), (135, 0, 0), (137, 0, 3)]) rfl fhp216)
                             have h218 : sf_rd hp216 72 0 = some z214.toInt := (fhp216.2.2.1 _ (bs_R.uq Hhp208 (g := 133) (p := 72) rfl).1 _ (by rw [(bs_R.uq Hhp208 (g := 133) (p := 72) rfl).2]; rfl)).trans hz214
                             obtain ⟨uz217, vz217⟩ := bs_s1 (x := z217.toInt) rfl (php216 _ (List.mem_of_getElem? (i := 0) rfl))
                             refine (show Ev _ 272 ([some (.ref 69), some (.int z205), none, none], [.int z217], (0, 0), hp216) _ from ?_)
                             obtain ⟨q219, rq219, X220⟩ := xhp216 _ _ s.nm 0 B n lim (i + 1) rfl (fun k hk => by rw [show z212.toInt.toNat + k = 14 + k by omega, Nat.zero_add]; exact S211.2.2.2.1 k (by omega)) R210 K209
                             obtain rfl := Value.int.inj (Option.some.inj rq219)
                             rw [show z214.toInt = s.h 0 by omega] at X220
                             have R221 := RES_fr Hhp208 fhp216 rfl R210
                             have S222 := SR_fr Hhp208 fhp216 rfl rfl rfl rfl S211
                             refine bs_ifne rfl (fun c223 => ?_) (fun c223 => ?_)
                             · skip
                               obtain ⟨Y0X220, Y1X220, Y2X220, Y3X220, Y4X220⟩ := X220.resolve_right (fun h => absurd h.1 (by omega))
                               have K2X220 : RK hp216 B n lim (i + 2) := Y4X220
                               have FBX220 : fnd s.nm 0 (s.h 0) (tok B n lim (i + 1)).v ≤ 5 := by have := fnd_lt (nm := s.nm) (o := 0) (n := s.h 0) (v := (tok B n lim (i + 1)).v); omega
                               refine Ev.step (j := 278) (s' := ([some (.ref 69), some (.int z205), none, none], [.ref 69], (0, 0), hp216)) rfl rfl ?_
                               exact by
                                refine bs_getI 11 rfl rfl rfl Hhp216 (bs_R.uq Hhp216 (g := 11) rfl) (by decide) rfl fun z224 hz224 lz224 gz224 => ?_
                                have e225 : z224.toInt = (fnd s.nm 0 (s.h 0) (tok B n lim (i + 1)).v) := Option.some.inj (hz224.symm.trans Y3X220)
                                refine Ev.step (j := 282) (s' := ([some (.ref 69), some (.int z205), some (.int z224), none], [], (0, 0), hp216)) rfl rfl ?_
                                refine Ev.step (j := 283) (s' := ([some (.ref 69), some (.int z205), some (.int z224), none], [.ref 69], (0, 0), hp216)) rfl rfl ?_
                                refine bs_getI 11 rfl rfl rfl Hhp216 (bs_R.uq Hhp216 (g := 11) rfl) (by decide) rfl fun z226 hz226 lz226 gz226 => ?_
                                refine bs_lit (k := 2) rfl rfl fun z227 hz227 => ?_
                                refine bs_eq rfl (fun c228 => ?_) (fun c228 => ?_)
                                · skip
                                  have c229 : z226.toInt = 2 := by omega
                                  refine Ev.step (j := 297) (s' := ([some (.ref 69), some (.int z205), some (.int z224), none], [.ref 69], (0, 0), hp216)) rfl rfl ?_
                                  exact by
                                   refine bs_getI 11 rfl rfl rfl Hhp216 (bs_R.uq Hhp216 (g := 11) rfl) (by decide) rfl fun z230 hz230 lz230 gz230 => ?_
                                   refine bs_lit (k := 1) rfl rfl fun z231 hz231 => ?_
                                   refine bs_le rfl (fun c232 => ?_) (fun c232 => ?_)
                                   · skip
                                     have KT : (tok B n lim (i + 2)).k = 3 := rkk_2 (by have KK := RK_k K2X220 hz226; omega)
                                     have VT := RK_v K2X220 KT hz230
                                     have NT_ := tok_nok B n lim (i + 2) KT
                                     refine bs_lit (k := 2) rfl rfl fun z233 hz233 => ?_
                                     refine Ev.step (j := 312) (s' := ([some (.ref 69), some (.int z205), some (.int z224), none], [.int z224, .int z233], (0, 0), hp216)) rfl rfl ?_
                                     exact by
                                      refine bs_mul (2) rfl (Or.inl hz233) (by rw [hz233]; omega) (by rw [hz233]; omega) fun z234 hz234 => ?_
                                      rw [hz233] at hz234
                                      refine Ev.step (j := 314) (s' := ([some (.ref 69), some (.int z205), some (.int z224), none], [.ref 69, .int z234], (0, 0), hp216)) rfl rfl ?_
                                      refine bs_getI 11 rfl rfl rfl Hhp216 (bs_R.uq Hhp216 (g := 11) rfl) (by decide) rfl fun z235 hz235 lz235 gz235 => ?_
                                      have e236 : z235.toInt = z230.toInt := Option.some.inj (hz235.symm.trans hz230)
                                      first | (refine bs_add rfl (by omega) (by omega) fun z237 hz237 => ?_) | (refine bs_any rfl fun z237 => ?_)
                                      have rz237 := n_range z237
                                      refine Ev.step (j := 319) (s' := ([some (.ref 69), some (.int z205), some (.int z224), some (.int z237)], [], (0, 0), hp216)) rfl rfl ?_
                                      refine Ev.step (j := 320) (s' := ([some (.ref 69), some (.int z205), some (.int z224), some (.int z237)], [.ref 69], (0, 0), hp216)) rfl rfl ?_
                                      exact by
                                       refine bs_getU (g := 11) (g1 := 137) rfl rfl Hhp216 (bs_R.uq Hhp216 (g := 11) rfl) (by decide) rfl rfl ?_
                                       refine Ev.step (j := 324) (s' := ([some (.ref 69), some (.int z205), some (.int z224), some (.int z237)], [.int z205, .ref 76], (0, 0), hp216)) rfl rfl ?_
                                       refine bs_ld (g := 137) 0 3 (-2147483648, 2147483647) rfl Hhp216 (bs_R.uq Hhp216 (g := 137) rfl) (by decide) rfl (by decide) (by decide) rfl (by decide) (by omega) (by omega) fun z238 hz238 lz238 gz238 => ?_
                                       dsimp only at lz238 gz238
                                       replace hz238 := bs_at hz238 (show z205.toInt.toNat = 2 by omega)
                                       refine Ev.step (j := 326) (s' := ([some (.ref 69), some (.int z205), some (.int z224), some (.int z237)], [.int z237, .int z238], (0, 0), hp216)) rfl rfl ?_
                                       refine bs_pure [.int z238, .int z237] [] rfl rfl rfl rfl (px_X11_bitOf (by omega) (by omega)) fun z239 hz239 => ?_
                                       refine (show Ev _ 329 ([some (.ref 69), some (.int z205), some (.int z224), some (.int z237)], [.int z239], (0, 0), hp216) _ from ?_)
                                       rcases hz239 with ⟨ez239, tz239⟩ | ⟨ez239, tz239⟩
                                       · skip
                                         refine bs_ifeq rfl (fun c240 => ?_) (fun c240 => ?_)
                                         · exfalso; omega
                                         · skip
                                           refine Ev.step (j := 333) (s' := ([some (.ref 69), some (.int z205), some (.int z224), some (.int z237)], [.ref 69], (0, 0), hp216)) rfl rfl ?_
                                           exact by
                                            refine bs_lit (k := 3) rfl rfl fun z241 hz241 => ?_
                                            refine Ev.inl (L := L_X11_bad) (nL := 2) rfl (bs_rcv (g := 11) Hhp216 (bs_R.uq Hhp216 (g := 11) rfl) (by decide) rfl) rfl (Nat.le_of_ble_eq_true rfl) ?_
                                            generalize hQ242 : (fun (o : ab_O) => Ev _ _ _ _) = Q242
                                            refine (show Ev (ab_T L_X11_bad) 0 ([some (.ref 69), some (.int z241)], [], (0, 0), hp216) Q242 from ?_)
                                            refine Ev.step (j := 1) (s' := ([some (.ref 69), some (.int z241)], [.ref 69], (0, 0), hp216)) rfl rfl ?_
                                            refine Ev.step (j := 2) (s' := ([some (.ref 69), some (.int z241)], [.int z241, .ref 69], (0, 0), hp216)) rfl rfl ?_
                                            refine bs_putIv (W := [(11, 15, 15)]) (g := 11) rfl rfl Hhp216 (bs_R.uq Hhp216 (g := 11) rfl) (by decide) rfl rfl rfl rfl (Or.inl rfl) (by omega) (by omega) fun hp243 Hhp243 fhp243 rhp243 ehp243 qhp243 nhp243 => ?_
                                            have Fhp243 := sf_fr_tr Fhp216 (sf_fr_wider (W := [(11, 4, 4), (11, 11, 18), (11, 20, 20), (133, 0, 119), (135, 0, 0), (137, 0, 3)]) rfl fhp243)
                                            have h244 : sf_rd hp243 72 0 = some z214.toInt := (ehp243 _ _ (Or.inl (by decide))).trans h218
                                            have h245 : sf_rd hp243 69 18 = some (fnd s.nm 0 (s.h 0) (tok B n lim (i + 1)).v) := (ehp243 _ _ (Or.inr (by omega))).trans Y3X220
                                            have h246 : sf_rd hp243 69 11 = some z226.toInt := (ehp243 _ _ (Or.inr (by omega))).trans hz226
                                            have h247 : sf_rd hp243 69 14 = some z230.toInt := (ehp243 _ _ (Or.inr (by omega))).trans hz230
                                            have h248 : sf_rd hp243 76 2 = some z238.toInt := (ehp243 _ _ (Or.inl (by decide))).trans hz238
                                            refine Ev.step (j := 6) (s' := ([some (.ref 69), some (.int z241)], [.ref 69], (0, 0), hp243)) rfl rfl ?_
                                            exact by
                                             refine Ev.step (j := 7) (s' := ([some (.ref 69), some (.int z241)], [.ref 69, .ref 69], (0, 0), hp243)) rfl rfl ?_
                                             refine bs_getI 11 rfl rfl rfl Hhp243 (bs_R.uq Hhp243 (g := 11) rfl) (by decide) rfl fun z249 hz249 lz249 gz249 => ?_
                                             refine bs_putIv (W := [(11, 16, 16)]) (g := 11) rfl rfl Hhp243 (bs_R.uq Hhp243 (g := 11) rfl) (by decide) rfl rfl rfl rfl (Or.inl rfl) (by omega) (by omega) fun hp250 Hhp250 fhp250 rhp250 ehp250 qhp250 nhp250 => ?_
                                             have Fhp250 := sf_fr_tr Fhp243 (sf_fr_wider (W := [(11, 4, 4), (11, 11, 18), (11, 20, 20), (133, 0, 119), (135, 0, 0), (137, 0, 3)]) rfl fhp250)
                                             have h251 : sf_rd hp250 72 0 = some z214.toInt := (ehp250 _ _ (Or.inl (by decide))).trans h244
                                             have h252 : sf_rd hp250 69 18 = some (fnd s.nm 0 (s.h 0) (tok B n lim (i + 1)).v) := (ehp250 _ _ (Or.inr (by omega))).trans h245
                                             have h253 : sf_rd hp250 69 11 = some z226.toInt := (ehp250 _ _ (Or.inr (by omega))).trans h246
                                             have h254 : sf_rd hp250 69 14 = some z230.toInt := (ehp250 _ _ (Or.inr (by omega))).trans h247
                                             have h255 : sf_rd hp250 76 2 = some z238.toInt := (ehp250 _ _ (Or.inl (by decide))).trans h248
                                             have h256 : sf_rd hp250 69 15 = some z241.toInt := (ehp250 _ _ (Or.inr (by omega))).trans rhp243
                                             have h257 : sf_rd hp250 69 12 = some z249.toInt := (ehp250 _ _ (Or.inr (by omega))).trans hz249
                                             refine bs_lit (k := 0) rfl rfl fun z258 hz258 => ?_
                                             exact by
                                              refine bs_zret rfl rfl (by omega) (by omega) ?_
                                              rw [← hQ242]
                                              refine (show Ev _ 337 ([some (.ref 69), some (.int z205), some (.int z224), some (.int z237)], [.int z258], (0, 0), hp250) _ from ?_)
                                              exact bs_zret rfl rfl (by omega) (by omega) (by rw [hQ]; exact ⟨thp216, Hhp250, Fhp250, bs_an0, sf_S_cons (sf_s1 (x := z258.toInt) rfl (by omega) (by omega)) (sf_S_nil), (fun _ => by
                                                      skip
                                                      rw [lnx_amt (by omega), show ((tok B n lim i).k - 66).toNat = 2 by omega]
                                                      show RRES _ _ _ _ _ (lold (tok B n lim) s 0 (s.h 0) (i + 1) _)
                                                      rw [lold_o Y1X220 (by omega)]
                                                      have K3 : (tok B n lim (i + 2)).k = 3 := rkk_2 (by have KK := RK_k K2X220 hz226; omega)
                                                      have VV := RK_v K2X220 K3 hz230
                                                      have N9 := tok_nok B n lim (i + 2) K3
                                                      rw [lnum_o K3 (by omega) (by omega)]
                                                      have EK : (2 * fnd s.nm 0 (s.h 0) (tok B n lim (i + 1)).v + (tok B n lim (i + 2)).v).toNat = z237.toInt.toNat := by omega
                                                      rw [EK]
                                                      obtain ⟨A9, hA9, hB9⟩ := S222.2.2.1 2 (by decide)
                                                      have EA : z238.toInt = A9 := Option.some.inj (hz238.symm.trans hA9)
                                                      have TB9 := hB9 z237.toInt.toNat (by omega)
                                                      rw [← EA, tz239] at TB9
                                                      rw [if_pos TB9.symm]
                                                      have PL : z249.toInt = (tok B n lim (i + 2)).pl := Option.some.inj (hz249.symm.trans (((ehp243 _ _ (Or.inr (by omega)))).trans (RK_pl K2X220)))
                                                      exact RRES_bad ⟨z258, rfl, by omega⟩ (h256.trans (congrArg some (by omega))) (rhp250.trans (congrArg some PL)))⟩)
                                       · skip
                                         refine bs_ifeq rfl (fun c259 => ?_) (fun c259 => ?_)
                                         · skip
                                           refine Ev.step (j := 339) (s' := ([some (.ref 69), some (.int z205), some (.int z224), some (.int z237)], [.ref 69], (0, 0), hp216)) rfl rfl ?_
                                           exact by
                                            refine bs_getU (g := 11) (g1 := 137) rfl rfl Hhp216 (bs_R.uq Hhp216 (g := 11) rfl) (by decide) rfl rfl ?_
                                            refine Ev.step (j := 343) (s' := ([some (.ref 69), some (.int z205), some (.int z224), some (.int z237)], [.int z205, .ref 76], (0, 0), hp216)) rfl rfl ?_
                                            refine Ev.step (j := 344) (s' := ([some (.ref 69), some (.int z205), some (.int z224), some (.int z237)], [.int z205, .ref 76, .int z205, .ref 76], (0, 0), hp216)) rfl rfl ?_
                                            refine bs_ld (g := 137) 0 3 (-2147483648, 2147483647) rfl Hhp216 (bs_R.uq Hhp216 (g := 137) rfl) (by decide) rfl (by decide) (by decide) rfl (by decide) (by omega) (by omega) fun z260 hz260 lz260 gz260 => ?_
                                            dsimp only at lz260 gz260
                                            replace hz260 := bs_at hz260 (show z205.toInt.toNat = 2 by omega)
                                            have e261 : z260.toInt = z238.toInt := Option.some.inj (hz260.symm.trans hz238)
                                            refine bs_lit (k := 1) rfl rfl fun z262 hz262 => ?_
                                            refine Ev.step (j := 347) (s' := ([some (.ref 69), some (.int z205), some (.int z224), some (.int z237)], [.int z237, .int z262, .int z260, .int z205, .ref 76], (0, 0), hp216)) rfl rfl ?_
                                            exact by
                                             refine Ev.step (j := 348) (s' := ([some (.ref 69), some (.int z205), some (.int z224), some (.int z237)], [.int (z262 <<< (z237 &&& 31)), .int z260, .int z205, .ref 76], (0, 0), hp216)) rfl rfl ?_
                                             have rz263 := n_range (z262 <<< (z237 &&& 31))
                                             refine Ev.step (j := 349) (s' := ([some (.ref 69), some (.int z205), some (.int z224), some (.int z237)], [.int (z260 ||| (z262 <<< (z237 &&& 31))), .int z205, .ref 76], (0, 0), hp216)) rfl rfl ?_
                                             have rz264 := n_range (z260 ||| (z262 <<< (z237 &&& 31)))
                                             refine bs_stv (W := [(137, 0, 3)]) (g := 137) 0 3 (-2147483648, 2147483647) rfl Hhp216 (bs_R.uq Hhp216 (g := 137) rfl) (by decide) rfl rfl (by decide) rfl rfl (by omega) (by omega) (by dsimp only; omega) (by dsimp only; omega) fun hp265 Hhp265 fhp265 rhp265 ehp265 qhp265 nhp265 => ?_
                                             replace rhp265 := bs_at rhp265 (show z205.toInt.toNat = 2 by omega)
                                             have Fhp265 := sf_fr_tr Fhp216 (sf_fr_wider (W := [(11, 4, 4), (11, 11, 18), (11, 20, 20), (133, 0, 119), (135, 0, 0), (137, 0, 3)]) rfl fhp265)
                                             have h266 : sf_rd hp265 72 0 = some z214.toInt := (ehp265 _ _ (Or.inl (by decide))).trans h218
                                             have h267 : sf_rd hp265 69 18 = some (fnd s.nm 0 (s.h 0) (tok B n lim (i + 1)).v) := (ehp265 _ _ (Or.inl (by decide))).trans Y3X220
                                             have h268 : sf_rd hp265 69 11 = some z226.toInt := (ehp265 _ _ (Or.inl (by decide))).trans hz226
                                             have h269 : sf_rd hp265 69 14 = some z230.toInt := (ehp265 _ _ (Or.inl (by decide))).trans hz230
                                             have K270 := RK_keep Hhp216 fhp265 rfl rfl (nhp265 _ _) K2X220
                                             have R271 := RES_fr Hhp216 fhp265 rfl R221
                                             refine Ev.step (j := 351) (s' := ([some (.ref 69), some (.int z205), some (.int z224), some (.int z237)], [.ref 69], (0, 0), hp265)) rfl rfl ?_
                                             exact by
                                              refine bs_callx (K := kq_X11_next_v) [.ref 69] [] rfl ce_X11_next_v Hhp265 rfl rfl rfl (bs_rcv (g := 11) Hhp265 (bs_R.uq Hhp265 (g := 11) rfl) (by decide) rfl) rfl ?_ (sf_S_nil) fun r272 hp273 thp273 Hhp273 fhp273 ahp273 php273 xhp273 => ?_
                                              · intro q k h
                                                match q, h with
                                                | 0, h => cases h; exact bs_jR (bs_R.uq Hhp265 (g := 11) rfl)
                                                | q + 1, h => cases h
                                              obtain rfl := ahp273.1 rfl
                                              have Fhp273 := sf_fr_tr Fhp265 (sf_fr_wider (W := [(11, 4, 4), (11, 11, 18), (11, 20, 20), (133, 0, 119), (135, 0, 0), (137, 0, 3)]) rfl fhp273)
                                              have h274 : sf_rd hp273 72 0 = some z214.toInt := (fhp273.2.2.1 _ (bs_R.uq Hhp265 (g := 133) (p := 72) rfl).1 _ (by rw [(bs_R.uq Hhp265 (g := 133) (p := 72) rfl).2]; rfl)).trans h266
                                              have h275 : sf_rd hp273 69 18 = some (fnd s.nm 0 (s.h 0) (tok B n lim (i + 1)).v) := (fhp273.2.2.1 _ (bs_R.uq Hhp265 (g := 11) (p := 69) rfl).1 _ (by rw [(bs_R.uq Hhp265 (g := 11) (p := 69) rfl).2]; rfl)).trans h267
                                              have h276 : sf_rd hp273 76 2 = some (z260 ||| (z262 <<< (z237 &&& 31))).toInt := (fhp273.2.2.1 _ (bs_R.uq Hhp265 (g := 137) (p := 76) rfl).1 _ (by rw [(bs_R.uq Hhp265 (g := 137) (p := 76) rfl).2]; rfl)).trans rhp265
                                              refine (show Ev _ 354 ([some (.ref 69), some (.int z205), some (.int z224), some (.int z237)], [], (0, 0), hp273) _ from ?_)
                                              have K277 := (RK_next Hhp265 fhp273 rfl rfl rfl xhp273 K270).1
                                              have R278 := RES_fr Hhp265 fhp273 rfl R271
                                              refine Ev.step (j := 355) (s' := ([some (.ref 69), some (.int z205), some (.int z224), some (.int z237)], [.ref 69], (0, 0), hp273)) rfl rfl ?_
                                              exact by
                                               refine bs_lit (k := 4) rfl rfl fun z279 hz279 => ?_
                                               refine bs_lit (k := 12) rfl rfl fun z280 hz280 => ?_
                                               refine Ev.step (j := 359) (s' := ([some (.ref 69), some (.int z205), some (.int z224), some (.int z237)], [.int z205, .int z280, .int z279, .ref 69], (0, 0), hp273)) rfl rfl ?_
                                               refine bs_mul (2) rfl (Or.inr hz205) (by rw [hz205]; omega) (by rw [hz205]; omega) fun z281 hz281 => ?_
                                               rw [hz205] at hz281
                                               first | (refine bs_add rfl (by omega) (by omega) fun z282 hz282 => ?_) | (refine bs_any rfl fun z282 => ?_)
                                               have rz282 := n_range z282
                                               refine Ev.step (j := 362) (s' := ([some (.ref 69), some (.int z205), some (.int z224), some (.int z237)], [.int z237, .int z282, .ref 69], (0, 0), hp273)) rfl rfl ?_
                                               first | (refine bs_add rfl (by omega) (by omega) fun z283 hz283 => ?_) | (refine bs_any rfl fun z283 => ?_)
                                               have rz283 := n_range z283
                                               refine bs_lit (k := 0) rfl rfl fun z284 hz284 => ?_
                                               exact by
                                                refine Ev.step (j := 365) (s' := ([some (.ref 69), some (.int z205), some (.int z224), some (.int z237)], [.int z205, .int z284, .int z283, .ref 69], (0, 0), hp273)) rfl rfl ?_
                                                refine bs_lit (k := 2) rfl rfl fun z285 hz285 => ?_
                                                refine bs_ge rfl (fun c286 => ?_) (fun c286 => ?_)
                                                · skip
                                                  refine bs_lit (k := 20) rfl rfl fun z287 hz287 => ?_
                                                  refine bs_callx (K := kq_X11_puts_v2) [.ref 69, .int z283, .int z284, .int z287] [] rfl ce_X11_puts_v2 Hhp273 rfl rfl rfl (bs_rcv (g := 11) Hhp273 (bs_R.uq Hhp273 (g := 11) rfl) (by decide) rfl) rfl ?_ (sf_S_cons (sf_s1 (x := z283.toInt) rfl (by omega) (by omega)) (sf_S_cons (sf_s1 (x := z284.toInt) rfl (by omega) (by omega)) (sf_S_cons (sf_s1 (x := z287.toInt) rfl (by omega) (by omega)) (sf_S_nil)))) fun r288 hp289 thp289 Hhp289 fhp289 ahp289 php289 xhp289 => ?_
                                                  · intro q k h
                                                    match q, h with
                                                    | 0, h => cases h; exact bs_jR (bs_R.uq Hhp273 (g := 11) rfl)
                                                    | 1, h => cases h; exact sf_j0
                                                    | 2, h => cases h; exact sf_j0
                                                    | 3, h => cases h; exact sf_j0
                                                    | q + 4, h => cases h
                                                  obtain ⟨z290, rfl⟩ := bs_anI ahp289
                                                  have rgz290 := n_range z290
                                                  have Fhp289 := sf_fr_tr Fhp273 (sf_fr_wider (W := [(11, 4, 4), (11, 11, 18), (11, 20, 20), (133, 0, 119), (135, 0, 0), (137, 0, 3)]) rfl fhp289)
                                                  have h291 : sf_rd hp289 72 0 = some z214.toInt := (fhp289.2.2.1 _ (bs_R.uq Hhp273 (g := 133) (p := 72) rfl).1 _ (by rw [(bs_R.uq Hhp273 (g := 133) (p := 72) rfl).2]; rfl)).trans h274
                                                  have h292 : sf_rd hp289 76 2 = some (z260 ||| (z262 <<< (z237 &&& 31))).toInt := (fhp289.2.2.1 _ (bs_R.uq Hhp273 (g := 137) (p := 76) rfl).1 _ (by rw [(bs_R.uq Hhp273 (g := 137) (p := 76) rfl).2]; rfl)).trans h276
                                                  obtain ⟨uz290, vz290⟩ := bs_s1 (x := z290.toInt) rfl (php289 _ (List.mem_of_getElem? (i := 0) rfl))
                                                  refine (show Ev _ 380 ([some (.ref 69), some (.int z205), some (.int z224), some (.int z237)], [.int z290], (0, 0), hp289) _ from ?_)
                                                  obtain ⟨q293, rq293, X294⟩ := xhp289 _ _ _ B n lim (i + 3) rfl K277
                                                  obtain rfl := Value.int.inj (Option.some.inj rq293)
                                                  exact bs_zret rfl rfl (by omega) (by omega) (by rw [hQ]; exact ⟨thp289, Hhp289, Fhp289, bs_an0, sf_S_cons (sf_s1 (x := z290.toInt) rfl (by omega) (by omega)) (sf_S_nil), (fun _ => by
                                                          skip
                                                          rw [lnx_amt (by omega), show ((tok B n lim i).k - 66).toNat = 2 by omega]
                                                          show RRES _ _ _ _ _ (lold (tok B n lim) s 0 (s.h 0) (i + 1) _)
                                                          rw [lold_o Y1X220 (by omega)]
                                                          have K3 : (tok B n lim (i + 2)).k = 3 := rkk_2 (by have KK := RK_k K2X220 hz226; omega)
                                                          have VV := RK_v K2X220 K3 hz230
                                                          have N9 := tok_nok B n lim (i + 2) K3
                                                          rw [lnum_o K3 (by omega) (by omega)]
                                                          have EK : (2 * fnd s.nm 0 (s.h 0) (tok B n lim (i + 1)).v + (tok B n lim (i + 2)).v).toNat = z237.toInt.toNat := by omega
                                                          rw [EK]
                                                          obtain ⟨A9, hA9, hB9⟩ := S222.2.2.1 2 (by decide)
                                                          have EA : z238.toInt = A9 := Option.some.inj (hz238.symm.trans hA9)
                                                          have TB9 := hB9 z237.toInt.toNat (by omega)
                                                          rw [← EA, tz239] at TB9
                                                          rw [if_neg (by rw [← TB9]; decide)]
                                                          rw [show (if (2 : Nat) = 2 ∨ (2 : Nat) = 3 then (20 : Int) else 250) = 20 from if_pos (by decide)]
                                                          rcases X294 with ⟨Y0, Y1, Y2, Y3, Y4, Y5, Y6⟩ | ⟨Y0, P1, ⟨P2, P3⟩ | ⟨⟨P2, P4⟩, P3⟩⟩
                                                          · rw [lnum_o Y1 (by omega) (by omega)]
                                                            have EP : z283.toInt.toNat = 4 + (12 * 2 + z237.toInt.toNat) := by omega
                                                            rw [EP] at Y4 Y5
                                                            exact RRES_ok ⟨z290, rfl, by omega⟩ (SR_amt S222 (by decide) (by omega) Y4 (fun q hq => (Y5 q hq).trans (((fhp273.2.2.1 _ (bs_R.uq Hhp265 (g := 133) (p := 72) rfl).1 _ (by rw [(bs_R.uq Hhp265 (g := 133) (p := 72) rfl).2]; rfl)).trans (ehp265 _ _ (Or.inl (by decide)))))) (((fhp289.2.2.1 _ (bs_R.uq Hhp273 (g := 11) (p := 69) rfl).1 _ (by rw [(bs_R.uq Hhp273 (g := 11) (p := 69) rfl).2]; rfl)).trans ((fhp273.2.2.1 _ (bs_R.uq Hhp265 (g := 11) (p := 69) rfl).1 _ (by rw [(bs_R.uq Hhp265 (g := 11) (p := 69) rfl).2]; rfl)).trans (ehp265 _ _ (Or.inl (by decide)))))) (((fhp289.2.2.2.1 _ (bs_R.uq Hhp273 (g := 135) (p := 74) rfl).1 (by rw [(bs_R.uq Hhp273 (g := 135) (p := 74) rfl).2]; rfl)).trans ((fhp273.2.2.2.1 _ (bs_R.uq Hhp265 (g := 135) (p := 74) rfl).1 (by rw [(bs_R.uq Hhp265 (g := 135) (p := 74) rfl).2]; rfl)).trans (fhp265.2.2.2.1 _ (bs_R.uq Hhp216 (g := 135) rfl).1 (by rw [(bs_R.uq Hhp216 (g := 135) rfl).2]; rfl))))) (bs_at h292 (by omega)) (fun A0 hA0 j hj => by rw [show A0 = z260.toInt from (Option.some.inj (hA0.symm.trans hz238)).trans (by omega)]; exact ib_or (by omega) (by omega) (by omega) hj) (fun q hq => ((fhp289.2.2.1 _ (bs_R.uq Hhp273 (g := 137) (p := 76) rfl).1 _ (by rw [(bs_R.uq Hhp273 (g := 137) (p := 76) rfl).2]; rfl)).trans ((fhp273.2.2.1 _ (bs_R.uq Hhp265 (g := 137) (p := 76) rfl).1 _ (by rw [(bs_R.uq Hhp265 (g := 137) (p := 76) rfl).2]; rfl)).trans (ehp265 _ _ (Or.inr (by omega))))))) Y6
                                                          · rw [lnum_1 P2]
                                                            exact RRES_bad ⟨z290, rfl, by omega⟩ P3 P1
                                                          · rw [lnum_2 P2 (by omega)]
                                                            exact RRES_bad ⟨z290, rfl, by omega⟩ P3 P1)⟩)
                                                · exfalso; omega
                                         · exfalso; omega
                                   · skip
                                     refine Ev.step (j := 305) (s' := ([some (.ref 69), some (.int z205), some (.int z224), none], [.ref 69], (0, 0), hp216)) rfl rfl ?_
                                     exact by
                                      refine bs_lit (k := 2) rfl rfl fun z295 hz295 => ?_
                                      refine Ev.inl (L := L_X11_bad) (nL := 2) rfl (bs_rcv (g := 11) Hhp216 (bs_R.uq Hhp216 (g := 11) rfl) (by decide) rfl) rfl (Nat.le_of_ble_eq_true rfl) ?_
                                      generalize hQ296 : (fun (o : ab_O) => Ev _ _ _ _) = Q296
                                      refine (show Ev (ab_T L_X11_bad) 0 ([some (.ref 69), some (.int z295)], [], (0, 0), hp216) Q296 from ?_)
                                      refine Ev.step (j := 1) (s' := ([some (.ref 69), some (.int z295)], [.ref 69], (0, 0), hp216)) rfl rfl ?_
                                      refine Ev.step (j := 2) (s' := ([some (.ref 69), some (.int z295)], [.int z295, .ref 69], (0, 0), hp216)) rfl rfl ?_
                                      refine bs_putIv (W := [(11, 15, 15)]) (g := 11) rfl rfl Hhp216 (bs_R.uq Hhp216 (g := 11) rfl) (by decide) rfl rfl rfl rfl (Or.inl rfl) (by omega) (by omega) fun hp297 Hhp297 fhp297 rhp297 ehp297 qhp297 nhp297 => ?_
                                      have Fhp297 := sf_fr_tr Fhp216 (sf_fr_wider (W := [(11, 4, 4), (11, 11, 18), (11, 20, 20), (133, 0, 119), (135, 0, 0), (137, 0, 3)]) rfl fhp297)
                                      have h298 : sf_rd hp297 72 0 = some z214.toInt := (ehp297 _ _ (Or.inl (by decide))).trans h218
                                      have h299 : sf_rd hp297 69 18 = some (fnd s.nm 0 (s.h 0) (tok B n lim (i + 1)).v) := (ehp297 _ _ (Or.inr (by omega))).trans Y3X220
                                      have h300 : sf_rd hp297 69 11 = some z226.toInt := (ehp297 _ _ (Or.inr (by omega))).trans hz226
                                      have h301 : sf_rd hp297 69 14 = some z230.toInt := (ehp297 _ _ (Or.inr (by omega))).trans hz230
                                      refine Ev.step (j := 6) (s' := ([some (.ref 69), some (.int z295)], [.ref 69], (0, 0), hp297)) rfl rfl ?_
                                      exact by
                                       refine Ev.step (j := 7) (s' := ([some (.ref 69), some (.int z295)], [.ref 69, .ref 69], (0, 0), hp297)) rfl rfl ?_
                                       refine bs_getI 11 rfl rfl rfl Hhp297 (bs_R.uq Hhp297 (g := 11) rfl) (by decide) rfl fun z302 hz302 lz302 gz302 => ?_
                                       refine bs_putIv (W := [(11, 16, 16)]) (g := 11) rfl rfl Hhp297 (bs_R.uq Hhp297 (g := 11) rfl) (by decide) rfl rfl rfl rfl (Or.inl rfl) (by omega) (by omega) fun hp303 Hhp303 fhp303 rhp303 ehp303 qhp303 nhp303 => ?_
                                       have Fhp303 := sf_fr_tr Fhp297 (sf_fr_wider (W := [(11, 4, 4), (11, 11, 18), (11, 20, 20), (133, 0, 119), (135, 0, 0), (137, 0, 3)]) rfl fhp303)
                                       have h304 : sf_rd hp303 72 0 = some z214.toInt := (ehp303 _ _ (Or.inl (by decide))).trans h298
                                       have h305 : sf_rd hp303 69 18 = some (fnd s.nm 0 (s.h 0) (tok B n lim (i + 1)).v) := (ehp303 _ _ (Or.inr (by omega))).trans h299
                                       have h306 : sf_rd hp303 69 11 = some z226.toInt := (ehp303 _ _ (Or.inr (by omega))).trans h300
                                       have h307 : sf_rd hp303 69 14 = some z230.toInt := (ehp303 _ _ (Or.inr (by omega))).trans h301
                                       have h308 : sf_rd hp303 69 15 = some z295.toInt := (ehp303 _ _ (Or.inr (by omega))).trans rhp297
                                       have h309 : sf_rd hp303 69 12 = some z302.toInt := (ehp303 _ _ (Or.inr (by omega))).trans hz302
                                       refine bs_lit (k := 0) rfl rfl fun z310 hz310 => ?_
                                       exact by
                                        refine bs_zret rfl rfl (by omega) (by omega) ?_
                                        rw [← hQ296]
                                        refine (show Ev _ 309 ([some (.ref 69), some (.int z205), some (.int z224), none], [.int z310], (0, 0), hp303) _ from ?_)
                                        exact bs_zret rfl rfl (by omega) (by omega) (by rw [hQ]; exact ⟨thp216, Hhp303, Fhp303, bs_an0, sf_S_cons (sf_s1 (x := z310.toInt) rfl (by omega) (by omega)) (sf_S_nil), (fun _ => by
                                                skip
                                                rw [lnx_amt (by omega), show ((tok B n lim i).k - 66).toNat = 2 by omega]
                                                show RRES _ _ _ _ _ (lold (tok B n lim) s 0 (s.h 0) (i + 1) _)
                                                rw [lold_o Y1X220 (by omega)]
                                                have K3 : (tok B n lim (i + 2)).k = 3 := rkk_2 (by have KK := RK_k K2X220 hz226; omega)
                                                have VV := RK_v K2X220 K3 hz230
                                                have N9 := tok_nok B n lim (i + 2) K3
                                                rw [lnum_2 K3 (by omega)]
                                                have PL : z302.toInt = (tok B n lim (i + 2)).pl := Option.some.inj (hz302.symm.trans (((ehp297 _ _ (Or.inr (by omega)))).trans (RK_pl K2X220)))
                                                exact RRES_bad ⟨z310, rfl, by omega⟩ (h308.trans (congrArg some (by omega))) (rhp303.trans (congrArg some PL)))⟩)
                                · skip
                                  refine Ev.step (j := 291) (s' := ([some (.ref 69), some (.int z205), some (.int z224), none], [.ref 69], (0, 0), hp216)) rfl rfl ?_
                                  exact by
                                   refine bs_lit (k := 1) rfl rfl fun z311 hz311 => ?_
                                   refine Ev.inl (L := L_X11_bad) (nL := 2) rfl (bs_rcv (g := 11) Hhp216 (bs_R.uq Hhp216 (g := 11) rfl) (by decide) rfl) rfl (Nat.le_of_ble_eq_true rfl) ?_
                                   generalize hQ312 : (fun (o : ab_O) => Ev _ _ _ _) = Q312
                                   refine (show Ev (ab_T L_X11_bad) 0 ([some (.ref 69), some (.int z311)], [], (0, 0), hp216) Q312 from ?_)
                                   refine Ev.step (j := 1) (s' := ([some (.ref 69), some (.int z311)], [.ref 69], (0, 0), hp216)) rfl rfl ?_
                                   refine Ev.step (j := 2) (s' := ([some (.ref 69), some (.int z311)], [.int z311, .ref 69], (0, 0), hp216)) rfl rfl ?_
                                   refine bs_putIv (W := [(11, 15, 15)]) (g := 11) rfl rfl Hhp216 (bs_R.uq Hhp216 (g := 11) rfl) (by decide) rfl rfl rfl rfl (Or.inl rfl) (by omega) (by omega) fun hp313 Hhp313 fhp313 rhp313 ehp313 qhp313 nhp313 => ?_
                                   have Fhp313 := sf_fr_tr Fhp216 (sf_fr_wider (W := [(11, 4, 4), (11, 11, 18), (11, 20, 20), (133, 0, 119), (135, 0, 0), (137, 0, 3)]) rfl fhp313)
                                   have h314 : sf_rd hp313 72 0 = some z214.toInt := (ehp313 _ _ (Or.inl (by decide))).trans h218
                                   have h315 : sf_rd hp313 69 18 = some (fnd s.nm 0 (s.h 0) (tok B n lim (i + 1)).v) := (ehp313 _ _ (Or.inr (by omega))).trans Y3X220
                                   have h316 : sf_rd hp313 69 11 = some z226.toInt := (ehp313 _ _ (Or.inr (by omega))).trans hz226
                                   refine Ev.step (j := 6) (s' := ([some (.ref 69), some (.int z311)], [.ref 69], (0, 0), hp313)) rfl rfl ?_
                                   exact by
                                    refine Ev.step (j := 7) (s' := ([some (.ref 69), some (.int z311)], [.ref 69, .ref 69], (0, 0), hp313)) rfl rfl ?_
                                    refine bs_getI 11 rfl rfl rfl Hhp313 (bs_R.uq Hhp313 (g := 11) rfl) (by decide) rfl fun z317 hz317 lz317 gz317 => ?_
                                    refine bs_putIv (W := [(11, 16, 16)]) (g := 11) rfl rfl Hhp313 (bs_R.uq Hhp313 (g := 11) rfl) (by decide) rfl rfl rfl rfl (Or.inl rfl) (by omega) (by omega) fun hp318 Hhp318 fhp318 rhp318 ehp318 qhp318 nhp318 => ?_
                                    have Fhp318 := sf_fr_tr Fhp313 (sf_fr_wider (W := [(11, 4, 4), (11, 11, 18), (11, 20, 20), (133, 0, 119), (135, 0, 0), (137, 0, 3)]) rfl fhp318)
                                    have h319 : sf_rd hp318 72 0 = some z214.toInt := (ehp318 _ _ (Or.inl (by decide))).trans h314
                                    have h320 : sf_rd hp318 69 18 = some (fnd s.nm 0 (s.h 0) (tok B n lim (i + 1)).v) := (ehp318 _ _ (Or.inr (by omega))).trans h315
                                    have h321 : sf_rd hp318 69 11 = some z226.toInt := (ehp318 _ _ (Or.inr (by omega))).trans h316
                                    have h322 : sf_rd hp318 69 15 = some z311.toInt := (ehp318 _ _ (Or.inr (by omega))).trans rhp313
                                    have h323 : sf_rd hp318 69 12 = some z317.toInt := (ehp318 _ _ (Or.inr (by omega))).trans hz317
                                    refine bs_lit (k := 0) rfl rfl fun z324 hz324 => ?_
                                    exact by
                                     refine bs_zret rfl rfl (by omega) (by omega) ?_
                                     rw [← hQ312]
                                     refine (show Ev _ 295 ([some (.ref 69), some (.int z205), some (.int z224), none], [.int z324], (0, 0), hp318) _ from ?_)
                                     exact bs_zret rfl rfl (by omega) (by omega) (by rw [hQ]; exact ⟨thp216, Hhp318, Fhp318, bs_an0, sf_S_cons (sf_s1 (x := z324.toInt) rfl (by omega) (by omega)) (sf_S_nil), (fun _ => by
                                             skip
                                             rw [lnx_amt (by omega), show ((tok B n lim i).k - 66).toNat = 2 by omega]
                                             show RRES _ _ _ _ _ (lold (tok B n lim) s 0 (s.h 0) (i + 1) _)
                                             rw [lold_o Y1X220 (by omega)]
                                             have K3 : (tok B n lim (i + 2)).k ≠ 3 := fun e => by have KK := RK_k K2X220 hz226; rw [e] at KK; have KK2 : _ = (2 : Int) := KK; omega
                                             rw [lnum_1 K3]
                                             have PL : z317.toInt = (tok B n lim (i + 2)).pl := Option.some.inj (hz317.symm.trans (((ehp313 _ _ (Or.inr (by omega)))).trans (RK_pl K2X220)))
                                             exact RRES_bad ⟨z324, rfl, by omega⟩ (h322.trans (congrArg some (by omega))) (rhp318.trans (congrArg some PL)))⟩)
                             · skip
                               have c325 : z217.toInt = 0 := by omega
                               refine bs_lit (k := 0) rfl rfl fun z326 hz326 => ?_
                               exact bs_zret rfl rfl (by omega) (by omega) (by rw [hQ]; exact ⟨thp216, Hhp216, Fhp216, bs_an0, sf_S_cons (sf_s1 (x := z326.toInt) rfl (by omega) (by omega)) (sf_S_nil), (fun _ => by
                                       skip
                                       rw [lnx_amt (by omega), show ((tok B n lim i).k - 66).toNat = 2 by omega]
                                       show RRES _ _ _ _ _ (lold (tok B n lim) s 0 (s.h 0) (i + 1) _)
                                       rcases X220.resolve_left (fun h => absurd h.1 (by omega)) with ⟨Y0, P1, ⟨P2, P3⟩ | ⟨⟨P2, P4⟩, P3⟩⟩
                                       · rw [lold_1 P2]
                                         exact RRES_bad ⟨z326, rfl, by omega⟩ P3 P1
                                       · rw [lold_3 P2 (by omega)]
                                         exact RRES_bad ⟨z326, rfl, by omega⟩ P3 P1)⟩)
                          · exfalso; omega
                    · skip
                      refine bs_lit (k := 1) rfl rfl fun z327 hz327 => ?_
                      exact by
                       refine Ev.step (j := 245) (s' := ([some (.ref 69), none, none, none], [.int z327], (0, 0), hp47)) rfl rfl ?_
                       refine Ev.step (j := 246) (s' := ([some (.ref 69), some (.int z327), none, none], [], (0, 0), hp47)) rfl rfl ?_
                       refine Ev.step (j := 247) (s' := ([some (.ref 69), some (.int z327), none, none], [.int z327], (0, 0), hp47)) rfl rfl ?_
                       refine bs_ifge rfl (fun c328 => ?_) (fun c328 => ?_)
                       · skip
                         refine Ev.step (j := 257) (s' := ([some (.ref 69), some (.int z327), none, none], [.ref 69], (0, 0), hp47)) rfl rfl ?_
                         refine bs_callx (K := kq_X11_next_v) [.ref 69] [] rfl ce_X11_next_v Hhp47 rfl rfl rfl (bs_rcv (g := 11) Hhp47 (bs_R.uq Hhp47 (g := 11) rfl) (by decide) rfl) rfl ?_ (sf_S_nil) fun r329 hp330 thp330 Hhp330 fhp330 ahp330 php330 xhp330 => ?_
                         · intro q k h
                           match q, h with
                           | 0, h => cases h; exact bs_jR (bs_R.uq Hhp47 (g := 11) rfl)
                           | q + 1, h => cases h
                         obtain rfl := ahp330.1 rfl
                         have Fhp330 := sf_fr_tr Fhp47 (sf_fr_wider (W := [(11, 4, 4), (11, 11, 18), (11, 20, 20), (133, 0, 119), (135, 0, 0), (137, 0, 3)]) rfl fhp330)
                         refine (show Ev _ 260 ([some (.ref 69), some (.int z327), none, none], [], (0, 0), hp330) _ from ?_)
                         have K331 := (RK_next Hhp47 fhp330 rfl rfl rfl xhp330 K50).1
                         have R332 := RES_fr Hhp47 fhp330 rfl R52
                         have S333 := SR_fr Hhp47 fhp330 rfl rfl rfl rfl S51
                         refine Ev.step (j := 261) (s' := ([some (.ref 69), some (.int z327), none, none], [.ref 69], (0, 0), hp330)) rfl rfl ?_
                         exact by
                          refine bs_lit (k := 14) rfl rfl fun z334 hz334 => ?_
                          refine Ev.step (j := 264) (s' := ([some (.ref 69), some (.int z327), none, none], [.ref 69, .int z334, .ref 69], (0, 0), hp330)) rfl rfl ?_
                          refine bs_getU (g := 11) (g1 := 133) rfl rfl Hhp330 (bs_R.uq Hhp330 (g := 11) rfl) (by decide) rfl rfl ?_
                          refine bs_lit (k := 0) rfl rfl fun z335 hz335 => ?_
                          refine bs_ld (g := 133) 0 0 (0, 6) rfl Hhp330 (bs_R.uq Hhp330 (g := 133) rfl) (by decide) rfl (by decide) (by decide) rfl (by decide) (by omega) (by omega) fun z336 hz336 lz336 gz336 => ?_
                          dsimp only at lz336 gz336
                          replace hz336 := bs_at hz336 (show z335.toInt.toNat = 0 by omega)
                          have c0_z336 : z336.toInt = s.h 0 := Option.some.inj (hz336.symm.trans (S333.1 0 (by decide)))
                          refine bs_callx (K := kq_X11_takesName_v) [.ref 69, .int z334, .int z336] [] rfl ce_X11_takesName_v Hhp330 rfl rfl rfl (bs_rcv (g := 11) Hhp330 (bs_R.uq Hhp330 (g := 11) rfl) (by decide) rfl) rfl ?_ (sf_S_cons (sf_s1 (x := z334.toInt) rfl (by omega) (by omega)) (sf_S_cons (sf_s1 (x := z336.toInt) rfl (by omega) (by omega)) (sf_S_nil))) fun r337 hp338 thp338 Hhp338 fhp338 ahp338 php338 xhp338 => ?_
                          · intro q k h
                            match q, h with
                            | 0, h => cases h; exact bs_jR (bs_R.uq Hhp330 (g := 11) rfl)
                            | 1, h => cases h; exact sf_j0
                            | 2, h => cases h; exact sf_j0
                            | q + 3, h => cases h
                          obtain ⟨z339, rfl⟩ := bs_anI ahp338
                          have rgz339 := n_range z339
                          have Fhp338 := sf_fr_tr Fhp330 (sf_fr_wider (W := [(11, 4, 4), (11, 11, 18), (11, 20, 20), (133, 0, 119), (135, 0, 0), (137, 0, 3)]) rfl fhp338)
                          have h340 : sf_rd hp338 72 0 = some z336.toInt := (fhp338.2.2.1 _ (bs_R.uq Hhp330 (g := 133) (p := 72) rfl).1 _ (by rw [(bs_R.uq Hhp330 (g := 133) (p := 72) rfl).2]; rfl)).trans hz336
                          obtain ⟨uz339, vz339⟩ := bs_s1 (x := z339.toInt) rfl (php338 _ (List.mem_of_getElem? (i := 0) rfl))
                          refine (show Ev _ 272 ([some (.ref 69), some (.int z327), none, none], [.int z339], (0, 0), hp338) _ from ?_)
                          obtain ⟨q341, rq341, X342⟩ := xhp338 _ _ s.nm 0 B n lim (i + 1) rfl (fun k hk => by rw [show z334.toInt.toNat + k = 14 + k by omega, Nat.zero_add]; exact S333.2.2.2.1 k (by omega)) R332 K331
                          obtain rfl := Value.int.inj (Option.some.inj rq341)
                          rw [show z336.toInt = s.h 0 by omega] at X342
                          have R343 := RES_fr Hhp330 fhp338 rfl R332
                          have S344 := SR_fr Hhp330 fhp338 rfl rfl rfl rfl S333
                          refine bs_ifne rfl (fun c345 => ?_) (fun c345 => ?_)
                          · skip
                            obtain ⟨Y0X342, Y1X342, Y2X342, Y3X342, Y4X342⟩ := X342.resolve_right (fun h => absurd h.1 (by omega))
                            have K2X342 : RK hp338 B n lim (i + 2) := Y4X342
                            have FBX342 : fnd s.nm 0 (s.h 0) (tok B n lim (i + 1)).v ≤ 5 := by have := fnd_lt (nm := s.nm) (o := 0) (n := s.h 0) (v := (tok B n lim (i + 1)).v); omega
                            refine Ev.step (j := 278) (s' := ([some (.ref 69), some (.int z327), none, none], [.ref 69], (0, 0), hp338)) rfl rfl ?_
                            exact by
                             refine bs_getI 11 rfl rfl rfl Hhp338 (bs_R.uq Hhp338 (g := 11) rfl) (by decide) rfl fun z346 hz346 lz346 gz346 => ?_
                             have e347 : z346.toInt = (fnd s.nm 0 (s.h 0) (tok B n lim (i + 1)).v) := Option.some.inj (hz346.symm.trans Y3X342)
                             refine Ev.step (j := 282) (s' := ([some (.ref 69), some (.int z327), some (.int z346), none], [], (0, 0), hp338)) rfl rfl ?_
                             refine Ev.step (j := 283) (s' := ([some (.ref 69), some (.int z327), some (.int z346), none], [.ref 69], (0, 0), hp338)) rfl rfl ?_
                             refine bs_getI 11 rfl rfl rfl Hhp338 (bs_R.uq Hhp338 (g := 11) rfl) (by decide) rfl fun z348 hz348 lz348 gz348 => ?_
                             refine bs_lit (k := 2) rfl rfl fun z349 hz349 => ?_
                             refine bs_eq rfl (fun c350 => ?_) (fun c350 => ?_)
                             · skip
                               have c351 : z348.toInt = 2 := by omega
                               refine Ev.step (j := 297) (s' := ([some (.ref 69), some (.int z327), some (.int z346), none], [.ref 69], (0, 0), hp338)) rfl rfl ?_
                               exact by
                                refine bs_getI 11 rfl rfl rfl Hhp338 (bs_R.uq Hhp338 (g := 11) rfl) (by decide) rfl fun z352 hz352 lz352 gz352 => ?_
                                refine bs_lit (k := 1) rfl rfl fun z353 hz353 => ?_
                                refine bs_le rfl (fun c354 => ?_) (fun c354 => ?_)
                                · skip
                                  have KT : (tok B n lim (i + 2)).k = 3 := rkk_2 (by have KK := RK_k K2X342 hz348; omega)
                                  have VT := RK_v K2X342 KT hz352
                                  have NT_ := tok_nok B n lim (i + 2) KT
                                  refine bs_lit (k := 2) rfl rfl fun z355 hz355 => ?_
                                  refine Ev.step (j := 312) (s' := ([some (.ref 69), some (.int z327), some (.int z346), none], [.int z346, .int z355], (0, 0), hp338)) rfl rfl ?_
                                  exact by
                                   refine bs_mul (2) rfl (Or.inl hz355) (by rw [hz355]; omega) (by rw [hz355]; omega) fun z356 hz356 => ?_
                                   rw [hz355] at hz356
                                   refine Ev.step (j := 314) (s' := ([some (.ref 69), some (.int z327), some (.int z346), none], [.ref 69, .int z356], (0, 0), hp338)) rfl rfl ?_
                                   refine bs_getI 11 rfl rfl rfl Hhp338 (bs_R.uq Hhp338 (g := 11) rfl) (by decide) rfl fun z357 hz357 lz357 gz357 => ?_
                                   have e358 : z357.toInt = z352.toInt := Option.some.inj (hz357.symm.trans hz352)
                                   first | (refine bs_add rfl (by omega) (by omega) fun z359 hz359 => ?_) | (refine bs_any rfl fun z359 => ?_)
                                   have rz359 := n_range z359
                                   refine Ev.step (j := 319) (s' := ([some (.ref 69), some (.int z327), some (.int z346), some (.int z359)], [], (0, 0), hp338)) rfl rfl ?_
                                   refine Ev.step (j := 320) (s' := ([some (.ref 69), some (.int z327), some (.int z346), some (.int z359)], [.ref 69], (0, 0), hp338)) rfl rfl ?_
                                   exact by
                                    refine bs_getU (g := 11) (g1 := 137) rfl rfl Hhp338 (bs_R.uq Hhp338 (g := 11) rfl) (by decide) rfl rfl ?_
                                    refine Ev.step (j := 324) (s' := ([some (.ref 69), some (.int z327), some (.int z346), some (.int z359)], [.int z327, .ref 76], (0, 0), hp338)) rfl rfl ?_
                                    refine bs_ld (g := 137) 0 3 (-2147483648, 2147483647) rfl Hhp338 (bs_R.uq Hhp338 (g := 137) rfl) (by decide) rfl (by decide) (by decide) rfl (by decide) (by omega) (by omega) fun z360 hz360 lz360 gz360 => ?_
                                    dsimp only at lz360 gz360
                                    replace hz360 := bs_at hz360 (show z327.toInt.toNat = 1 by omega)
                                    refine Ev.step (j := 326) (s' := ([some (.ref 69), some (.int z327), some (.int z346), some (.int z359)], [.int z359, .int z360], (0, 0), hp338)) rfl rfl ?_
                                    refine bs_pure [.int z360, .int z359] [] rfl rfl rfl rfl (px_X11_bitOf (by omega) (by omega)) fun z361 hz361 => ?_
                                    refine (show Ev _ 329 ([some (.ref 69), some (.int z327), some (.int z346), some (.int z359)], [.int z361], (0, 0), hp338) _ from ?_)
                                    rcases hz361 with ⟨ez361, tz361⟩ | ⟨ez361, tz361⟩
                                    · skip
                                      refine bs_ifeq rfl (fun c362 => ?_) (fun c362 => ?_)
                                      · exfalso; omega
                                      · skip
                                        refine Ev.step (j := 333) (s' := ([some (.ref 69), some (.int z327), some (.int z346), some (.int z359)], [.ref 69], (0, 0), hp338)) rfl rfl ?_
                                        exact by
                                         refine bs_lit (k := 3) rfl rfl fun z363 hz363 => ?_
                                         refine Ev.inl (L := L_X11_bad) (nL := 2) rfl (bs_rcv (g := 11) Hhp338 (bs_R.uq Hhp338 (g := 11) rfl) (by decide) rfl) rfl (Nat.le_of_ble_eq_true rfl) ?_
                                         generalize hQ364 : (fun (o : ab_O) => Ev _ _ _ _) = Q364
                                         refine (show Ev (ab_T L_X11_bad) 0 ([some (.ref 69), some (.int z363)], [], (0, 0), hp338) Q364 from ?_)
                                         refine Ev.step (j := 1) (s' := ([some (.ref 69), some (.int z363)], [.ref 69], (0, 0), hp338)) rfl rfl ?_
                                         refine Ev.step (j := 2) (s' := ([some (.ref 69), some (.int z363)], [.int z363, .ref 69], (0, 0), hp338)) rfl rfl ?_
                                         refine bs_putIv (W := [(11, 15, 15)]) (g := 11) rfl rfl Hhp338 (bs_R.uq Hhp338 (g := 11) rfl) (by decide) rfl rfl rfl rfl (Or.inl rfl) (by omega) (by omega) fun hp365 Hhp365 fhp365 rhp365 ehp365 qhp365 nhp365 => ?_
                                         have Fhp365 := sf_fr_tr Fhp338 (sf_fr_wider (W := [(11, 4, 4), (11, 11, 18), (11, 20, 20), (133, 0, 119), (135, 0, 0), (137, 0, 3)]) rfl fhp365)
                                         have h366 : sf_rd hp365 72 0 = some z336.toInt := (ehp365 _ _ (Or.inl (by decide))).trans h340
                                         have h367 : sf_rd hp365 69 18 = some (fnd s.nm 0 (s.h 0) (tok B n lim (i + 1)).v) := (ehp365 _ _ (Or.inr (by omega))).trans Y3X342
                                         have h368 : sf_rd hp365 69 11 = some z348.toInt := (ehp365 _ _ (Or.inr (by omega))).trans hz348
                                         have h369 : sf_rd hp365 69 14 = some z352.toInt := (ehp365 _ _ (Or.inr (by omega))).trans hz352
                                         have h370 : sf_rd hp365 76 1 = some z360.toInt := (ehp365 _ _ (Or.inl (by decide))).trans hz360
                                         refine Ev.step (j := 6) (s' := ([some (.ref 69), some (.int z363)], [.ref 69], (0, 0), hp365)) rfl rfl ?_
                                         exact by
                                          refine Ev.step (j := 7) (s' := ([some (.ref 69), some (.int z363)], [.ref 69, .ref 69], (0, 0), hp365)) rfl rfl ?_
                                          refine bs_getI 11 rfl rfl rfl Hhp365 (bs_R.uq Hhp365 (g := 11) rfl) (by decide) rfl fun z371 hz371 lz371 gz371 => ?_
                                          refine bs_putIv (W := [(11, 16, 16)]) (g := 11) rfl rfl Hhp365 (bs_R.uq Hhp365 (g := 11) rfl) (by decide) rfl rfl rfl rfl (Or.inl rfl) (by omega) (by omega) fun hp372 Hhp372 fhp372 rhp372 ehp372 qhp372 nhp372 => ?_
                                          have Fhp372 := sf_fr_tr Fhp365 (sf_fr_wider (W := [(11, 4, 4), (11, 11, 18), (11, 20, 20), (133, 0, 119), (135, 0, 0), (137, 0, 3)]) rfl fhp372)
                                          have h373 : sf_rd hp372 72 0 = some z336.toInt := (ehp372 _ _ (Or.inl (by decide))).trans h366
                                          have h374 : sf_rd hp372 69 18 = some (fnd s.nm 0 (s.h 0) (tok B n lim (i + 1)).v) := (ehp372 _ _ (Or.inr (by omega))).trans h367
                                          have h375 : sf_rd hp372 69 11 = some z348.toInt := (ehp372 _ _ (Or.inr (by omega))).trans h368
                                          have h376 : sf_rd hp372 69 14 = some z352.toInt := (ehp372 _ _ (Or.inr (by omega))).trans h369
                                          have h377 : sf_rd hp372 76 1 = some z360.toInt := (ehp372 _ _ (Or.inl (by decide))).trans h370
                                          have h378 : sf_rd hp372 69 15 = some z363.toInt := (ehp372 _ _ (Or.inr (by omega))).trans rhp365
                                          have h379 : sf_rd hp372 69 12 = some z371.toInt := (ehp372 _ _ (Or.inr (by omega))).trans hz371
                                          refine bs_lit (k := 0) rfl rfl fun z380 hz380 => ?_
                                          exact by
                                           refine bs_zret rfl rfl (by omega) (by omega) ?_
                                           rw [← hQ364]
                                           refine (show Ev _ 337 ([some (.ref 69), some (.int z327), some (.int z346), some (.int z359)], [.int z380], (0, 0), hp372) _ from ?_)
                                           exact bs_zret rfl rfl (by omega) (by omega) (by rw [hQ]; exact ⟨thp338, Hhp372, Fhp372, bs_an0, sf_S_cons (sf_s1 (x := z380.toInt) rfl (by omega) (by omega)) (sf_S_nil), (fun _ => by
                                                   skip
                                                   rw [lnx_amt (by omega), show ((tok B n lim i).k - 66).toNat = 1 by omega]
                                                   show RRES _ _ _ _ _ (lold (tok B n lim) s 0 (s.h 0) (i + 1) _)
                                                   rw [lold_o Y1X342 (by omega)]
                                                   have K3 : (tok B n lim (i + 2)).k = 3 := rkk_2 (by have KK := RK_k K2X342 hz348; omega)
                                                   have VV := RK_v K2X342 K3 hz352
                                                   have N9 := tok_nok B n lim (i + 2) K3
                                                   rw [lnum_o K3 (by omega) (by omega)]
                                                   have EK : (2 * fnd s.nm 0 (s.h 0) (tok B n lim (i + 1)).v + (tok B n lim (i + 2)).v).toNat = z359.toInt.toNat := by omega
                                                   rw [EK]
                                                   obtain ⟨A9, hA9, hB9⟩ := S344.2.2.1 1 (by decide)
                                                   have EA : z360.toInt = A9 := Option.some.inj (hz360.symm.trans hA9)
                                                   have TB9 := hB9 z359.toInt.toNat (by omega)
                                                   rw [← EA, tz361] at TB9
                                                   rw [if_pos TB9.symm]
                                                   have PL : z371.toInt = (tok B n lim (i + 2)).pl := Option.some.inj (hz371.symm.trans (((ehp365 _ _ (Or.inr (by omega)))).trans (RK_pl K2X342)))
                                                   exact RRES_bad ⟨z380, rfl, by omega⟩ (h378.trans (congrArg some (by omega))) (rhp372.trans (congrArg some PL)))⟩)
                                    · skip
                                      refine bs_ifeq rfl (fun c381 => ?_) (fun c381 => ?_)
                                      · skip
                                        refine Ev.step (j := 339) (s' := ([some (.ref 69), some (.int z327), some (.int z346), some (.int z359)], [.ref 69], (0, 0), hp338)) rfl rfl ?_
                                        exact by
                                         refine bs_getU (g := 11) (g1 := 137) rfl rfl Hhp338 (bs_R.uq Hhp338 (g := 11) rfl) (by decide) rfl rfl ?_
                                         refine Ev.step (j := 343) (s' := ([some (.ref 69), some (.int z327), some (.int z346), some (.int z359)], [.int z327, .ref 76], (0, 0), hp338)) rfl rfl ?_
                                         refine Ev.step (j := 344) (s' := ([some (.ref 69), some (.int z327), some (.int z346), some (.int z359)], [.int z327, .ref 76, .int z327, .ref 76], (0, 0), hp338)) rfl rfl ?_
                                         refine bs_ld (g := 137) 0 3 (-2147483648, 2147483647) rfl Hhp338 (bs_R.uq Hhp338 (g := 137) rfl) (by decide) rfl (by decide) (by decide) rfl (by decide) (by omega) (by omega) fun z382 hz382 lz382 gz382 => ?_
                                         dsimp only at lz382 gz382
                                         replace hz382 := bs_at hz382 (show z327.toInt.toNat = 1 by omega)
                                         have e383 : z382.toInt = z360.toInt := Option.some.inj (hz382.symm.trans hz360)
                                         refine bs_lit (k := 1) rfl rfl fun z384 hz384 => ?_
                                         refine Ev.step (j := 347) (s' := ([some (.ref 69), some (.int z327), some (.int z346), some (.int z359)], [.int z359, .int z384, .int z382, .int z327, .ref 76], (0, 0), hp338)) rfl rfl ?_
                                         exact by
                                          refine Ev.step (j := 348) (s' := ([some (.ref 69), some (.int z327), some (.int z346), some (.int z359)], [.int (z384 <<< (z359 &&& 31)), .int z382, .int z327, .ref 76], (0, 0), hp338)) rfl rfl ?_
                                          have rz385 := n_range (z384 <<< (z359 &&& 31))
                                          refine Ev.step (j := 349) (s' := ([some (.ref 69), some (.int z327), some (.int z346), some (.int z359)], [.int (z382 ||| (z384 <<< (z359 &&& 31))), .int z327, .ref 76], (0, 0), hp338)) rfl rfl ?_
                                          have rz386 := n_range (z382 ||| (z384 <<< (z359 &&& 31)))
                                          refine bs_stv (W := [(137, 0, 3)]) (g := 137) 0 3 (-2147483648, 2147483647) rfl Hhp338 (bs_R.uq Hhp338 (g := 137) rfl) (by decide) rfl rfl (by decide) rfl rfl (by omega) (by omega) (by dsimp only; omega) (by dsimp only; omega) fun hp387 Hhp387 fhp387 rhp387 ehp387 qhp387 nhp387 => ?_
                                          replace rhp387 := bs_at rhp387 (show z327.toInt.toNat = 1 by omega)
                                          have Fhp387 := sf_fr_tr Fhp338 (sf_fr_wider (W := [(11, 4, 4), (11, 11, 18), (11, 20, 20), (133, 0, 119), (135, 0, 0), (137, 0, 3)]) rfl fhp387)
                                          have h388 : sf_rd hp387 72 0 = some z336.toInt := (ehp387 _ _ (Or.inl (by decide))).trans h340
                                          have h389 : sf_rd hp387 69 18 = some (fnd s.nm 0 (s.h 0) (tok B n lim (i + 1)).v) := (ehp387 _ _ (Or.inl (by decide))).trans Y3X342
                                          have h390 : sf_rd hp387 69 11 = some z348.toInt := (ehp387 _ _ (Or.inl (by decide))).trans hz348
                                          have h391 : sf_rd hp387 69 14 = some z352.toInt := (ehp387 _ _ (Or.inl (by decide))).trans hz352
                                          have K392 := RK_keep Hhp338 fhp387 rfl rfl (nhp387 _ _) K2X342
                                          have R393 := RES_fr Hhp338 fhp387 rfl R343
                                          refine Ev.step (j := 351) (s' := ([some (.ref 69), some (.int z327), some (.int z346), some (.int z359)], [.ref 69], (0, 0), hp387)) rfl rfl ?_
                                          exact by
                                           refine bs_callx (K := kq_X11_next_v) [.ref 69] [] rfl ce_X11_next_v Hhp387 rfl rfl rfl (bs_rcv (g := 11) Hhp387 (bs_R.uq Hhp387 (g := 11) rfl) (by decide) rfl) rfl ?_ (sf_S_nil) fun r394 hp395 thp395 Hhp395 fhp395 ahp395 php395 xhp395 => ?_
                                           · intro q k h
                                             match q, h with
                                             | 0, h => cases h; exact bs_jR (bs_R.uq Hhp387 (g := 11) rfl)
                                             | q + 1, h => cases h
                                           obtain rfl := ahp395.1 rfl
                                           have Fhp395 := sf_fr_tr Fhp387 (sf_fr_wider (W := [(11, 4, 4), (11, 11, 18), (11, 20, 20), (133, 0, 119), (135, 0, 0), (137, 0, 3)]) rfl fhp395)
                                           have h396 : sf_rd hp395 72 0 = some z336.toInt := (fhp395.2.2.1 _ (bs_R.uq Hhp387 (g := 133) (p := 72) rfl).1 _ (by rw [(bs_R.uq Hhp387 (g := 133) (p := 72) rfl).2]; rfl)).trans h388
                                           have h397 : sf_rd hp395 69 18 = some (fnd s.nm 0 (s.h 0) (tok B n lim (i + 1)).v) := (fhp395.2.2.1 _ (bs_R.uq Hhp387 (g := 11) (p := 69) rfl).1 _ (by rw [(bs_R.uq Hhp387 (g := 11) (p := 69) rfl).2]; rfl)).trans h389
                                           have h398 : sf_rd hp395 76 1 = some (z382 ||| (z384 <<< (z359 &&& 31))).toInt := (fhp395.2.2.1 _ (bs_R.uq Hhp387 (g := 137) (p := 76) rfl).1 _ (by rw [(bs_R.uq Hhp387 (g := 137) (p := 76) rfl).2]; rfl)).trans rhp387
                                           refine (show Ev _ 354 ([some (.ref 69), some (.int z327), some (.int z346), some (.int z359)], [], (0, 0), hp395) _ from ?_)
                                           have K399 := (RK_next Hhp387 fhp395 rfl rfl rfl xhp395 K392).1
                                           have R400 := RES_fr Hhp387 fhp395 rfl R393
                                           refine Ev.step (j := 355) (s' := ([some (.ref 69), some (.int z327), some (.int z346), some (.int z359)], [.ref 69], (0, 0), hp395)) rfl rfl ?_
                                           exact by
                                            refine bs_lit (k := 4) rfl rfl fun z401 hz401 => ?_
                                            refine bs_lit (k := 12) rfl rfl fun z402 hz402 => ?_
                                            refine Ev.step (j := 359) (s' := ([some (.ref 69), some (.int z327), some (.int z346), some (.int z359)], [.int z327, .int z402, .int z401, .ref 69], (0, 0), hp395)) rfl rfl ?_
                                            refine bs_mul (1) rfl (Or.inr hz327) (by rw [hz327]; omega) (by rw [hz327]; omega) fun z403 hz403 => ?_
                                            rw [hz327] at hz403
                                            first | (refine bs_add rfl (by omega) (by omega) fun z404 hz404 => ?_) | (refine bs_any rfl fun z404 => ?_)
                                            have rz404 := n_range z404
                                            refine Ev.step (j := 362) (s' := ([some (.ref 69), some (.int z327), some (.int z346), some (.int z359)], [.int z359, .int z404, .ref 69], (0, 0), hp395)) rfl rfl ?_
                                            first | (refine bs_add rfl (by omega) (by omega) fun z405 hz405 => ?_) | (refine bs_any rfl fun z405 => ?_)
                                            have rz405 := n_range z405
                                            refine bs_lit (k := 0) rfl rfl fun z406 hz406 => ?_
                                            exact by
                                             refine Ev.step (j := 365) (s' := ([some (.ref 69), some (.int z327), some (.int z346), some (.int z359)], [.int z327, .int z406, .int z405, .ref 69], (0, 0), hp395)) rfl rfl ?_
                                             refine bs_lit (k := 2) rfl rfl fun z407 hz407 => ?_
                                             refine bs_ge rfl (fun c408 => ?_) (fun c408 => ?_)
                                             · exfalso; omega
                                             · skip
                                               refine bs_lit (k := 250) rfl rfl fun z409 hz409 => ?_
                                               refine Ev.step (j := 377) (s' := ([some (.ref 69), some (.int z327), some (.int z346), some (.int z359)], [.int z409, .int z406, .int z405, .ref 69], (0, 0), hp395)) rfl rfl ?_
                                               refine bs_callx (K := kq_X11_puts_v2) [.ref 69, .int z405, .int z406, .int z409] [] rfl ce_X11_puts_v2 Hhp395 rfl rfl rfl (bs_rcv (g := 11) Hhp395 (bs_R.uq Hhp395 (g := 11) rfl) (by decide) rfl) rfl ?_ (sf_S_cons (sf_s1 (x := z405.toInt) rfl (by omega) (by omega)) (sf_S_cons (sf_s1 (x := z406.toInt) rfl (by omega) (by omega)) (sf_S_cons (sf_s1 (x := z409.toInt) rfl (by omega) (by omega)) (sf_S_nil)))) fun r410 hp411 thp411 Hhp411 fhp411 ahp411 php411 xhp411 => ?_
                                               · intro q k h
                                                 match q, h with
                                                 | 0, h => cases h; exact bs_jR (bs_R.uq Hhp395 (g := 11) rfl)
                                                 | 1, h => cases h; exact sf_j0
                                                 | 2, h => cases h; exact sf_j0
                                                 | 3, h => cases h; exact sf_j0
                                                 | q + 4, h => cases h
                                               obtain ⟨z412, rfl⟩ := bs_anI ahp411
                                               have rgz412 := n_range z412
                                               have Fhp411 := sf_fr_tr Fhp395 (sf_fr_wider (W := [(11, 4, 4), (11, 11, 18), (11, 20, 20), (133, 0, 119), (135, 0, 0), (137, 0, 3)]) rfl fhp411)
                                               have h413 : sf_rd hp411 72 0 = some z336.toInt := (fhp411.2.2.1 _ (bs_R.uq Hhp395 (g := 133) (p := 72) rfl).1 _ (by rw [(bs_R.uq Hhp395 (g := 133) (p := 72) rfl).2]; rfl)).trans h396
                                               have h414 : sf_rd hp411 76 1 = some (z382 ||| (z384 <<< (z359 &&& 31))).toInt := (fhp411.2.2.1 _ (bs_R.uq Hhp395 (g := 137) (p := 76) rfl).1 _ (by rw [(bs_R.uq Hhp395 (g := 137) (p := 76) rfl).2]; rfl)).trans h398
                                               obtain ⟨uz412, vz412⟩ := bs_s1 (x := z412.toInt) rfl (php411 _ (List.mem_of_getElem? (i := 0) rfl))
                                               refine (show Ev _ 380 ([some (.ref 69), some (.int z327), some (.int z346), some (.int z359)], [.int z412], (0, 0), hp411) _ from ?_)
                                               obtain ⟨q415, rq415, X416⟩ := xhp411 _ _ _ B n lim (i + 3) rfl K399
                                               obtain rfl := Value.int.inj (Option.some.inj rq415)
                                               exact bs_zret rfl rfl (by omega) (by omega) (by rw [hQ]; exact ⟨thp411, Hhp411, Fhp411, bs_an0, sf_S_cons (sf_s1 (x := z412.toInt) rfl (by omega) (by omega)) (sf_S_nil), (fun _ => by
                                                       skip
                                                       rw [lnx_amt (by omega), show ((tok B n lim i).k - 66).toNat = 1 by omega]
                                                       show RRES _ _ _ _ _ (lold (tok B n lim) s 0 (s.h 0) (i + 1) _)
                                                       rw [lold_o Y1X342 (by omega)]
                                                       have K3 : (tok B n lim (i + 2)).k = 3 := rkk_2 (by have KK := RK_k K2X342 hz348; omega)
                                                       have VV := RK_v K2X342 K3 hz352
                                                       have N9 := tok_nok B n lim (i + 2) K3
                                                       rw [lnum_o K3 (by omega) (by omega)]
                                                       have EK : (2 * fnd s.nm 0 (s.h 0) (tok B n lim (i + 1)).v + (tok B n lim (i + 2)).v).toNat = z359.toInt.toNat := by omega
                                                       rw [EK]
                                                       obtain ⟨A9, hA9, hB9⟩ := S344.2.2.1 1 (by decide)
                                                       have EA : z360.toInt = A9 := Option.some.inj (hz360.symm.trans hA9)
                                                       have TB9 := hB9 z359.toInt.toNat (by omega)
                                                       rw [← EA, tz361] at TB9
                                                       rw [if_neg (by rw [← TB9]; decide)]
                                                       rw [show (if (1 : Nat) = 2 ∨ (1 : Nat) = 3 then (20 : Int) else 250) = 250 from if_neg (by decide)]
                                                       rcases X416 with ⟨Y0, Y1, Y2, Y3, Y4, Y5, Y6⟩ | ⟨Y0, P1, ⟨P2, P3⟩ | ⟨⟨P2, P4⟩, P3⟩⟩
                                                       · rw [lnum_o Y1 (by omega) (by omega)]
                                                         have EP : z405.toInt.toNat = 4 + (12 * 1 + z359.toInt.toNat) := by omega
                                                         rw [EP] at Y4 Y5
                                                         exact RRES_ok ⟨z412, rfl, by omega⟩ (SR_amt S344 (by decide) (by omega) Y4 (fun q hq => (Y5 q hq).trans (((fhp395.2.2.1 _ (bs_R.uq Hhp387 (g := 133) (p := 72) rfl).1 _ (by rw [(bs_R.uq Hhp387 (g := 133) (p := 72) rfl).2]; rfl)).trans (ehp387 _ _ (Or.inl (by decide)))))) (((fhp411.2.2.1 _ (bs_R.uq Hhp395 (g := 11) (p := 69) rfl).1 _ (by rw [(bs_R.uq Hhp395 (g := 11) (p := 69) rfl).2]; rfl)).trans ((fhp395.2.2.1 _ (bs_R.uq Hhp387 (g := 11) (p := 69) rfl).1 _ (by rw [(bs_R.uq Hhp387 (g := 11) (p := 69) rfl).2]; rfl)).trans (ehp387 _ _ (Or.inl (by decide)))))) (((fhp411.2.2.2.1 _ (bs_R.uq Hhp395 (g := 135) (p := 74) rfl).1 (by rw [(bs_R.uq Hhp395 (g := 135) (p := 74) rfl).2]; rfl)).trans ((fhp395.2.2.2.1 _ (bs_R.uq Hhp387 (g := 135) (p := 74) rfl).1 (by rw [(bs_R.uq Hhp387 (g := 135) (p := 74) rfl).2]; rfl)).trans (fhp387.2.2.2.1 _ (bs_R.uq Hhp338 (g := 135) rfl).1 (by rw [(bs_R.uq Hhp338 (g := 135) rfl).2]; rfl))))) (bs_at h414 (by omega)) (fun A0 hA0 j hj => by rw [show A0 = z382.toInt from (Option.some.inj (hA0.symm.trans hz360)).trans (by omega)]; exact ib_or (by omega) (by omega) (by omega) hj) (fun q hq => ((fhp411.2.2.1 _ (bs_R.uq Hhp395 (g := 137) (p := 76) rfl).1 _ (by rw [(bs_R.uq Hhp395 (g := 137) (p := 76) rfl).2]; rfl)).trans ((fhp395.2.2.1 _ (bs_R.uq Hhp387 (g := 137) (p := 76) rfl).1 _ (by rw [(bs_R.uq Hhp387 (g := 137) (p := 76) rfl).2]; rfl)).trans (ehp387 _ _ (Or.inr (by omega))))))) Y6
                                                       · rw [lnum_1 P2]
                                                         exact RRES_bad ⟨z412, rfl, by omega⟩ P3 P1
                                                       · rw [lnum_2 P2 (by omega)]
                                                         exact RRES_bad ⟨z412, rfl, by omega⟩ P3 P1)⟩)
                                      · exfalso; omega
                                · skip
                                  refine Ev.step (j := 305) (s' := ([some (.ref 69), some (.int z327), some (.int z346), none], [.ref 69], (0, 0), hp338)) rfl rfl ?_
                                  exact by
                                   refine bs_lit (k := 2) rfl rfl fun z417 hz417 => ?_
                                   refine Ev.inl (L := L_X11_bad) (nL := 2) rfl (bs_rcv (g := 11) Hhp338 (bs_R.uq Hhp338 (g := 11) rfl) (by decide) rfl) rfl (Nat.le_of_ble_eq_true rfl) ?_
                                   generalize hQ418 : (fun (o : ab_O) => Ev _ _ _ _) = Q418
                                   refine (show Ev (ab_T L_X11_bad) 0 ([some (.ref 69), some (.int z417)], [], (0, 0), hp338) Q418 from ?_)
                                   refine Ev.step (j := 1) (s' := ([some (.ref 69), some (.int z417)], [.ref 69], (0, 0), hp338)) rfl rfl ?_
                                   refine Ev.step (j := 2) (s' := ([some (.ref 69), some (.int z417)], [.int z417, .ref 69], (0, 0), hp338)) rfl rfl ?_
                                   refine bs_putIv (W := [(11, 15, 15)]) (g := 11) rfl rfl Hhp338 (bs_R.uq Hhp338 (g := 11) rfl) (by decide) rfl rfl rfl rfl (Or.inl rfl) (by omega) (by omega) fun hp419 Hhp419 fhp419 rhp419 ehp419 qhp419 nhp419 => ?_
                                   have Fhp419 := sf_fr_tr Fhp338 (sf_fr_wider (W := [(11, 4, 4), (11, 11, 18), (11, 20, 20), (133, 0, 119), (135, 0, 0), (137, 0, 3)]) rfl fhp419)
                                   have h420 : sf_rd hp419 72 0 = some z336.toInt := (ehp419 _ _ (Or.inl (by decide))).trans h340
                                   have h421 : sf_rd hp419 69 18 = some (fnd s.nm 0 (s.h 0) (tok B n lim (i + 1)).v) := (ehp419 _ _ (Or.inr (by omega))).trans Y3X342
                                   have h422 : sf_rd hp419 69 11 = some z348.toInt := (ehp419 _ _ (Or.inr (by omega))).trans hz348
                                   have h423 : sf_rd hp419 69 14 = some z352.toInt := (ehp419 _ _ (Or.inr (by omega))).trans hz352
                                   refine Ev.step (j := 6) (s' := ([some (.ref 69), some (.int z417)], [.ref 69], (0, 0), hp419)) rfl rfl ?_
                                   exact by
                                    refine Ev.step (j := 7) (s' := ([some (.ref 69), some (.int z417)], [.ref 69, .ref 69], (0, 0), hp419)) rfl rfl ?_
                                    refine bs_getI 11 rfl rfl rfl Hhp419 (bs_R.uq Hhp419 (g := 11) rfl) (by decide) rfl fun z424 hz424 lz424 gz424 => ?_
                                    refine bs_putIv (W := [(11, 16, 16)]) (g := 11) rfl rfl Hhp419 (bs_R.uq Hhp419 (g := 11) rfl) (by decide) rfl rfl rfl rfl (Or.inl rfl) (by omega) (by omega) fun hp425 Hhp425 fhp425 rhp425 ehp425 qhp425 nhp425 => ?_
                                    have Fhp425 := sf_fr_tr Fhp419 (sf_fr_wider (W := [(11, 4, 4), (11, 11, 18), (11, 20, 20), (133, 0, 119), (135, 0, 0), (137, 0, 3)]) rfl fhp425)
                                    have h426 : sf_rd hp425 72 0 = some z336.toInt := (ehp425 _ _ (Or.inl (by decide))).trans h420
                                    have h427 : sf_rd hp425 69 18 = some (fnd s.nm 0 (s.h 0) (tok B n lim (i + 1)).v) := (ehp425 _ _ (Or.inr (by omega))).trans h421
                                    have h428 : sf_rd hp425 69 11 = some z348.toInt := (ehp425 _ _ (Or.inr (by omega))).trans h422
                                    have h429 : sf_rd hp425 69 14 = some z352.toInt := (ehp425 _ _ (Or.inr (by omega))).trans h423
                                    have h430 : sf_rd hp425 69 15 = some z417.toInt := (ehp425 _ _ (Or.inr (by omega))).trans rhp419
                                    have h431 : sf_rd hp425 69 12 = some z424.toInt := (ehp425 _ _ (Or.inr (by omega))).trans hz424
                                    refine bs_lit (k := 0) rfl rfl fun z432 hz432 => ?_
                                    exact by
                                     refine bs_zret rfl rfl (by omega) (by omega) ?_
                                     rw [← hQ418]
                                     refine (show Ev _ 309 ([some (.ref 69), some (.int z327), some (.int z346), none], [.int z432], (0, 0), hp425) _ from ?_)
                                     exact bs_zret rfl rfl (by omega) (by omega) (by rw [hQ]; exact ⟨thp338, Hhp425, Fhp425, bs_an0, sf_S_cons (sf_s1 (x := z432.toInt) rfl (by omega) (by omega)) (sf_S_nil), (fun _ => by
                                             skip
                                             rw [lnx_amt (by omega), show ((tok B n lim i).k - 66).toNat = 1 by omega]
                                             show RRES _ _ _ _ _ (lold (tok B n lim) s 0 (s.h 0) (i + 1) _)
                                             rw [lold_o Y1X342 (by omega)]
                                             have K3 : (tok B n lim (i + 2)).k = 3 := rkk_2 (by have KK := RK_k K2X342 hz348; omega)
                                             have VV := RK_v K2X342 K3 hz352
                                             have N9 := tok_nok B n lim (i + 2) K3
                                             rw [lnum_2 K3 (by omega)]
                                             have PL : z424.toInt = (tok B n lim (i + 2)).pl := Option.some.inj (hz424.symm.trans (((ehp419 _ _ (Or.inr (by omega)))).trans (RK_pl K2X342)))
                                             exact RRES_bad ⟨z432, rfl, by omega⟩ (h430.trans (congrArg some (by omega))) (rhp425.trans (congrArg some PL)))⟩)
                             · skip
                               refine Ev.step (j := 291) (s' := ([some (.ref 69), some (.int z327), some (.int z346), none], [.ref 69], (0, 0), hp338)) rfl rfl ?_
                               exact by
                                refine bs_lit (k := 1) rfl rfl fun z433 hz433 => ?_
                                refine Ev.inl (L := L_X11_bad) (nL := 2) rfl (bs_rcv (g := 11) Hhp338 (bs_R.uq Hhp338 (g := 11) rfl) (by decide) rfl) rfl (Nat.le_of_ble_eq_true rfl) ?_
                                generalize hQ434 : (fun (o : ab_O) => Ev _ _ _ _) = Q434
                                refine (show Ev (ab_T L_X11_bad) 0 ([some (.ref 69), some (.int z433)], [], (0, 0), hp338) Q434 from ?_)
                                refine Ev.step (j := 1) (s' := ([some (.ref 69), some (.int z433)], [.ref 69], (0, 0), hp338)) rfl rfl ?_
                                refine Ev.step (j := 2) (s' := ([some (.ref 69), some (.int z433)], [.int z433, .ref 69], (0, 0), hp338)) rfl rfl ?_
                                refine bs_putIv (W := [(11, 15, 15)]) (g := 11) rfl rfl Hhp338 (bs_R.uq Hhp338 (g := 11) rfl) (by decide) rfl rfl rfl rfl (Or.inl rfl) (by omega) (by omega) fun hp435 Hhp435 fhp435 rhp435 ehp435 qhp435 nhp435 => ?_
                                have Fhp435 := sf_fr_tr Fhp338 (sf_fr_wider (W := [(11, 4, 4), (11, 11, 18), (11, 20, 20), (133, 0, 119), (135, 0, 0), (137, 0, 3)]) rfl fhp435)
                                have h436 : sf_rd hp435 72 0 = some z336.toInt := (ehp435 _ _ (Or.inl (by decide))).trans h340
                                have h437 : sf_rd hp435 69 18 = some (fnd s.nm 0 (s.h 0) (tok B n lim (i + 1)).v) := (ehp435 _ _ (Or.inr (by omega))).trans Y3X342
                                have h438 : sf_rd hp435 69 11 = some z348.toInt := (ehp435 _ _ (Or.inr (by omega))).trans hz348
                                refine Ev.step (j := 6) (s' := ([some (.ref 69), some (.int z433)], [.ref 69], (0, 0), hp435)) rfl rfl ?_
                                exact by
                                 refine Ev.step (j := 7) (s' := ([some (.ref 69), some (.int z433)], [.ref 69, .ref 69], (0, 0), hp435)) rfl rfl ?_
                                 refine bs_getI 11 rfl rfl rfl Hhp435 (bs_R.uq Hhp435 (g := 11) rfl) (by decide) rfl fun z439 hz439 lz439 gz439 => ?_
                                 refine bs_putIv (W := [(11, 16, 16)]) (g := 11) rfl rfl Hhp435 (bs_R.uq Hhp435 (g := 11) rfl) (by decide) rfl rfl rfl rfl (Or.inl rfl) (by omega) (by omega) fun hp440 Hhp440 fhp440 rhp440 ehp440 qhp440 nhp440 => ?_
                                 have Fhp440 := sf_fr_tr Fhp435 (sf_fr_wider (W := [(11, 4, 4), (11, 11, 18), (11, 20, 20), (133, 0, 119), (135, 0, 0), (137, 0, 3)]) rfl fhp440)
                                 have h441 : sf_rd hp440 72 0 = some z336.toInt := (ehp440 _ _ (Or.inl (by decide))).trans h436
                                 have h442 : sf_rd hp440 69 18 = some (fnd s.nm 0 (s.h 0) (tok B n lim (i + 1)).v) := (ehp440 _ _ (Or.inr (by omega))).trans h437
                                 have h443 : sf_rd hp440 69 11 = some z348.toInt := (ehp440 _ _ (Or.inr (by omega))).trans h438
                                 have h444 : sf_rd hp440 69 15 = some z433.toInt := (ehp440 _ _ (Or.inr (by omega))).trans rhp435
                                 have h445 : sf_rd hp440 69 12 = some z439.toInt := (ehp440 _ _ (Or.inr (by omega))).trans hz439
                                 refine bs_lit (k := 0) rfl rfl fun z446 hz446 => ?_
                                 exact by
                                  refine bs_zret rfl rfl (by omega) (by omega) ?_
                                  rw [← hQ434]
                                  refine (show Ev _ 295 ([some (.ref 69), some (.int z327), some (.int z346), none], [.int z446], (0, 0), hp440) _ from ?_)
                                  exact bs_zret rfl rfl (by omega) (by omega) (by rw [hQ]; exact ⟨thp338, Hhp440, Fhp440, bs_an0, sf_S_cons (sf_s1 (x := z446.toInt) rfl (by omega) (by omega)) (sf_S_nil), (fun _ => by
                                          skip
                                          rw [lnx_amt (by omega), show ((tok B n lim i).k - 66).toNat = 1 by omega]
                                          show RRES _ _ _ _ _ (lold (tok B n lim) s 0 (s.h 0) (i + 1) _)
                                          rw [lold_o Y1X342 (by omega)]
                                          have K3 : (tok B n lim (i + 2)).k ≠ 3 := fun e => by have KK := RK_k K2X342 hz348; rw [e] at KK; have KK2 : _ = (2 : Int) := KK; omega
                                          rw [lnum_1 K3]
                                          have PL : z439.toInt = (tok B n lim (i + 2)).pl := Option.some.inj (hz439.symm.trans (((ehp435 _ _ (Or.inr (by omega)))).trans (RK_pl K2X342)))
                                          exact RRES_bad ⟨z446, rfl, by omega⟩ (h444.trans (congrArg some (by omega))) (rhp440.trans (congrArg some PL)))⟩)
                          · skip
                            have c447 : z339.toInt = 0 := by omega
                            refine bs_lit (k := 0) rfl rfl fun z448 hz448 => ?_
                            exact bs_zret rfl rfl (by omega) (by omega) (by rw [hQ]; exact ⟨thp338, Hhp338, Fhp338, bs_an0, sf_S_cons (sf_s1 (x := z448.toInt) rfl (by omega) (by omega)) (sf_S_nil), (fun _ => by
                                    skip
                                    rw [lnx_amt (by omega), show ((tok B n lim i).k - 66).toNat = 1 by omega]
                                    show RRES _ _ _ _ _ (lold (tok B n lim) s 0 (s.h 0) (i + 1) _)
                                    rcases X342.resolve_left (fun h => absurd h.1 (by omega)) with ⟨Y0, P1, ⟨P2, P3⟩ | ⟨⟨P2, P4⟩, P3⟩⟩
                                    · rw [lold_1 P2]
                                      exact RRES_bad ⟨z448, rfl, by omega⟩ P3 P1
                                    · rw [lold_3 P2 (by omega)]
                                      exact RRES_bad ⟨z448, rfl, by omega⟩ P3 P1)⟩)
                       · exfalso; omega
                 · skip
                   refine bs_lit (k := 0) rfl rfl fun z449 hz449 => ?_
                   exact by
                    refine Ev.step (j := 245) (s' := ([some (.ref 69), none, none, none], [.int z449], (0, 0), hp38)) rfl rfl ?_
                    refine Ev.step (j := 246) (s' := ([some (.ref 69), some (.int z449), none, none], [], (0, 0), hp38)) rfl rfl ?_
                    refine Ev.step (j := 247) (s' := ([some (.ref 69), some (.int z449), none, none], [.int z449], (0, 0), hp38)) rfl rfl ?_
                    refine bs_ifge rfl (fun c450 => ?_) (fun c450 => ?_)
                    · skip
                      refine Ev.step (j := 257) (s' := ([some (.ref 69), some (.int z449), none, none], [.ref 69], (0, 0), hp38)) rfl rfl ?_
                      refine bs_callx (K := kq_X11_next_v) [.ref 69] [] rfl ce_X11_next_v Hhp38 rfl rfl rfl (bs_rcv (g := 11) Hhp38 (bs_R.uq Hhp38 (g := 11) rfl) (by decide) rfl) rfl ?_ (sf_S_nil) fun r451 hp452 thp452 Hhp452 fhp452 ahp452 php452 xhp452 => ?_
                      · intro q k h
                        match q, h with
                        | 0, h => cases h; exact bs_jR (bs_R.uq Hhp38 (g := 11) rfl)
                        | q + 1, h => cases h
                      obtain rfl := ahp452.1 rfl
                      have Fhp452 := sf_fr_tr Fhp38 (sf_fr_wider (W := [(11, 4, 4), (11, 11, 18), (11, 20, 20), (133, 0, 119), (135, 0, 0), (137, 0, 3)]) rfl fhp452)
                      refine (show Ev _ 260 ([some (.ref 69), some (.int z449), none, none], [], (0, 0), hp452) _ from ?_)
                      have K453 := (RK_next Hhp38 fhp452 rfl rfl rfl xhp452 K41).1
                      have R454 := RES_fr Hhp38 fhp452 rfl R43
                      have S455 := SR_fr Hhp38 fhp452 rfl rfl rfl rfl S42
                      refine Ev.step (j := 261) (s' := ([some (.ref 69), some (.int z449), none, none], [.ref 69], (0, 0), hp452)) rfl rfl ?_
                      exact by
                       refine bs_lit (k := 14) rfl rfl fun z456 hz456 => ?_
                       refine Ev.step (j := 264) (s' := ([some (.ref 69), some (.int z449), none, none], [.ref 69, .int z456, .ref 69], (0, 0), hp452)) rfl rfl ?_
                       refine bs_getU (g := 11) (g1 := 133) rfl rfl Hhp452 (bs_R.uq Hhp452 (g := 11) rfl) (by decide) rfl rfl ?_
                       refine bs_lit (k := 0) rfl rfl fun z457 hz457 => ?_
                       refine bs_ld (g := 133) 0 0 (0, 6) rfl Hhp452 (bs_R.uq Hhp452 (g := 133) rfl) (by decide) rfl (by decide) (by decide) rfl (by decide) (by omega) (by omega) fun z458 hz458 lz458 gz458 => ?_
                       dsimp only at lz458 gz458
                       replace hz458 := bs_at hz458 (show z457.toInt.toNat = 0 by omega)
                       have c0_z458 : z458.toInt = s.h 0 := Option.some.inj (hz458.symm.trans (S455.1 0 (by decide)))
                       refine bs_callx (K := kq_X11_takesName_v) [.ref 69, .int z456, .int z458] [] rfl ce_X11_takesName_v Hhp452 rfl rfl rfl (bs_rcv (g := 11) Hhp452 (bs_R.uq Hhp452 (g := 11) rfl) (by decide) rfl) rfl ?_ (sf_S_cons (sf_s1 (x := z456.toInt) rfl (by omega) (by omega)) (sf_S_cons (sf_s1 (x := z458.toInt) rfl (by omega) (by omega)) (sf_S_nil))) fun r459 hp460 thp460 Hhp460 fhp460 ahp460 php460 xhp460 => ?_
                       · intro q k h
                         match q, h with
                         | 0, h => cases h; exact bs_jR (bs_R.uq Hhp452 (g := 11) rfl)
                         | 1, h => cases h; exact sf_j0
                         | 2, h => cases h; exact sf_j0
                         | q + 3, h => cases h
                       obtain ⟨z461, rfl⟩ := bs_anI ahp460
                       have rgz461 := n_range z461
                       have Fhp460 := sf_fr_tr Fhp452 (sf_fr_wider (W := [(11, 4, 4), (11, 11, 18), (11, 20, 20), (133, 0, 119), (135, 0, 0), (137, 0, 3)]) rfl fhp460)
                       have h462 : sf_rd hp460 72 0 = some z458.toInt := (fhp460.2.2.1 _ (bs_R.uq Hhp452 (g := 133) (p := 72) rfl).1 _ (by rw [(bs_R.uq Hhp452 (g := 133) (p := 72) rfl).2]; rfl)).trans hz458
                       obtain ⟨uz461, vz461⟩ := bs_s1 (x := z461.toInt) rfl (php460 _ (List.mem_of_getElem? (i := 0) rfl))
                       refine (show Ev _ 272 ([some (.ref 69), some (.int z449), none, none], [.int z461], (0, 0), hp460) _ from ?_)
                       obtain ⟨q463, rq463, X464⟩ := xhp460 _ _ s.nm 0 B n lim (i + 1) rfl (fun k hk => by rw [show z456.toInt.toNat + k = 14 + k by omega, Nat.zero_add]; exact S455.2.2.2.1 k (by omega)) R454 K453
                       obtain rfl := Value.int.inj (Option.some.inj rq463)
                       rw [show z458.toInt = s.h 0 by omega] at X464
                       have R465 := RES_fr Hhp452 fhp460 rfl R454
                       have S466 := SR_fr Hhp452 fhp460 rfl rfl rfl rfl S455
                       refine bs_ifne rfl (fun c467 => ?_) (fun c467 => ?_)
                       · skip
                         obtain ⟨Y0X464, Y1X464, Y2X464, Y3X464, Y4X464⟩ := X464.resolve_right (fun h => absurd h.1 (by omega))
                         have K2X464 : RK hp460 B n lim (i + 2) := Y4X464
                         have FBX464 : fnd s.nm 0 (s.h 0) (tok B n lim (i + 1)).v ≤ 5 := by have := fnd_lt (nm := s.nm) (o := 0) (n := s.h 0) (v := (tok B n lim (i + 1)).v); omega
                         refine Ev.step (j := 278) (s' := ([some (.ref 69), some (.int z449), none, none], [.ref 69], (0, 0), hp460)) rfl rfl ?_
                         exact by
                          refine bs_getI 11 rfl rfl rfl Hhp460 (bs_R.uq Hhp460 (g := 11) rfl) (by decide) rfl fun z468 hz468 lz468 gz468 => ?_
                          have e469 : z468.toInt = (fnd s.nm 0 (s.h 0) (tok B n lim (i + 1)).v) := Option.some.inj (hz468.symm.trans Y3X464)
                          refine Ev.step (j := 282) (s' := ([some (.ref 69), some (.int z449), some (.int z468), none], [], (0, 0), hp460)) rfl rfl ?_
                          refine Ev.step (j := 283) (s' := ([some (.ref 69), some (.int z449), some (.int z468), none], [.ref 69], (0, 0), hp460)) rfl rfl ?_
                          refine bs_getI 11 rfl rfl rfl Hhp460 (bs_R.uq Hhp460 (g := 11) rfl) (by decide) rfl fun z470 hz470 lz470 gz470 => ?_
                          refine bs_lit (k := 2) rfl rfl fun z471 hz471 => ?_
                          refine bs_eq rfl (fun c472 => ?_) (fun c472 => ?_)
                          · skip
                            have c473 : z470.toInt = 2 := by omega
                            refine Ev.step (j := 297) (s' := ([some (.ref 69), some (.int z449), some (.int z468), none], [.ref 69], (0, 0), hp460)) rfl rfl ?_
                            exact by
                             refine bs_getI 11 rfl rfl rfl Hhp460 (bs_R.uq Hhp460 (g := 11) rfl) (by decide) rfl fun z474 hz474 lz474 gz474 => ?_
                             refine bs_lit (k := 1) rfl rfl fun z475 hz475 => ?_
                             refine bs_le rfl (fun c476 => ?_) (fun c476 => ?_)
                             · skip
                               have KT : (tok B n lim (i + 2)).k = 3 := rkk_2 (by have KK := RK_k K2X464 hz470; omega)
                               have VT := RK_v K2X464 KT hz474
                               have NT_ := tok_nok B n lim (i + 2) KT
                               refine bs_lit (k := 2) rfl rfl fun z477 hz477 => ?_
                               refine Ev.step (j := 312) (s' := ([some (.ref 69), some (.int z449), some (.int z468), none], [.int z468, .int z477], (0, 0), hp460)) rfl rfl ?_
                               exact by
                                refine bs_mul (2) rfl (Or.inl hz477) (by rw [hz477]; omega) (by rw [hz477]; omega) fun z478 hz478 => ?_
                                rw [hz477] at hz478
                                refine Ev.step (j := 314) (s' := ([some (.ref 69), some (.int z449), some (.int z468), none], [.ref 69, .int z478], (0, 0), hp460)) rfl rfl ?_
                                refine bs_getI 11 rfl rfl rfl Hhp460 (bs_R.uq Hhp460 (g := 11) rfl) (by decide) rfl fun z479 hz479 lz479 gz479 => ?_
                                have e480 : z479.toInt = z474.toInt := Option.some.inj (hz479.symm.trans hz474)
                                first | (refine bs_add rfl (by omega) (by omega) fun z481 hz481 => ?_) | (refine bs_any rfl fun z481 => ?_)
                                have rz481 := n_range z481
                                refine Ev.step (j := 319) (s' := ([some (.ref 69), some (.int z449), some (.int z468), some (.int z481)], [], (0, 0), hp460)) rfl rfl ?_
                                refine Ev.step (j := 320) (s' := ([some (.ref 69), some (.int z449), some (.int z468), some (.int z481)], [.ref 69], (0, 0), hp460)) rfl rfl ?_
                                exact by
                                 refine bs_getU (g := 11) (g1 := 137) rfl rfl Hhp460 (bs_R.uq Hhp460 (g := 11) rfl) (by decide) rfl rfl ?_
                                 refine Ev.step (j := 324) (s' := ([some (.ref 69), some (.int z449), some (.int z468), some (.int z481)], [.int z449, .ref 76], (0, 0), hp460)) rfl rfl ?_
                                 refine bs_ld (g := 137) 0 3 (-2147483648, 2147483647) rfl Hhp460 (bs_R.uq Hhp460 (g := 137) rfl) (by decide) rfl (by decide) (by decide) rfl (by decide) (by omega) (by omega) fun z482 hz482 lz482 gz482 => ?_
                                 dsimp only at lz482 gz482
                                 replace hz482 := bs_at hz482 (show z449.toInt.toNat = 0 by omega)
                                 refine Ev.step (j := 326) (s' := ([some (.ref 69), some (.int z449), some (.int z468), some (.int z481)], [.int z481, .int z482], (0, 0), hp460)) rfl rfl ?_
                                 refine bs_pure [.int z482, .int z481] [] rfl rfl rfl rfl (px_X11_bitOf (by omega) (by omega)) fun z483 hz483 => ?_
                                 refine (show Ev _ 329 ([some (.ref 69), some (.int z449), some (.int z468), some (.int z481)], [.int z483], (0, 0), hp460) _ from ?_)
                                 rcases hz483 with ⟨ez483, tz483⟩ | ⟨ez483, tz483⟩
                                 · skip
                                   refine bs_ifeq rfl (fun c484 => ?_) (fun c484 => ?_)
                                   · exfalso; omega
                                   · skip
                                     refine Ev.step (j := 333) (s' := ([some (.ref 69), some (.int z449), some (.int z468), some (.int z481)], [.ref 69], (0, 0), hp460)) rfl rfl ?_
                                     exact by
                                      refine bs_lit (k := 3) rfl rfl fun z485 hz485 => ?_
                                      refine Ev.inl (L := L_X11_bad) (nL := 2) rfl (bs_rcv (g := 11) Hhp460 (bs_R.uq Hhp460 (g := 11) rfl) (by decide) rfl) rfl (Nat.le_of_ble_eq_true rfl) ?_
                                      generalize hQ486 : (fun (o : ab_O) => Ev _ _ _ _) = Q486
                                      refine (show Ev (ab_T L_X11_bad) 0 ([some (.ref 69), some (.int z485)], [], (0, 0), hp460) Q486 from ?_)
                                      refine Ev.step (j := 1) (s' := ([some (.ref 69), some (.int z485)], [.ref 69], (0, 0), hp460)) rfl rfl ?_
                                      refine Ev.step (j := 2) (s' := ([some (.ref 69), some (.int z485)], [.int z485, .ref 69], (0, 0), hp460)) rfl rfl ?_
                                      refine bs_putIv (W := [(11, 15, 15)]) (g := 11) rfl rfl Hhp460 (bs_R.uq Hhp460 (g := 11) rfl) (by decide) rfl rfl rfl rfl (Or.inl rfl) (by omega) (by omega) fun hp487 Hhp487 fhp487 rhp487 ehp487 qhp487 nhp487 => ?_
                                      have Fhp487 := sf_fr_tr Fhp460 (sf_fr_wider (W := [(11, 4, 4), (11, 11, 18), (11, 20, 20), (133, 0, 119), (135, 0, 0), (137, 0, 3)]) rfl fhp487)
                                      have h488 : sf_rd hp487 72 0 = some z458.toInt := (ehp487 _ _ (Or.inl (by decide))).trans h462
                                      have h489 : sf_rd hp487 69 18 = some (fnd s.nm 0 (s.h 0) (tok B n lim (i + 1)).v) := (ehp487 _ _ (Or.inr (by omega))).trans Y3X464
                                      have h490 : sf_rd hp487 69 11 = some z470.toInt := (ehp487 _ _ (Or.inr (by omega))).trans hz470
                                      have h491 : sf_rd hp487 69 14 = some z474.toInt := (ehp487 _ _ (Or.inr (by omega))).trans hz474
                                      have h492 : sf_rd hp487 76 0 = some z482.toInt := (ehp487 _ _ (Or.inl (by decide))).trans hz482
                                      refine Ev.step (j := 6) (s' := ([some (.ref 69), some (.int z485)], [.ref 69], (0, 0), hp487)) rfl rfl ?_
                                      exact by
                                       refine Ev.step (j := 7) (s' := ([some (.ref 69), some (.int z485)], [.ref 69, .ref 69], (0, 0), hp487)) rfl rfl ?_
                                       refine bs_getI 11 rfl rfl rfl Hhp487 (bs_R.uq Hhp487 (g := 11) rfl) (by decide) rfl fun z493 hz493 lz493 gz493 => ?_
                                       refine bs_putIv (W := [(11, 16, 16)]) (g := 11) rfl rfl Hhp487 (bs_R.uq Hhp487 (g := 11) rfl) (by decide) rfl rfl rfl rfl (Or.inl rfl) (by omega) (by omega) fun hp494 Hhp494 fhp494 rhp494 ehp494 qhp494 nhp494 => ?_
                                       have Fhp494 := sf_fr_tr Fhp487 (sf_fr_wider (W := [(11, 4, 4), (11, 11, 18), (11, 20, 20), (133, 0, 119), (135, 0, 0), (137, 0, 3)]) rfl fhp494)
                                       have h495 : sf_rd hp494 72 0 = some z458.toInt := (ehp494 _ _ (Or.inl (by decide))).trans h488
                                       have h496 : sf_rd hp494 69 18 = some (fnd s.nm 0 (s.h 0) (tok B n lim (i + 1)).v) := (ehp494 _ _ (Or.inr (by omega))).trans h489
                                       have h497 : sf_rd hp494 69 11 = some z470.toInt := (ehp494 _ _ (Or.inr (by omega))).trans h490
                                       have h498 : sf_rd hp494 69 14 = some z474.toInt := (ehp494 _ _ (Or.inr (by omega))).trans h491
                                       have h499 : sf_rd hp494 76 0 = some z482.toInt := (ehp494 _ _ (Or.inl (by decide))).trans h492
                                       have h500 : sf_rd hp494 69 15 = some z485.toInt := (ehp494 _ _ (Or.inr (by omega))).trans rhp487
                                       have h501 : sf_rd hp494 69 12 = some z493.toInt := (ehp494 _ _ (Or.inr (by omega))).trans hz493
                                       refine bs_lit (k := 0) rfl rfl fun z502 hz502 => ?_
                                       exact by
                                        refine bs_zret rfl rfl (by omega) (by omega) ?_
                                        rw [← hQ486]
                                        refine (show Ev _ 337 ([some (.ref 69), some (.int z449), some (.int z468), some (.int z481)], [.int z502], (0, 0), hp494) _ from ?_)
                                        exact bs_zret rfl rfl (by omega) (by omega) (by rw [hQ]; exact ⟨thp460, Hhp494, Fhp494, bs_an0, sf_S_cons (sf_s1 (x := z502.toInt) rfl (by omega) (by omega)) (sf_S_nil), (fun _ => by
                                                skip
                                                rw [lnx_amt (by omega), show ((tok B n lim i).k - 66).toNat = 0 by omega]
                                                show RRES _ _ _ _ _ (lold (tok B n lim) s 0 (s.h 0) (i + 1) _)
                                                rw [lold_o Y1X464 (by omega)]
                                                have K3 : (tok B n lim (i + 2)).k = 3 := rkk_2 (by have KK := RK_k K2X464 hz470; omega)
                                                have VV := RK_v K2X464 K3 hz474
                                                have N9 := tok_nok B n lim (i + 2) K3
                                                rw [lnum_o K3 (by omega) (by omega)]
                                                have EK : (2 * fnd s.nm 0 (s.h 0) (tok B n lim (i + 1)).v + (tok B n lim (i + 2)).v).toNat = z481.toInt.toNat := by omega
                                                rw [EK]
                                                obtain ⟨A9, hA9, hB9⟩ := S466.2.2.1 0 (by decide)
                                                have EA : z482.toInt = A9 := Option.some.inj (hz482.symm.trans hA9)
                                                have TB9 := hB9 z481.toInt.toNat (by omega)
                                                rw [← EA, tz483] at TB9
                                                rw [if_pos TB9.symm]
                                                have PL : z493.toInt = (tok B n lim (i + 2)).pl := Option.some.inj (hz493.symm.trans (((ehp487 _ _ (Or.inr (by omega)))).trans (RK_pl K2X464)))
                                                exact RRES_bad ⟨z502, rfl, by omega⟩ (h500.trans (congrArg some (by omega))) (rhp494.trans (congrArg some PL)))⟩)
                                 · skip
                                   refine bs_ifeq rfl (fun c503 => ?_) (fun c503 => ?_)
                                   · skip
                                     refine Ev.step (j := 339) (s' := ([some (.ref 69), some (.int z449), some (.int z468), some (.int z481)], [.ref 69], (0, 0), hp460)) rfl rfl ?_
                                     exact by
                                      refine bs_getU (g := 11) (g1 := 137) rfl rfl Hhp460 (bs_R.uq Hhp460 (g := 11) rfl) (by decide) rfl rfl ?_
                                      refine Ev.step (j := 343) (s' := ([some (.ref 69), some (.int z449), some (.int z468), some (.int z481)], [.int z449, .ref 76], (0, 0), hp460)) rfl rfl ?_
                                      refine Ev.step (j := 344) (s' := ([some (.ref 69), some (.int z449), some (.int z468), some (.int z481)], [.int z449, .ref 76, .int z449, .ref 76], (0, 0), hp460)) rfl rfl ?_
                                      refine bs_ld (g := 137) 0 3 (-2147483648, 2147483647) rfl Hhp460 (bs_R.uq Hhp460 (g := 137) rfl) (by decide) rfl (by decide) (by decide) rfl (by decide) (by omega) (by omega) fun z504 hz504 lz504 gz504 => ?_
                                      dsimp only at lz504 gz504
                                      replace hz504 := bs_at hz504 (show z449.toInt.toNat = 0 by omega)
                                      have e505 : z504.toInt = z482.toInt := Option.some.inj (hz504.symm.trans hz482)
                                      refine bs_lit (k := 1) rfl rfl fun z506 hz506 => ?_
                                      refine Ev.step (j := 347) (s' := ([some (.ref 69), some (.int z449), some (.int z468), some (.int z481)], [.int z481, .int z506, .int z504, .int z449, .ref 76], (0, 0), hp460)) rfl rfl ?_
                                      exact by
                                       refine Ev.step (j := 348) (s' := ([some (.ref 69), some (.int z449), some (.int z468), some (.int z481)], [.int (z506 <<< (z481 &&& 31)), .int z504, .int z449, .ref 76], (0, 0), hp460)) rfl rfl ?_
                                       have rz507 := n_range (z506 <<< (z481 &&& 31))
                                       refine Ev.step (j := 349) (s' := ([some (.ref 69), some (.int z449), some (.int z468), some (.int z481)], [.int (z504 ||| (z506 <<< (z481 &&& 31))), .int z449, .ref 76], (0, 0), hp460)) rfl rfl ?_
                                       have rz508 := n_range (z504 ||| (z506 <<< (z481 &&& 31)))
                                       refine bs_stv (W := [(137, 0, 3)]) (g := 137) 0 3 (-2147483648, 2147483647) rfl Hhp460 (bs_R.uq Hhp460 (g := 137) rfl) (by decide) rfl rfl (by decide) rfl rfl (by omega) (by omega) (by dsimp only; omega) (by dsimp only; omega) fun hp509 Hhp509 fhp509 rhp509 ehp509 qhp509 nhp509 => ?_
                                       replace rhp509 := bs_at rhp509 (show z449.toInt.toNat = 0 by omega)
                                       have Fhp509 := sf_fr_tr Fhp460 (sf_fr_wider (W := [(11, 4, 4), (11, 11, 18), (11, 20, 20), (133, 0, 119), (135, 0, 0), (137, 0, 3)]) rfl fhp509)
                                       have h510 : sf_rd hp509 72 0 = some z458.toInt := (ehp509 _ _ (Or.inl (by decide))).trans h462
                                       have h511 : sf_rd hp509 69 18 = some (fnd s.nm 0 (s.h 0) (tok B n lim (i + 1)).v) := (ehp509 _ _ (Or.inl (by decide))).trans Y3X464
                                       have h512 : sf_rd hp509 69 11 = some z470.toInt := (ehp509 _ _ (Or.inl (by decide))).trans hz470
                                       have h513 : sf_rd hp509 69 14 = some z474.toInt := (ehp509 _ _ (Or.inl (by decide))).trans hz474
                                       have K514 := RK_keep Hhp460 fhp509 rfl rfl (nhp509 _ _) K2X464
                                       have R515 := RES_fr Hhp460 fhp509 rfl R465
                                       refine Ev.step (j := 351) (s' := ([some (.ref 69), some (.int z449), some (.int z468), some (.int z481)], [.ref 69], (0, 0), hp509)) rfl rfl ?_
                                       exact by
                                        refine bs_callx (K := kq_X11_next_v) [.ref 69] [] rfl ce_X11_next_v Hhp509 rfl rfl rfl (bs_rcv (g := 11) Hhp509 (bs_R.uq Hhp509 (g := 11) rfl) (by decide) rfl) rfl ?_ (sf_S_nil) fun r516 hp517 thp517 Hhp517 fhp517 ahp517 php517 xhp517 => ?_
                                        · intro q k h
                                          match q, h with
                                          | 0, h => cases h; exact bs_jR (bs_R.uq Hhp509 (g := 11) rfl)
                                          | q + 1, h => cases h
                                        obtain rfl := ahp517.1 rfl
                                        have Fhp517 := sf_fr_tr Fhp509 (sf_fr_wider (W := [(11, 4, 4), (11, 11, 18), (11, 20, 20), (133, 0, 119), (135, 0, 0), (137, 0, 3)]) rfl fhp517)
                                        have h518 : sf_rd hp517 72 0 = some z458.toInt := (fhp517.2.2.1 _ (bs_R.uq Hhp509 (g := 133) (p := 72) rfl).1 _ (by rw [(bs_R.uq Hhp509 (g := 133) (p := 72) rfl).2]; rfl)).trans h510
                                        have h519 : sf_rd hp517 69 18 = some (fnd s.nm 0 (s.h 0) (tok B n lim (i + 1)).v) := (fhp517.2.2.1 _ (bs_R.uq Hhp509 (g := 11) (p := 69) rfl).1 _ (by rw [(bs_R.uq Hhp509 (g := 11) (p := 69) rfl).2]; rfl)).trans h511
                                        have h520 : sf_rd hp517 76 0 = some (z504 ||| (z506 <<< (z481 &&& 31))).toInt := (fhp517.2.2.1 _ (bs_R.uq Hhp509 (g := 137) (p := 76) rfl).1 _ (by rw [(bs_R.uq Hhp509 (g := 137) (p := 76) rfl).2]; rfl)).trans rhp509
                                        refine (show Ev _ 354 ([some (.ref 69), some (.int z449), some (.int z468), some (.int z481)], [], (0, 0), hp517) _ from ?_)
                                        have K521 := (RK_next Hhp509 fhp517 rfl rfl rfl xhp517 K514).1
                                        have R522 := RES_fr Hhp509 fhp517 rfl R515
                                        refine Ev.step (j := 355) (s' := ([some (.ref 69), some (.int z449), some (.int z468), some (.int z481)], [.ref 69], (0, 0), hp517)) rfl rfl ?_
                                        exact by
                                         refine bs_lit (k := 4) rfl rfl fun z523 hz523 => ?_
                                         refine bs_lit (k := 12) rfl rfl fun z524 hz524 => ?_
                                         refine Ev.step (j := 359) (s' := ([some (.ref 69), some (.int z449), some (.int z468), some (.int z481)], [.int z449, .int z524, .int z523, .ref 69], (0, 0), hp517)) rfl rfl ?_
                                         refine bs_mul (0) rfl (Or.inr hz449) (by rw [hz449]; omega) (by rw [hz449]; omega) fun z525 hz525 => ?_
                                         rw [hz449] at hz525
                                         first | (refine bs_add rfl (by omega) (by omega) fun z526 hz526 => ?_) | (refine bs_any rfl fun z526 => ?_)
                                         have rz526 := n_range z526
                                         refine Ev.step (j := 362) (s' := ([some (.ref 69), some (.int z449), some (.int z468), some (.int z481)], [.int z481, .int z526, .ref 69], (0, 0), hp517)) rfl rfl ?_
                                         first | (refine bs_add rfl (by omega) (by omega) fun z527 hz527 => ?_) | (refine bs_any rfl fun z527 => ?_)
                                         have rz527 := n_range z527
                                         refine bs_lit (k := 0) rfl rfl fun z528 hz528 => ?_
                                         exact by
                                          refine Ev.step (j := 365) (s' := ([some (.ref 69), some (.int z449), some (.int z468), some (.int z481)], [.int z449, .int z528, .int z527, .ref 69], (0, 0), hp517)) rfl rfl ?_
                                          refine bs_lit (k := 2) rfl rfl fun z529 hz529 => ?_
                                          refine bs_ge rfl (fun c530 => ?_) (fun c530 => ?_)
                                          · exfalso; omega
                                          · skip
                                            refine bs_lit (k := 250) rfl rfl fun z531 hz531 => ?_
                                            refine Ev.step (j := 377) (s' := ([some (.ref 69), some (.int z449), some (.int z468), some (.int z481)], [.int z531, .int z528, .int z527, .ref 69], (0, 0), hp517)) rfl rfl ?_
                                            refine bs_callx (K := kq_X11_puts_v2) [.ref 69, .int z527, .int z528, .int z531] [] rfl ce_X11_puts_v2 Hhp517 rfl rfl rfl (bs_rcv (g := 11) Hhp517 (bs_R.uq Hhp517 (g := 11) rfl) (by decide) rfl) rfl ?_ (sf_S_cons (sf_s1 (x := z527.toInt) rfl (by omega) (by omega)) (sf_S_cons (sf_s1 (x := z528.toInt) rfl (by omega) (by omega)) (sf_S_cons (sf_s1 (x := z531.toInt) rfl (by omega) (by omega)) (sf_S_nil)))) fun r532 hp533 thp533 Hhp533 fhp533 ahp533 php533 xhp533 => ?_
                                            · intro q k h
                                              match q, h with
                                              | 0, h => cases h; exact bs_jR (bs_R.uq Hhp517 (g := 11) rfl)
                                              | 1, h => cases h; exact sf_j0
                                              | 2, h => cases h; exact sf_j0
                                              | 3, h => cases h; exact sf_j0
                                              | q + 4, h => cases h
                                            obtain ⟨z534, rfl⟩ := bs_anI ahp533
                                            have rgz534 := n_range z534
                                            have Fhp533 := sf_fr_tr Fhp517 (sf_fr_wider (W := [(11, 4, 4), (11, 11, 18), (11, 20, 20), (133, 0, 119), (135, 0, 0), (137, 0, 3)]) rfl fhp533)
                                            have h535 : sf_rd hp533 72 0 = some z458.toInt := (fhp533.2.2.1 _ (bs_R.uq Hhp517 (g := 133) (p := 72) rfl).1 _ (by rw [(bs_R.uq Hhp517 (g := 133) (p := 72) rfl).2]; rfl)).trans h518
                                            have h536 : sf_rd hp533 76 0 = some (z504 ||| (z506 <<< (z481 &&& 31))).toInt := (fhp533.2.2.1 _ (bs_R.uq Hhp517 (g := 137) (p := 76) rfl).1 _ (by rw [(bs_R.uq Hhp517 (g := 137) (p := 76) rfl).2]; rfl)).trans h520
                                            obtain ⟨uz534, vz534⟩ := bs_s1 (x := z534.toInt) rfl (php533 _ (List.mem_of_getElem? (i := 0) rfl))
                                            refine (show Ev _ 380 ([some (.ref 69), some (.int z449), some (.int z468), some (.int z481)], [.int z534], (0, 0), hp533) _ from ?_)
                                            obtain ⟨q537, rq537, X538⟩ := xhp533 _ _ _ B n lim (i + 3) rfl K521
                                            obtain rfl := Value.int.inj (Option.some.inj rq537)
                                            exact bs_zret rfl rfl (by omega) (by omega) (by rw [hQ]; exact ⟨thp533, Hhp533, Fhp533, bs_an0, sf_S_cons (sf_s1 (x := z534.toInt) rfl (by omega) (by omega)) (sf_S_nil), (fun _ => by
                                                    skip
                                                    rw [lnx_amt (by omega), show ((tok B n lim i).k - 66).toNat = 0 by omega]
                                                    show RRES _ _ _ _ _ (lold (tok B n lim) s 0 (s.h 0) (i + 1) _)
                                                    rw [lold_o Y1X464 (by omega)]
                                                    have K3 : (tok B n lim (i + 2)).k = 3 := rkk_2 (by have KK := RK_k K2X464 hz470; omega)
                                                    have VV := RK_v K2X464 K3 hz474
                                                    have N9 := tok_nok B n lim (i + 2) K3
                                                    rw [lnum_o K3 (by omega) (by omega)]
                                                    have EK : (2 * fnd s.nm 0 (s.h 0) (tok B n lim (i + 1)).v + (tok B n lim (i + 2)).v).toNat = z481.toInt.toNat := by omega
                                                    rw [EK]
                                                    obtain ⟨A9, hA9, hB9⟩ := S466.2.2.1 0 (by decide)
                                                    have EA : z482.toInt = A9 := Option.some.inj (hz482.symm.trans hA9)
                                                    have TB9 := hB9 z481.toInt.toNat (by omega)
                                                    rw [← EA, tz483] at TB9
                                                    rw [if_neg (by rw [← TB9]; decide)]
                                                    rw [show (if (0 : Nat) = 2 ∨ (0 : Nat) = 3 then (20 : Int) else 250) = 250 from if_neg (by decide)]
                                                    rcases X538 with ⟨Y0, Y1, Y2, Y3, Y4, Y5, Y6⟩ | ⟨Y0, P1, ⟨P2, P3⟩ | ⟨⟨P2, P4⟩, P3⟩⟩
                                                    · rw [lnum_o Y1 (by omega) (by omega)]
                                                      have EP : z527.toInt.toNat = 4 + (12 * 0 + z481.toInt.toNat) := by omega
                                                      rw [EP] at Y4 Y5
                                                      exact RRES_ok ⟨z534, rfl, by omega⟩ (SR_amt S466 (by decide) (by omega) Y4 (fun q hq => (Y5 q hq).trans (((fhp517.2.2.1 _ (bs_R.uq Hhp509 (g := 133) (p := 72) rfl).1 _ (by rw [(bs_R.uq Hhp509 (g := 133) (p := 72) rfl).2]; rfl)).trans (ehp509 _ _ (Or.inl (by decide)))))) (((fhp533.2.2.1 _ (bs_R.uq Hhp517 (g := 11) (p := 69) rfl).1 _ (by rw [(bs_R.uq Hhp517 (g := 11) (p := 69) rfl).2]; rfl)).trans ((fhp517.2.2.1 _ (bs_R.uq Hhp509 (g := 11) (p := 69) rfl).1 _ (by rw [(bs_R.uq Hhp509 (g := 11) (p := 69) rfl).2]; rfl)).trans (ehp509 _ _ (Or.inl (by decide)))))) (((fhp533.2.2.2.1 _ (bs_R.uq Hhp517 (g := 135) (p := 74) rfl).1 (by rw [(bs_R.uq Hhp517 (g := 135) (p := 74) rfl).2]; rfl)).trans ((fhp517.2.2.2.1 _ (bs_R.uq Hhp509 (g := 135) (p := 74) rfl).1 (by rw [(bs_R.uq Hhp509 (g := 135) (p := 74) rfl).2]; rfl)).trans (fhp509.2.2.2.1 _ (bs_R.uq Hhp460 (g := 135) rfl).1 (by rw [(bs_R.uq Hhp460 (g := 135) rfl).2]; rfl))))) (bs_at h536 (by omega)) (fun A0 hA0 j hj => by rw [show A0 = z504.toInt from (Option.some.inj (hA0.symm.trans hz482)).trans (by omega)]; exact ib_or (by omega) (by omega) (by omega) hj) (fun q hq => ((fhp533.2.2.1 _ (bs_R.uq Hhp517 (g := 137) (p := 76) rfl).1 _ (by rw [(bs_R.uq Hhp517 (g := 137) (p := 76) rfl).2]; rfl)).trans ((fhp517.2.2.1 _ (bs_R.uq Hhp509 (g := 137) (p := 76) rfl).1 _ (by rw [(bs_R.uq Hhp509 (g := 137) (p := 76) rfl).2]; rfl)).trans (ehp509 _ _ (Or.inr (by omega))))))) Y6
                                                    · rw [lnum_1 P2]
                                                      exact RRES_bad ⟨z534, rfl, by omega⟩ P3 P1
                                                    · rw [lnum_2 P2 (by omega)]
                                                      exact RRES_bad ⟨z534, rfl, by omega⟩ P3 P1)⟩)
                                   · exfalso; omega
                             · skip
                               refine Ev.step (j := 305) (s' := ([some (.ref 69), some (.int z449), some (.int z468), none], [.ref 69], (0, 0), hp460)) rfl rfl ?_
                               exact by
                                refine bs_lit (k := 2) rfl rfl fun z539 hz539 => ?_
                                refine Ev.inl (L := L_X11_bad) (nL := 2) rfl (bs_rcv (g := 11) Hhp460 (bs_R.uq Hhp460 (g := 11) rfl) (by decide) rfl) rfl (Nat.le_of_ble_eq_true rfl) ?_
                                generalize hQ540 : (fun (o : ab_O) => Ev _ _ _ _) = Q540
                                refine (show Ev (ab_T L_X11_bad) 0 ([some (.ref 69), some (.int z539)], [], (0, 0), hp460) Q540 from ?_)
                                refine Ev.step (j := 1) (s' := ([some (.ref 69), some (.int z539)], [.ref 69], (0, 0), hp460)) rfl rfl ?_
                                refine Ev.step (j := 2) (s' := ([some (.ref 69), some (.int z539)], [.int z539, .ref 69], (0, 0), hp460)) rfl rfl ?_
                                refine bs_putIv (W := [(11, 15, 15)]) (g := 11) rfl rfl Hhp460 (bs_R.uq Hhp460 (g := 11) rfl) (by decide) rfl rfl rfl rfl (Or.inl rfl) (by omega) (by omega) fun hp541 Hhp541 fhp541 rhp541 ehp541 qhp541 nhp541 => ?_
                                have Fhp541 := sf_fr_tr Fhp460 (sf_fr_wider (W := [(11, 4, 4), (11, 11, 18), (11, 20, 20), (133, 0, 119), (135, 0, 0), (137, 0, 3)]) rfl fhp541)
                                have h542 : sf_rd hp541 72 0 = some z458.toInt := (ehp541 _ _ (Or.inl (by decide))).trans h462
                                have h543 : sf_rd hp541 69 18 = some (fnd s.nm 0 (s.h 0) (tok B n lim (i + 1)).v) := (ehp541 _ _ (Or.inr (by omega))).trans Y3X464
                                have h544 : sf_rd hp541 69 11 = some z470.toInt := (ehp541 _ _ (Or.inr (by omega))).trans hz470
                                have h545 : sf_rd hp541 69 14 = some z474.toInt := (ehp541 _ _ (Or.inr (by omega))).trans hz474
                                refine Ev.step (j := 6) (s' := ([some (.ref 69), some (.int z539)], [.ref 69], (0, 0), hp541)) rfl rfl ?_
                                exact by
                                 refine Ev.step (j := 7) (s' := ([some (.ref 69), some (.int z539)], [.ref 69, .ref 69], (0, 0), hp541)) rfl rfl ?_
                                 refine bs_getI 11 rfl rfl rfl Hhp541 (bs_R.uq Hhp541 (g := 11) rfl) (by decide) rfl fun z546 hz546 lz546 gz546 => ?_
                                 refine bs_putIv (W := [(11, 16, 16)]) (g := 11) rfl rfl Hhp541 (bs_R.uq Hhp541 (g := 11) rfl) (by decide) rfl rfl rfl rfl (Or.inl rfl) (by omega) (by omega) fun hp547 Hhp547 fhp547 rhp547 ehp547 qhp547 nhp547 => ?_
                                 have Fhp547 := sf_fr_tr Fhp541 (sf_fr_wider (W := [(11, 4, 4), (11, 11, 18), (11, 20, 20), (133, 0, 119), (135, 0, 0), (137, 0, 3)]) rfl fhp547)
                                 have h548 : sf_rd hp547 72 0 = some z458.toInt := (ehp547 _ _ (Or.inl (by decide))).trans h542
                                 have h549 : sf_rd hp547 69 18 = some (fnd s.nm 0 (s.h 0) (tok B n lim (i + 1)).v) := (ehp547 _ _ (Or.inr (by omega))).trans h543
                                 have h550 : sf_rd hp547 69 11 = some z470.toInt := (ehp547 _ _ (Or.inr (by omega))).trans h544
                                 have h551 : sf_rd hp547 69 14 = some z474.toInt := (ehp547 _ _ (Or.inr (by omega))).trans h545
                                 have h552 : sf_rd hp547 69 15 = some z539.toInt := (ehp547 _ _ (Or.inr (by omega))).trans rhp541
                                 have h553 : sf_rd hp547 69 12 = some z546.toInt := (ehp547 _ _ (Or.inr (by omega))).trans hz546
                                 refine bs_lit (k := 0) rfl rfl fun z554 hz554 => ?_
                                 exact by
                                  refine bs_zret rfl rfl (by omega) (by omega) ?_
                                  rw [← hQ540]
                                  refine (show Ev _ 309 ([some (.ref 69), some (.int z449), some (.int z468), none], [.int z554], (0, 0), hp547) _ from ?_)
                                  exact bs_zret rfl rfl (by omega) (by omega) (by rw [hQ]; exact ⟨thp460, Hhp547, Fhp547, bs_an0, sf_S_cons (sf_s1 (x := z554.toInt) rfl (by omega) (by omega)) (sf_S_nil), (fun _ => by
                                          skip
                                          rw [lnx_amt (by omega), show ((tok B n lim i).k - 66).toNat = 0 by omega]
                                          show RRES _ _ _ _ _ (lold (tok B n lim) s 0 (s.h 0) (i + 1) _)
                                          rw [lold_o Y1X464 (by omega)]
                                          have K3 : (tok B n lim (i + 2)).k = 3 := rkk_2 (by have KK := RK_k K2X464 hz470; omega)
                                          have VV := RK_v K2X464 K3 hz474
                                          have N9 := tok_nok B n lim (i + 2) K3
                                          rw [lnum_2 K3 (by omega)]
                                          have PL : z546.toInt = (tok B n lim (i + 2)).pl := Option.some.inj (hz546.symm.trans (((ehp541 _ _ (Or.inr (by omega)))).trans (RK_pl K2X464)))
                                          exact RRES_bad ⟨z554, rfl, by omega⟩ (h552.trans (congrArg some (by omega))) (rhp547.trans (congrArg some PL)))⟩)
                          · skip
                            refine Ev.step (j := 291) (s' := ([some (.ref 69), some (.int z449), some (.int z468), none], [.ref 69], (0, 0), hp460)) rfl rfl ?_
                            exact by
                             refine bs_lit (k := 1) rfl rfl fun z555 hz555 => ?_
                             refine Ev.inl (L := L_X11_bad) (nL := 2) rfl (bs_rcv (g := 11) Hhp460 (bs_R.uq Hhp460 (g := 11) rfl) (by decide) rfl) rfl (Nat.le_of_ble_eq_true rfl) ?_
                             generalize hQ556 : (fun (o : ab_O) => Ev _ _ _ _) = Q556
                             refine (show Ev (ab_T L_X11_bad) 0 ([some (.ref 69), some (.int z555)], [], (0, 0), hp460) Q556 from ?_)
                             refine Ev.step (j := 1) (s' := ([some (.ref 69), some (.int z555)], [.ref 69], (0, 0), hp460)) rfl rfl ?_
                             refine Ev.step (j := 2) (s' := ([some (.ref 69), some (.int z555)], [.int z555, .ref 69], (0, 0), hp460)) rfl rfl ?_
                             refine bs_putIv (W := [(11, 15, 15)]) (g := 11) rfl rfl Hhp460 (bs_R.uq Hhp460 (g := 11) rfl) (by decide) rfl rfl rfl rfl (Or.inl rfl) (by omega) (by omega) fun hp557 Hhp557 fhp557 rhp557 ehp557 qhp557 nhp557 => ?_
                             have Fhp557 := sf_fr_tr Fhp460 (sf_fr_wider (W := [(11, 4, 4), (11, 11, 18), (11, 20, 20), (133, 0, 119), (135, 0, 0), (137, 0, 3)]) rfl fhp557)
                             have h558 : sf_rd hp557 72 0 = some z458.toInt := (ehp557 _ _ (Or.inl (by decide))).trans h462
                             have h559 : sf_rd hp557 69 18 = some (fnd s.nm 0 (s.h 0) (tok B n lim (i + 1)).v) := (ehp557 _ _ (Or.inr (by omega))).trans Y3X464
                             have h560 : sf_rd hp557 69 11 = some z470.toInt := (ehp557 _ _ (Or.inr (by omega))).trans hz470
                             refine Ev.step (j := 6) (s' := ([some (.ref 69), some (.int z555)], [.ref 69], (0, 0), hp557)) rfl rfl ?_
                             exact by
                              refine Ev.step (j := 7) (s' := ([some (.ref 69), some (.int z555)], [.ref 69, .ref 69], (0, 0), hp557)) rfl rfl ?_
                              refine bs_getI 11 rfl rfl rfl Hhp557 (bs_R.uq Hhp557 (g := 11) rfl) (by decide) rfl fun z561 hz561 lz561 gz561 => ?_
                              refine bs_putIv (W := [(11, 16, 16)]) (g := 11) rfl rfl Hhp557 (bs_R.uq Hhp557 (g := 11) rfl) (by decide) rfl rfl rfl rfl (Or.inl rfl) (by omega) (by omega) fun hp562 Hhp562 fhp562 rhp562 ehp562 qhp562 nhp562 => ?_
                              have Fhp562 := sf_fr_tr Fhp557 (sf_fr_wider (W := [(11, 4, 4), (11, 11, 18), (11, 20, 20), (133, 0, 119), (135, 0, 0), (137, 0, 3)]) rfl fhp562)
                              have h563 : sf_rd hp562 72 0 = some z458.toInt := (ehp562 _ _ (Or.inl (by decide))).trans h558
                              have h564 : sf_rd hp562 69 18 = some (fnd s.nm 0 (s.h 0) (tok B n lim (i + 1)).v) := (ehp562 _ _ (Or.inr (by omega))).trans h559
                              have h565 : sf_rd hp562 69 11 = some z470.toInt := (ehp562 _ _ (Or.inr (by omega))).trans h560
                              have h566 : sf_rd hp562 69 15 = some z555.toInt := (ehp562 _ _ (Or.inr (by omega))).trans rhp557
                              have h567 : sf_rd hp562 69 12 = some z561.toInt := (ehp562 _ _ (Or.inr (by omega))).trans hz561
                              refine bs_lit (k := 0) rfl rfl fun z568 hz568 => ?_
                              exact by
                               refine bs_zret rfl rfl (by omega) (by omega) ?_
                               rw [← hQ556]
                               refine (show Ev _ 295 ([some (.ref 69), some (.int z449), some (.int z468), none], [.int z568], (0, 0), hp562) _ from ?_)
                               exact bs_zret rfl rfl (by omega) (by omega) (by rw [hQ]; exact ⟨thp460, Hhp562, Fhp562, bs_an0, sf_S_cons (sf_s1 (x := z568.toInt) rfl (by omega) (by omega)) (sf_S_nil), (fun _ => by
                                       skip
                                       rw [lnx_amt (by omega), show ((tok B n lim i).k - 66).toNat = 0 by omega]
                                       show RRES _ _ _ _ _ (lold (tok B n lim) s 0 (s.h 0) (i + 1) _)
                                       rw [lold_o Y1X464 (by omega)]
                                       have K3 : (tok B n lim (i + 2)).k ≠ 3 := fun e => by have KK := RK_k K2X464 hz470; rw [e] at KK; have KK2 : _ = (2 : Int) := KK; omega
                                       rw [lnum_1 K3]
                                       have PL : z561.toInt = (tok B n lim (i + 2)).pl := Option.some.inj (hz561.symm.trans (((ehp557 _ _ (Or.inr (by omega)))).trans (RK_pl K2X464)))
                                       exact RRES_bad ⟨z568, rfl, by omega⟩ (h566.trans (congrArg some (by omega))) (rhp562.trans (congrArg some PL)))⟩)
                       · skip
                         have c569 : z461.toInt = 0 := by omega
                         refine bs_lit (k := 0) rfl rfl fun z570 hz570 => ?_
                         exact bs_zret rfl rfl (by omega) (by omega) (by rw [hQ]; exact ⟨thp460, Hhp460, Fhp460, bs_an0, sf_S_cons (sf_s1 (x := z570.toInt) rfl (by omega) (by omega)) (sf_S_nil), (fun _ => by
                                 skip
                                 rw [lnx_amt (by omega), show ((tok B n lim i).k - 66).toNat = 0 by omega]
                                 show RRES _ _ _ _ _ (lold (tok B n lim) s 0 (s.h 0) (i + 1) _)
                                 rcases X464.resolve_left (fun h => absurd h.1 (by omega)) with ⟨Y0, P1, ⟨P2, P3⟩ | ⟨⟨P2, P4⟩, P3⟩⟩
                                 · rw [lold_1 P2]
                                   exact RRES_bad ⟨z570, rfl, by omega⟩ P3 P1
                                 · rw [lold_3 P2 (by omega)]
                                   exact RRES_bad ⟨z570, rfl, by omega⟩ P3 P1)⟩)
                    · exfalso; omega
              · skip
                refine Ev.step (j := 184) (s' := ([some (.ref 69), none, none, none], [.ref 69], (0, 0), hp29)) rfl rfl ?_
                exact by
                 refine bs_callp (K := kq_X11_readMisses_v) [.ref 69] [] rfl cp_X11_readMisses_v (⟨K32, S33, R34⟩) Hhp29 rfl rfl rfl (bs_rcv (g := 11) Hhp29 (bs_R.uq Hhp29 (g := 11) rfl) (by decide) rfl) rfl ?_ (sf_S_nil) fun r571 hp572 thp572 Hhp572 fhp572 ahp572 php572 xhp572 => ?_
                 · intro q k h
                   match q, h with
                   | 0, h => cases h; exact bs_jR (bs_R.uq Hhp29 (g := 11) rfl)
                   | q + 1, h => cases h
                 obtain ⟨z573, rfl⟩ := bs_anI ahp572
                 have rgz573 := n_range z573
                 have Fhp572 := sf_fr_tr Fhp29 (sf_fr_wider (W := [(11, 4, 4), (11, 11, 18), (11, 20, 20), (133, 0, 119), (135, 0, 0), (137, 0, 3)]) rfl fhp572)
                 obtain ⟨uz573, vz573⟩ := bs_s1 (x := z573.toInt) rfl (php572 _ (List.mem_of_getElem? (i := 0) rfl))
                 refine (show Ev _ 187 ([some (.ref 69), none, none, none], [.int z573], (0, 0), hp572) _ from ?_)
                 exact bs_zret rfl rfl (by omega) (by omega) (by rw [hQ]; exact ⟨thp572, Hhp572, Fhp572, bs_an0, sf_S_cons (sf_s1 (x := z573.toInt) rfl (by omega) (by omega)) (sf_S_nil), (fun _ => by
                         skip
                         rw [lnx_miss (by omega)]
                         exact xhp572 rfl)⟩)
           · skip
             have TG : (tok B n lim i).k = 70 := by omega
             refine Ev.step (j := 113) (s' := ([some (.ref 69), none, none, none], [.ref 69], (0, 0), hp20)) rfl rfl ?_
             exact by
              refine bs_getU (g := 11) (g1 := 133) rfl rfl Hhp20 (bs_R.uq Hhp20 (g := 11) rfl) (by decide) rfl rfl ?_
              refine bs_lit (k := 1) rfl rfl fun z574 hz574 => ?_
              refine bs_ld (g := 133) 1 1 (0, 8) rfl Hhp20 (bs_R.uq Hhp20 (g := 133) rfl) (by decide) rfl (by decide) (by decide) rfl (by decide) (by omega) (by omega) fun z575 hz575 lz575 gz575 => ?_
              dsimp only at lz575 gz575
              replace hz575 := bs_at hz575 (show z574.toInt.toNat = 1 by omega)
              have c1_z575 : z575.toInt = s.h 1 := Option.some.inj (hz575.symm.trans (S24.1 1 (by decide)))
              obtain ⟨vh0, gh0, lh0, uh0⟩ := bs_elt (k := 0) 0 0 (0, 6) Hhp20 (bs_R.uq Hhp20 (g := 133) (p := 72) rfl) (by decide) (by decide) (by decide) rfl (by decide) (by decide) (by decide)
              dsimp only at lh0 uh0
              have eh0 : vh0 = s.h 0 := Option.some.inj (gh0.symm.trans (S24.1 0 (by decide)))
              refine Ev.step (j := 119) (s' := ([some (.ref 69), some (.int z575), none, none], [], (0, 0), hp20)) rfl rfl ?_
              exact by
               refine Ev.step (j := 120) (s' := ([some (.ref 69), some (.int z575), none, none], [.int z575], (0, 0), hp20)) rfl rfl ?_
               refine bs_lit (k := 8) rfl rfl fun z576 hz576 => ?_
               refine bs_ne rfl (fun c577 => ?_) (fun c577 => ?_)
               · skip
                 have G8 : ¬ 8 ≤ s.h 1 := by omega
                 refine Ev.step (j := 132) (s' := ([some (.ref 69), some (.int z575), none, none], [.ref 69], (0, 0), hp20)) rfl rfl ?_
                 refine bs_callx (K := kq_X11_next_v) [.ref 69] [] rfl ce_X11_next_v Hhp20 rfl rfl rfl (bs_rcv (g := 11) Hhp20 (bs_R.uq Hhp20 (g := 11) rfl) (by decide) rfl) rfl ?_ (sf_S_nil) fun r578 hp579 thp579 Hhp579 fhp579 ahp579 php579 xhp579 => ?_
                 · intro q k h
                   match q, h with
                   | 0, h => cases h; exact bs_jR (bs_R.uq Hhp20 (g := 11) rfl)
                   | q + 1, h => cases h
                 obtain rfl := ahp579.1 rfl
                 have Fhp579 := sf_fr_tr Fhp20 (sf_fr_wider (W := [(11, 4, 4), (11, 11, 18), (11, 20, 20), (133, 0, 119), (135, 0, 0), (137, 0, 3)]) rfl fhp579)
                 have h580 : sf_rd hp579 72 1 = some z575.toInt := (fhp579.2.2.1 _ (bs_R.uq Hhp20 (g := 133) (p := 72) rfl).1 _ (by rw [(bs_R.uq Hhp20 (g := 133) (p := 72) rfl).2]; rfl)).trans hz575
                 refine (show Ev _ 135 ([some (.ref 69), some (.int z575), none, none], [], (0, 0), hp579) _ from ?_)
                 have K581 := (RK_next Hhp20 fhp579 rfl rfl rfl xhp579 K23).1
                 have R582 := RES_fr Hhp20 fhp579 rfl R25
                 have S583 := SR_fr Hhp20 fhp579 rfl rfl rfl rfl S24
                 refine Ev.step (j := 136) (s' := ([some (.ref 69), some (.int z575), none, none], [.ref 69], (0, 0), hp579)) rfl rfl ?_
                 exact by
                  refine bs_lit (k := 20) rfl rfl fun z584 hz584 => ?_
                  refine Ev.step (j := 139) (s' := ([some (.ref 69), some (.int z575), none, none], [.int z575, .int z584, .ref 69], (0, 0), hp579)) rfl rfl ?_
                  first | (refine bs_add rfl (by omega) (by omega) fun z585 hz585 => ?_) | (refine bs_any rfl fun z585 => ?_)
                  have rz585 := n_range z585
                  refine bs_callx (K := kq_X11_fresh_v) [.ref 69, .int z585] [] rfl ce_X11_fresh_v Hhp579 rfl rfl rfl (bs_rcv (g := 11) Hhp579 (bs_R.uq Hhp579 (g := 11) rfl) (by decide) rfl) rfl ?_ (sf_S_cons (sf_s1 (x := z585.toInt) rfl (by omega) (by omega)) (sf_S_nil)) fun r586 hp587 thp587 Hhp587 fhp587 ahp587 php587 xhp587 => ?_
                  · intro q k h
                    match q, h with
                    | 0, h => cases h; exact bs_jR (bs_R.uq Hhp579 (g := 11) rfl)
                    | 1, h => cases h; exact sf_j0
                    | q + 2, h => cases h
                  obtain ⟨z588, rfl⟩ := bs_anI ahp587
                  have rgz588 := n_range z588
                  have Fhp587 := sf_fr_tr Fhp579 (sf_fr_wider (W := [(11, 4, 4), (11, 11, 18), (11, 20, 20), (133, 0, 119), (135, 0, 0), (137, 0, 3)]) rfl fhp587)
                  have h589 : sf_rd hp587 72 1 = some z575.toInt := (fhp587.2.2.1 _ (bs_R.uq Hhp579 (g := 133) (p := 72) rfl).1 _ (by rw [(bs_R.uq Hhp579 (g := 133) (p := 72) rfl).2]; rfl)).trans h580
                  obtain ⟨uz588, vz588⟩ := bs_s1 (x := z588.toInt) rfl (php587 _ (List.mem_of_getElem? (i := 0) rfl))
                  refine (show Ev _ 143 ([some (.ref 69), some (.int z575), none, none], [.int z588], (0, 0), hp587) _ from ?_)
                  obtain ⟨q590, rq590, X591⟩ := xhp587 _ s B n lim (i + 1) rfl S583 R582 K581
                  obtain rfl := Value.int.inj (Option.some.inj rq590)
                  refine bs_ifeq rfl (fun c592 => ?_) (fun c592 => ?_)
                  · skip
                    have c593 : z588.toInt = 0 := by omega
                    refine bs_lit (k := 0) rfl rfl fun z594 hz594 => ?_
                    exact bs_zret rfl rfl (by omega) (by omega) (by rw [hQ]; exact ⟨thp587, Hhp587, Fhp587, bs_an0, sf_S_cons (sf_s1 (x := z594.toInt) rfl (by omega) (by omega)) (sf_S_nil), (fun _ => by
                            skip
                            rw [lnx_man TG]
                            rw [show lnMan (tok B n lim) s i = _ from if_neg G8]
                            rcases X591.resolve_left (fun h => absurd h.1 (by omega)) with ⟨Y0, P1, ⟨P2, P3⟩ | ⟨⟨P2, P4⟩, P3⟩⟩
                            · rw [lnew_1 P2]
                              exact RRES_bad ⟨z594, rfl, by omega⟩ P3 P1
                            · rw [lnew_3 P2 P4]
                              exact RRES_bad ⟨z594, rfl, by omega⟩ P3 P1)⟩)
                  · skip
                    obtain ⟨F0, F1, F2, F3, F4, F5⟩ := X591.resolve_right (fun h => absurd h.1 (by omega))
                    refine Ev.step (j := 147) (s' := ([some (.ref 69), some (.int z575), none, none], [.ref 69], (0, 0), hp587)) rfl rfl ?_
                    exact by
                     refine bs_lit (k := 52) rfl rfl fun z595 hz595 => ?_
                     refine Ev.step (j := 150) (s' := ([some (.ref 69), some (.int z575), none, none], [.int z575, .int z595, .ref 69], (0, 0), hp587)) rfl rfl ?_
                     first | (refine bs_add rfl (by omega) (by omega) fun z596 hz596 => ?_) | (refine bs_any rfl fun z596 => ?_)
                     have rz596 := n_range z596
                     refine bs_lit (k := 0) rfl rfl fun z597 hz597 => ?_
                     refine bs_lit (k := 1) rfl rfl fun z598 hz598 => ?_
                     refine bs_callx (K := kq_X11_puts_v1) [.ref 69, .int z596, .int z597, .int z598] [] rfl ce_X11_puts_v1 Hhp587 rfl rfl rfl (bs_rcv (g := 11) Hhp587 (bs_R.uq Hhp587 (g := 11) rfl) (by decide) rfl) rfl ?_ (sf_S_cons (sf_s1 (x := z596.toInt) rfl (by omega) (by omega)) (sf_S_cons (sf_s1 (x := z597.toInt) rfl (by omega) (by omega)) (sf_S_cons (sf_s1 (x := z598.toInt) rfl (by omega) (by omega)) (sf_S_nil)))) fun r599 hp600 thp600 Hhp600 fhp600 ahp600 php600 xhp600 => ?_
                     · intro q k h
                       match q, h with
                       | 0, h => cases h; exact bs_jR (bs_R.uq Hhp587 (g := 11) rfl)
                       | 1, h => cases h; exact sf_j0
                       | 2, h => cases h; exact sf_j0
                       | 3, h => cases h; exact sf_j0
                       | q + 4, h => cases h
                     obtain ⟨z601, rfl⟩ := bs_anI ahp600
                     have rgz601 := n_range z601
                     have Fhp600 := sf_fr_tr Fhp587 (sf_fr_wider (W := [(11, 4, 4), (11, 11, 18), (11, 20, 20), (133, 0, 119), (135, 0, 0), (137, 0, 3)]) rfl fhp600)
                     have h602 : sf_rd hp600 72 1 = some z575.toInt := (fhp600.2.2.1 _ (bs_R.uq Hhp587 (g := 133) (p := 72) rfl).1 _ (by rw [(bs_R.uq Hhp587 (g := 133) (p := 72) rfl).2]; rfl)).trans h589
                     obtain ⟨uz601, vz601⟩ := bs_s1 (x := z601.toInt) rfl (php600 _ (List.mem_of_getElem? (i := 0) rfl))
                     refine (show Ev _ 156 ([some (.ref 69), some (.int z575), none, none], [.int z601], (0, 0), hp600) _ from ?_)
                     obtain ⟨q603, rq603, X604⟩ := xhp600 _ _ _ B n lim (i + 2) rfl F3
                     obtain rfl := Value.int.inj (Option.some.inj rq603)
                     refine bs_ifne rfl (fun c605 => ?_) (fun c605 => ?_)
                     · skip
                       refine Ev.step (j := 162) (s' := ([some (.ref 69), some (.int z575), none, none], [.ref 69], (0, 0), hp600)) rfl rfl ?_
                       exact by
                        refine bs_getU (g := 11) (g1 := 133) rfl rfl Hhp600 (bs_R.uq Hhp600 (g := 11) rfl) (by decide) rfl rfl ?_
                        refine bs_lit (k := 1) rfl rfl fun z606 hz606 => ?_
                        refine Ev.step (j := 167) (s' := ([some (.ref 69), some (.int z575), none, none], [.int z606, .ref 72, .int z606, .ref 72], (0, 0), hp600)) rfl rfl ?_
                        refine bs_ld (g := 133) 1 1 (0, 8) rfl Hhp600 (bs_R.uq Hhp600 (g := 133) rfl) (by decide) rfl (by decide) (by decide) rfl (by decide) (by omega) (by omega) fun z607 hz607 lz607 gz607 => ?_
                        dsimp only at lz607 gz607
                        replace hz607 := bs_at hz607 (show z606.toInt.toNat = 1 by omega)
                        have e608 : z607.toInt = z575.toInt := Option.some.inj (hz607.symm.trans h602)
                        refine bs_lit (k := 1) rfl rfl fun z609 hz609 => ?_
                        first | (refine bs_add rfl (by omega) (by omega) fun z610 hz610 => ?_) | (refine bs_any rfl fun z610 => ?_)
                        have rz610 := n_range z610
                        refine bs_stv (W := [(133, 1, 1)]) (g := 133) 1 1 (0, 8) rfl Hhp600 (bs_R.uq Hhp600 (g := 133) rfl) (by decide) rfl rfl (by decide) rfl rfl (by omega) (by omega) (by dsimp only; omega) (by dsimp only; omega) fun hp611 Hhp611 fhp611 rhp611 ehp611 qhp611 nhp611 => ?_
                        replace rhp611 := bs_at rhp611 (show z606.toInt.toNat = 1 by omega)
                        have Fhp611 := sf_fr_tr Fhp600 (sf_fr_wider (W := [(11, 4, 4), (11, 11, 18), (11, 20, 20), (133, 0, 119), (135, 0, 0), (137, 0, 3)]) rfl fhp611)
                        refine bs_lit (k := 1) rfl rfl fun z612 hz612 => ?_
                        exact bs_zret rfl rfl (by omega) (by omega) (by rw [hQ]; exact ⟨thp600, Hhp611, Fhp611, bs_an0, sf_S_cons (sf_s1 (x := z612.toInt) rfl (by omega) (by omega)) (sf_S_nil), (fun _ => by
                                skip
                                rw [lnx_man TG]
                                rw [show lnMan (tok B n lim) s i = _ from if_neg G8]
                                obtain ⟨Y0, Y1, Y2, Y3, Y4, Y5⟩ := X591.resolve_right (fun h => absurd h.1 (by omega))
                                rw [lnew_o Y1 Y2]
                                obtain ⟨V0, V1, V2, V3, V4, V5, V6⟩ := X604.resolve_right (fun h => absurd h.1 (by omega))
                                rw [lnum_o V1 (by omega) (by omega)]
                                have EP : z585.toInt.toNat = 20 + (s.h 1).toNat := by omega
                                rw [EP] at Y4 Y5
                                have EQ : z596.toInt.toNat = 52 + (s.h 1).toNat := by omega
                                rw [EQ] at V4 V5
                                exact RRES_ok ⟨z612, rfl, by omega⟩ (SR_man S583 (by omega) (by omega) (by omega) (by omega) (rhp611.trans (congrArg some (by omega))) ((ehp611 _ _ (Or.inr (by omega))).trans V4) (fun q h1 h2 => (ehp611 _ _ (Or.inr (by omega))).trans ((V5 q h2).trans ((fhp587.2.2.1 _ (bs_R.uq Hhp579 (g := 133) (p := 72) rfl).1 _ (by rw [(bs_R.uq Hhp579 (g := 133) (p := 72) rfl).2]; rfl))))) (((ehp611 _ _ (Or.inl (by decide))).trans ((fhp600.2.2.1 _ (bs_R.uq Hhp587 (g := 11) (p := 69) rfl).1 _ (by rw [(bs_R.uq Hhp587 (g := 11) (p := 69) rfl).2]; rfl)).trans (fhp587.2.2.1 _ (bs_R.uq Hhp579 (g := 11) (p := 69) rfl).1 _ (by rw [(bs_R.uq Hhp579 (g := 11) (p := 69) rfl).2]; rfl))))) (((fhp611.2.2.2.1 _ (bs_R.uq Hhp600 (g := 137) rfl).1 (by rw [(bs_R.uq Hhp600 (g := 137) rfl).2]; rfl)).trans ((fhp600.2.2.2.1 _ (bs_R.uq Hhp587 (g := 137) (p := 76) rfl).1 (by rw [(bs_R.uq Hhp587 (g := 137) (p := 76) rfl).2]; rfl)).trans (fhp587.2.2.2.1 _ (bs_R.uq Hhp579 (g := 137) (p := 76) rfl).1 (by rw [(bs_R.uq Hhp579 (g := 137) (p := 76) rfl).2]; rfl))))) (by obtain ⟨wq, g1, g2⟩ := Y4; exact ⟨wq, (((nhp611 _ _).trans (sf_rl_cell (fhp600.2.2.2.1 _ (bs_R.uq Hhp587 (g := 135) (p := 74) rfl).1 (by rw [(bs_R.uq Hhp587 (g := 135) (p := 74) rfl).2]; rfl))))).trans g1, g2⟩) (fun q hq => (((nhp611 _ _).trans (sf_rl_cell (fhp600.2.2.2.1 _ (bs_R.uq Hhp587 (g := 135) (p := 74) rfl).1 (by rw [(bs_R.uq Hhp587 (g := 135) (p := 74) rfl).2]; rfl))))).trans (Y5 q hq))) (RK_keep Hhp600 fhp611 rfl rfl (nhp611 _ _) V6))⟩)
                     · skip
                       have c613 : z601.toInt = 0 := by omega
                       refine bs_lit (k := 0) rfl rfl fun z614 hz614 => ?_
                       exact bs_zret rfl rfl (by omega) (by omega) (by rw [hQ]; exact ⟨thp600, Hhp600, Fhp600, bs_an0, sf_S_cons (sf_s1 (x := z614.toInt) rfl (by omega) (by omega)) (sf_S_nil), (fun _ => by
                               skip
                               rw [lnx_man TG]
                               rw [show lnMan (tok B n lim) s i = _ from if_neg G8]
                               obtain ⟨Y0, Y1, Y2, Y3, Y4, Y5⟩ := X591.resolve_right (fun h => absurd h.1 (by omega))
                               rw [lnew_o Y1 Y2]
                               rcases X604.resolve_left (fun h => absurd h.1 (by omega)) with ⟨Y0, P1, ⟨P2, P3⟩ | ⟨⟨P2, P4⟩, P3⟩⟩
                               · rw [lnum_1 P2]
                                 exact RRES_bad ⟨z614, rfl, by omega⟩ P3 P1
                               · rw [lnum_2 P2 (by omega)]
                                 exact RRES_bad ⟨z614, rfl, by omega⟩ P3 P1)⟩)
               · skip
                 have c615 : z575.toInt = 8 := by omega
                 refine Ev.step (j := 126) (s' := ([some (.ref 69), some (.int z575), none, none], [.ref 69], (0, 0), hp20)) rfl rfl ?_
                 exact by
                  refine bs_lit (k := 4) rfl rfl fun z616 hz616 => ?_
                  refine Ev.inl (L := L_X11_bad) (nL := 2) rfl (bs_rcv (g := 11) Hhp20 (bs_R.uq Hhp20 (g := 11) rfl) (by decide) rfl) rfl (Nat.le_of_ble_eq_true rfl) ?_
                  generalize hQ617 : (fun (o : ab_O) => Ev _ _ _ _) = Q617
                  refine (show Ev (ab_T L_X11_bad) 0 ([some (.ref 69), some (.int z616)], [], (0, 0), hp20) Q617 from ?_)
                  refine Ev.step (j := 1) (s' := ([some (.ref 69), some (.int z616)], [.ref 69], (0, 0), hp20)) rfl rfl ?_
                  refine Ev.step (j := 2) (s' := ([some (.ref 69), some (.int z616)], [.int z616, .ref 69], (0, 0), hp20)) rfl rfl ?_
                  refine bs_putIv (W := [(11, 15, 15)]) (g := 11) rfl rfl Hhp20 (bs_R.uq Hhp20 (g := 11) rfl) (by decide) rfl rfl rfl rfl (Or.inl rfl) (by omega) (by omega) fun hp618 Hhp618 fhp618 rhp618 ehp618 qhp618 nhp618 => ?_
                  have Fhp618 := sf_fr_tr Fhp20 (sf_fr_wider (W := [(11, 4, 4), (11, 11, 18), (11, 20, 20), (133, 0, 119), (135, 0, 0), (137, 0, 3)]) rfl fhp618)
                  have h619 : sf_rd hp618 72 1 = some z575.toInt := (ehp618 _ _ (Or.inl (by decide))).trans hz575
                  refine Ev.step (j := 6) (s' := ([some (.ref 69), some (.int z616)], [.ref 69], (0, 0), hp618)) rfl rfl ?_
                  exact by
                   refine Ev.step (j := 7) (s' := ([some (.ref 69), some (.int z616)], [.ref 69, .ref 69], (0, 0), hp618)) rfl rfl ?_
                   refine bs_getI 11 rfl rfl rfl Hhp618 (bs_R.uq Hhp618 (g := 11) rfl) (by decide) rfl fun z620 hz620 lz620 gz620 => ?_
                   refine bs_putIv (W := [(11, 16, 16)]) (g := 11) rfl rfl Hhp618 (bs_R.uq Hhp618 (g := 11) rfl) (by decide) rfl rfl rfl rfl (Or.inl rfl) (by omega) (by omega) fun hp621 Hhp621 fhp621 rhp621 ehp621 qhp621 nhp621 => ?_
                   have Fhp621 := sf_fr_tr Fhp618 (sf_fr_wider (W := [(11, 4, 4), (11, 11, 18), (11, 20, 20), (133, 0, 119), (135, 0, 0), (137, 0, 3)]) rfl fhp621)
                   have h622 : sf_rd hp621 72 1 = some z575.toInt := (ehp621 _ _ (Or.inl (by decide))).trans h619
                   have h623 : sf_rd hp621 69 15 = some z616.toInt := (ehp621 _ _ (Or.inr (by omega))).trans rhp618
                   have h624 : sf_rd hp621 69 12 = some z620.toInt := (ehp621 _ _ (Or.inr (by omega))).trans hz620
                   refine bs_lit (k := 0) rfl rfl fun z625 hz625 => ?_
                   exact by
                    refine bs_zret rfl rfl (by omega) (by omega) ?_
                    rw [← hQ617]
                    refine (show Ev _ 130 ([some (.ref 69), some (.int z575), none, none], [.int z625], (0, 0), hp621) _ from ?_)
                    exact bs_zret rfl rfl (by omega) (by omega) (by rw [hQ]; exact ⟨thp20, Hhp621, Fhp621, bs_an0, sf_S_cons (sf_s1 (x := z625.toInt) rfl (by omega) (by omega)) (sf_S_nil), (fun _ => by
                            skip
                            rw [lnx_man TG]
                            rw [show lnMan (tok B n lim) s i = _ from if_pos (by omega)]
                            have PL : z620.toInt = (tok B n lim i).pl := Option.some.inj (hz620.symm.trans (((ehp618 _ _ (Or.inr (by omega)))).trans (RK_pl K23)))
                            exact RRES_bad ⟨z625, rfl, by omega⟩ (h623.trans (congrArg some (by omega))) (rhp621.trans (congrArg some PL)))⟩)
        · skip
          have TG : (tok B n lim i).k = 65 := by omega
          refine Ev.step (j := 52) (s' := ([some (.ref 69), none, none, none], [.ref 69], (0, 0), hp11)) rfl rfl ?_
          exact by
           refine bs_getU (g := 11) (g1 := 133) rfl rfl Hhp11 (bs_R.uq Hhp11 (g := 11) rfl) (by decide) rfl rfl ?_
           refine bs_lit (k := 0) rfl rfl fun z626 hz626 => ?_
           refine bs_ld (g := 133) 0 0 (0, 6) rfl Hhp11 (bs_R.uq Hhp11 (g := 133) rfl) (by decide) rfl (by decide) (by decide) rfl (by decide) (by omega) (by omega) fun z627 hz627 lz627 gz627 => ?_
           dsimp only at lz627 gz627
           replace hz627 := bs_at hz627 (show z626.toInt.toNat = 0 by omega)
           have c0_z627 : z627.toInt = s.h 0 := Option.some.inj (hz627.symm.trans (S15.1 0 (by decide)))
           refine bs_lit (k := 6) rfl rfl fun z628 hz628 => ?_
           refine bs_ne rfl (fun c629 => ?_) (fun c629 => ?_)
           · skip
             have G6 : ¬ 6 ≤ s.h 0 := by omega
             refine Ev.step (j := 69) (s' := ([some (.ref 69), none, none, none], [.ref 69], (0, 0), hp11)) rfl rfl ?_
             exact by
              refine bs_callx (K := kq_X11_next_v) [.ref 69] [] rfl ce_X11_next_v Hhp11 rfl rfl rfl (bs_rcv (g := 11) Hhp11 (bs_R.uq Hhp11 (g := 11) rfl) (by decide) rfl) rfl ?_ (sf_S_nil) fun r630 hp631 thp631 Hhp631 fhp631 ahp631 php631 xhp631 => ?_
              · intro q k h
                match q, h with
                | 0, h => cases h; exact bs_jR (bs_R.uq Hhp11 (g := 11) rfl)
                | q + 1, h => cases h
              obtain rfl := ahp631.1 rfl
              have Fhp631 := sf_fr_tr Fhp11 (sf_fr_wider (W := [(11, 4, 4), (11, 11, 18), (11, 20, 20), (133, 0, 119), (135, 0, 0), (137, 0, 3)]) rfl fhp631)
              have h632 : sf_rd hp631 72 0 = some z627.toInt := (fhp631.2.2.1 _ (bs_R.uq Hhp11 (g := 133) (p := 72) rfl).1 _ (by rw [(bs_R.uq Hhp11 (g := 133) (p := 72) rfl).2]; rfl)).trans hz627
              refine (show Ev _ 72 ([some (.ref 69), none, none, none], [], (0, 0), hp631) _ from ?_)
              have K633 := (RK_next Hhp11 fhp631 rfl rfl rfl xhp631 K14).1
              have R634 := RES_fr Hhp11 fhp631 rfl R16
              have S635 := SR_fr Hhp11 fhp631 rfl rfl rfl rfl S15
              refine Ev.step (j := 73) (s' := ([some (.ref 69), none, none, none], [.ref 69], (0, 0), hp631)) rfl rfl ?_
              exact by
               refine bs_lit (k := 14) rfl rfl fun z636 hz636 => ?_
               refine Ev.step (j := 76) (s' := ([some (.ref 69), none, none, none], [.ref 69, .int z636, .ref 69], (0, 0), hp631)) rfl rfl ?_
               refine bs_getU (g := 11) (g1 := 133) rfl rfl Hhp631 (bs_R.uq Hhp631 (g := 11) rfl) (by decide) rfl rfl ?_
               refine bs_lit (k := 0) rfl rfl fun z637 hz637 => ?_
               refine bs_ld (g := 133) 0 0 (0, 6) rfl Hhp631 (bs_R.uq Hhp631 (g := 133) rfl) (by decide) rfl (by decide) (by decide) rfl (by decide) (by omega) (by omega) fun z638 hz638 lz638 gz638 => ?_
               dsimp only at lz638 gz638
               replace hz638 := bs_at hz638 (show z637.toInt.toNat = 0 by omega)
               have e639 : z638.toInt = z627.toInt := Option.some.inj (hz638.symm.trans h632)
               have c0_z627 : z627.toInt = s.h 0 := Option.some.inj (h632.symm.trans (S635.1 0 (by decide)))
               first | (refine bs_add rfl (by omega) (by omega) fun z640 hz640 => ?_) | (refine bs_any rfl fun z640 => ?_)
               have rz640 := n_range z640
               refine bs_callx (K := kq_X11_fresh_v) [.ref 69, .int z640] [] rfl ce_X11_fresh_v Hhp631 rfl rfl rfl (bs_rcv (g := 11) Hhp631 (bs_R.uq Hhp631 (g := 11) rfl) (by decide) rfl) rfl ?_ (sf_S_cons (sf_s1 (x := z640.toInt) rfl (by omega) (by omega)) (sf_S_nil)) fun r641 hp642 thp642 Hhp642 fhp642 ahp642 php642 xhp642 => ?_
               · intro q k h
                 match q, h with
                 | 0, h => cases h; exact bs_jR (bs_R.uq Hhp631 (g := 11) rfl)
                 | 1, h => cases h; exact sf_j0
                 | q + 2, h => cases h
               obtain ⟨z643, rfl⟩ := bs_anI ahp642
               have rgz643 := n_range z643
               have Fhp642 := sf_fr_tr Fhp631 (sf_fr_wider (W := [(11, 4, 4), (11, 11, 18), (11, 20, 20), (133, 0, 119), (135, 0, 0), (137, 0, 3)]) rfl fhp642)
               have h644 : sf_rd hp642 72 0 = some z627.toInt := (fhp642.2.2.1 _ (bs_R.uq Hhp631 (g := 133) (p := 72) rfl).1 _ (by rw [(bs_R.uq Hhp631 (g := 133) (p := 72) rfl).2]; rfl)).trans h632
               obtain ⟨uz643, vz643⟩ := bs_s1 (x := z643.toInt) rfl (php642 _ (List.mem_of_getElem? (i := 0) rfl))
               refine (show Ev _ 85 ([some (.ref 69), none, none, none], [.int z643], (0, 0), hp642) _ from ?_)
               obtain ⟨q645, rq645, X646⟩ := xhp642 _ s B n lim (i + 1) rfl S635 R634 K633
               obtain rfl := Value.int.inj (Option.some.inj rq645)
               refine bs_ifne rfl (fun c647 => ?_) (fun c647 => ?_)
               · skip
                 refine Ev.step (j := 91) (s' := ([some (.ref 69), none, none, none], [.ref 69], (0, 0), hp642)) rfl rfl ?_
                 exact by
                  refine bs_getU (g := 11) (g1 := 133) rfl rfl Hhp642 (bs_R.uq Hhp642 (g := 11) rfl) (by decide) rfl rfl ?_
                  refine bs_lit (k := 0) rfl rfl fun z648 hz648 => ?_
                  refine Ev.step (j := 96) (s' := ([some (.ref 69), none, none, none], [.int z648, .ref 72, .int z648, .ref 72], (0, 0), hp642)) rfl rfl ?_
                  refine bs_ld (g := 133) 0 0 (0, 6) rfl Hhp642 (bs_R.uq Hhp642 (g := 133) rfl) (by decide) rfl (by decide) (by decide) rfl (by decide) (by omega) (by omega) fun z649 hz649 lz649 gz649 => ?_
                  dsimp only at lz649 gz649
                  replace hz649 := bs_at hz649 (show z648.toInt.toNat = 0 by omega)
                  have e650 : z649.toInt = z627.toInt := Option.some.inj (hz649.symm.trans h644)
                  refine bs_lit (k := 1) rfl rfl fun z651 hz651 => ?_
                  first | (refine bs_add rfl (by omega) (by omega) fun z652 hz652 => ?_) | (refine bs_any rfl fun z652 => ?_)
                  have rz652 := n_range z652
                  refine bs_stv (W := [(133, 0, 0)]) (g := 133) 0 0 (0, 6) rfl Hhp642 (bs_R.uq Hhp642 (g := 133) rfl) (by decide) rfl rfl (by decide) rfl rfl (by omega) (by omega) (by dsimp only; omega) (by dsimp only; omega) fun hp653 Hhp653 fhp653 rhp653 ehp653 qhp653 nhp653 => ?_
                  replace rhp653 := bs_at rhp653 (show z648.toInt.toNat = 0 by omega)
                  have Fhp653 := sf_fr_tr Fhp642 (sf_fr_wider (W := [(11, 4, 4), (11, 11, 18), (11, 20, 20), (133, 0, 119), (135, 0, 0), (137, 0, 3)]) rfl fhp653)
                  refine bs_lit (k := 1) rfl rfl fun z654 hz654 => ?_
                  exact bs_zret rfl rfl (by omega) (by omega) (by rw [hQ]; exact ⟨thp642, Hhp653, Fhp653, bs_an0, sf_S_cons (sf_s1 (x := z654.toInt) rfl (by omega) (by omega)) (sf_S_nil), (fun _ => by
                          skip
                          rw [lnx_good TG]
                          rw [show lnGood (tok B n lim) s i = _ from if_neg G6]
                          obtain ⟨Y0, Y1, Y2, Y3, Y4, Y5⟩ := X646.resolve_right (fun h => absurd h.1 (by omega))
                          rw [lnew_o Y1 Y2]
                          have EP : z640.toInt.toNat = 14 + (s.h 0).toNat := by omega
                          rw [EP] at Y4 Y5
                          exact RRES_ok ⟨z654, rfl, by omega⟩ (SR_good S635 (by omega) (by omega) (rhp653.trans (congrArg some (by omega))) (fun q hq => ((ehp653 _ _ (Or.inr (by omega))).trans (fhp642.2.2.1 _ (bs_R.uq Hhp631 (g := 133) (p := 72) rfl).1 _ (by rw [(bs_R.uq Hhp631 (g := 133) (p := 72) rfl).2]; rfl)))) (((ehp653 _ _ (Or.inl (by decide))).trans (fhp642.2.2.1 _ (bs_R.uq Hhp631 (g := 11) (p := 69) rfl).1 _ (by rw [(bs_R.uq Hhp631 (g := 11) (p := 69) rfl).2]; rfl)))) (((fhp653.2.2.2.1 _ (bs_R.uq Hhp642 (g := 137) rfl).1 (by rw [(bs_R.uq Hhp642 (g := 137) rfl).2]; rfl)).trans (fhp642.2.2.2.1 _ (bs_R.uq Hhp631 (g := 137) (p := 76) rfl).1 (by rw [(bs_R.uq Hhp631 (g := 137) (p := 76) rfl).2]; rfl)))) (by obtain ⟨wq, g1, g2⟩ := Y4; exact ⟨wq, (nhp653 _ _).trans g1, g2⟩) (fun q hq => (nhp653 _ _).trans (Y5 q hq))) (RK_keep Hhp642 fhp653 rfl rfl (nhp653 _ _) Y3))⟩)
               · skip
                 have c655 : z643.toInt = 0 := by omega
                 refine bs_lit (k := 0) rfl rfl fun z656 hz656 => ?_
                 exact bs_zret rfl rfl (by omega) (by omega) (by rw [hQ]; exact ⟨thp642, Hhp642, Fhp642, bs_an0, sf_S_cons (sf_s1 (x := z656.toInt) rfl (by omega) (by omega)) (sf_S_nil), (fun _ => by
                         skip
                         rw [lnx_good TG]
                         rw [show lnGood (tok B n lim) s i = _ from if_neg G6]
                         rcases X646.resolve_left (fun h => absurd h.1 (by omega)) with ⟨Y0, P1, ⟨P2, P3⟩ | ⟨⟨P2, P4⟩, P3⟩⟩
                         · rw [lnew_1 P2]
                           exact RRES_bad ⟨z656, rfl, by omega⟩ P3 P1
                         · rw [lnew_3 P2 P4]
                           exact RRES_bad ⟨z656, rfl, by omega⟩ P3 P1)⟩)
           · skip
             have c657 : z627.toInt = 6 := by omega
             refine Ev.step (j := 63) (s' := ([some (.ref 69), none, none, none], [.ref 69], (0, 0), hp11)) rfl rfl ?_
             exact by
              refine bs_lit (k := 4) rfl rfl fun z658 hz658 => ?_
              refine Ev.inl (L := L_X11_bad) (nL := 2) rfl (bs_rcv (g := 11) Hhp11 (bs_R.uq Hhp11 (g := 11) rfl) (by decide) rfl) rfl (Nat.le_of_ble_eq_true rfl) ?_
              generalize hQ659 : (fun (o : ab_O) => Ev _ _ _ _) = Q659
              refine (show Ev (ab_T L_X11_bad) 0 ([some (.ref 69), some (.int z658)], [], (0, 0), hp11) Q659 from ?_)
              refine Ev.step (j := 1) (s' := ([some (.ref 69), some (.int z658)], [.ref 69], (0, 0), hp11)) rfl rfl ?_
              refine Ev.step (j := 2) (s' := ([some (.ref 69), some (.int z658)], [.int z658, .ref 69], (0, 0), hp11)) rfl rfl ?_
              refine bs_putIv (W := [(11, 15, 15)]) (g := 11) rfl rfl Hhp11 (bs_R.uq Hhp11 (g := 11) rfl) (by decide) rfl rfl rfl rfl (Or.inl rfl) (by omega) (by omega) fun hp660 Hhp660 fhp660 rhp660 ehp660 qhp660 nhp660 => ?_
              have Fhp660 := sf_fr_tr Fhp11 (sf_fr_wider (W := [(11, 4, 4), (11, 11, 18), (11, 20, 20), (133, 0, 119), (135, 0, 0), (137, 0, 3)]) rfl fhp660)
              have h661 : sf_rd hp660 72 0 = some z627.toInt := (ehp660 _ _ (Or.inl (by decide))).trans hz627
              refine Ev.step (j := 6) (s' := ([some (.ref 69), some (.int z658)], [.ref 69], (0, 0), hp660)) rfl rfl ?_
              exact by
               refine Ev.step (j := 7) (s' := ([some (.ref 69), some (.int z658)], [.ref 69, .ref 69], (0, 0), hp660)) rfl rfl ?_
               refine bs_getI 11 rfl rfl rfl Hhp660 (bs_R.uq Hhp660 (g := 11) rfl) (by decide) rfl fun z662 hz662 lz662 gz662 => ?_
               refine bs_putIv (W := [(11, 16, 16)]) (g := 11) rfl rfl Hhp660 (bs_R.uq Hhp660 (g := 11) rfl) (by decide) rfl rfl rfl rfl (Or.inl rfl) (by omega) (by omega) fun hp663 Hhp663 fhp663 rhp663 ehp663 qhp663 nhp663 => ?_
               have Fhp663 := sf_fr_tr Fhp660 (sf_fr_wider (W := [(11, 4, 4), (11, 11, 18), (11, 20, 20), (133, 0, 119), (135, 0, 0), (137, 0, 3)]) rfl fhp663)
               have h664 : sf_rd hp663 72 0 = some z627.toInt := (ehp663 _ _ (Or.inl (by decide))).trans h661
               have h665 : sf_rd hp663 69 15 = some z658.toInt := (ehp663 _ _ (Or.inr (by omega))).trans rhp660
               have h666 : sf_rd hp663 69 12 = some z662.toInt := (ehp663 _ _ (Or.inr (by omega))).trans hz662
               refine bs_lit (k := 0) rfl rfl fun z667 hz667 => ?_
               exact by
                refine bs_zret rfl rfl (by omega) (by omega) ?_
                rw [← hQ659]
                refine (show Ev _ 67 ([some (.ref 69), none, none, none], [.int z667], (0, 0), hp663) _ from ?_)
                exact bs_zret rfl rfl (by omega) (by omega) (by rw [hQ]; exact ⟨thp11, Hhp663, Fhp663, bs_an0, sf_S_cons (sf_s1 (x := z667.toInt) rfl (by omega) (by omega)) (sf_S_nil), (fun _ => by
                        skip
                        rw [lnx_good TG]
                        rw [show lnGood (tok B n lim) s i = _ from if_pos (by omega)]
                        have PL : z662.toInt = (tok B n lim i).pl := Option.some.inj (hz662.symm.trans (((ehp660 _ _ (Or.inr (by omega)))).trans (RK_pl K14)))
                        exact RRES_bad ⟨z667, rfl, by omega⟩ (h665.trans (congrArg some (by omega))) (rhp663.trans (congrArg some PL)))⟩)
     · skip
       refine Ev.step (j := 11) (s' := ([some (.ref 69), none, none, none], [.ref 69], (0, 0), hp2)) rfl rfl ?_
       exact by
        refine bs_getI 11 rfl rfl rfl Hhp2 (bs_R.uq Hhp2 (g := 11) rfl) (by decide) rfl fun z668 hz668 lz668 gz668 => ?_
        refine bs_ifeq rfl (fun c669 => ?_) (fun c669 => ?_)
        · skip
          have c670 : z668.toInt = 0 := by omega
          refine Ev.step (j := 24) (s' := ([some (.ref 69), none, none, none], [.ref 69], (0, 0), hp2)) rfl rfl ?_
          refine bs_lit (k := 1) rfl rfl fun z671 hz671 => ?_
          refine bs_putIv (W := [(11, 20, 20)]) (g := 11) rfl rfl Hhp2 (bs_R.uq Hhp2 (g := 11) rfl) (by decide) rfl rfl rfl rfl (Or.inr ⟨rfl, by omega, by omega⟩) (by omega) (by omega) fun hp672 Hhp672 fhp672 rhp672 ehp672 qhp672 nhp672 => ?_
          have Fhp672 := sf_fr_tr Fhp2 (sf_fr_wider (W := [(11, 4, 4), (11, 11, 18), (11, 20, 20), (133, 0, 119), (135, 0, 0), (137, 0, 3)]) rfl fhp672)
          have K673 := RK_keep Hhp2 fhp672 rfl rfl (nhp672 _ _) K5
          have R674 := RES_fr Hhp2 fhp672 rfl R7
          refine Ev.step (j := 29) (s' := ([some (.ref 69), none, none, none], [.ref 69], (0, 0), hp672)) rfl rfl ?_
          exact by
           refine bs_callx (K := kq_X11_next_v) [.ref 69] [] rfl ce_X11_next_v Hhp672 rfl rfl rfl (bs_rcv (g := 11) Hhp672 (bs_R.uq Hhp672 (g := 11) rfl) (by decide) rfl) rfl ?_ (sf_S_nil) fun r675 hp676 thp676 Hhp676 fhp676 ahp676 php676 xhp676 => ?_
           · intro q k h
             match q, h with
             | 0, h => cases h; exact bs_jR (bs_R.uq Hhp672 (g := 11) rfl)
             | q + 1, h => cases h
           obtain rfl := ahp676.1 rfl
           have Fhp676 := sf_fr_tr Fhp672 (sf_fr_wider (W := [(11, 4, 4), (11, 11, 18), (11, 20, 20), (133, 0, 119), (135, 0, 0), (137, 0, 3)]) rfl fhp676)
           have h677 : sf_rd hp676 69 20 = some z671.toInt := (fhp676.2.2.1 _ (bs_R.uq Hhp672 (g := 11) (p := 69) rfl).1 _ (by rw [(bs_R.uq Hhp672 (g := 11) (p := 69) rfl).2]; rfl)).trans rhp672
           refine (show Ev _ 32 ([some (.ref 69), none, none, none], [], (0, 0), hp676) _ from ?_)
           have K678 := (RK_next Hhp672 fhp676 rfl rfl rfl xhp676 K673).1
           have R679 := RES_fr Hhp672 fhp676 rfl R674
           refine Ev.step (j := 33) (s' := ([some (.ref 69), none, none, none], [.ref 69], (0, 0), hp676)) rfl rfl ?_
           exact by
            refine bs_lit (k := 2) rfl rfl fun z680 hz680 => ?_
            refine bs_lit (k := 1) rfl rfl fun z681 hz681 => ?_
            refine bs_lit (k := 40) rfl rfl fun z682 hz682 => ?_
            refine bs_callx (K := kq_X11_puts_v0) [.ref 69, .int z680, .int z681, .int z682] [] rfl ce_X11_puts_v0 Hhp676 rfl rfl rfl (bs_rcv (g := 11) Hhp676 (bs_R.uq Hhp676 (g := 11) rfl) (by decide) rfl) rfl ?_ (sf_S_cons (sf_s1 (x := z680.toInt) rfl (by omega) (by omega)) (sf_S_cons (sf_s1 (x := z681.toInt) rfl (by omega) (by omega)) (sf_S_cons (sf_s1 (x := z682.toInt) rfl (by omega) (by omega)) (sf_S_nil)))) fun r683 hp684 thp684 Hhp684 fhp684 ahp684 php684 xhp684 => ?_
            · intro q k h
              match q, h with
              | 0, h => cases h; exact bs_jR (bs_R.uq Hhp676 (g := 11) rfl)
              | 1, h => cases h; exact sf_j0
              | 2, h => cases h; exact sf_j0
              | 3, h => cases h; exact sf_j0
              | q + 4, h => cases h
            obtain ⟨z685, rfl⟩ := bs_anI ahp684
            have rgz685 := n_range z685
            have Fhp684 := sf_fr_tr Fhp676 (sf_fr_wider (W := [(11, 4, 4), (11, 11, 18), (11, 20, 20), (133, 0, 119), (135, 0, 0), (137, 0, 3)]) rfl fhp684)
            have h686 : sf_rd hp684 69 20 = some z671.toInt := (fhp684.2.2.1 _ (bs_R.uq Hhp676 (g := 11) (p := 69) rfl).1 _ (by rw [(bs_R.uq Hhp676 (g := 11) (p := 69) rfl).2]; rfl)).trans h677
            obtain ⟨uz685, vz685⟩ := bs_s1 (x := z685.toInt) rfl (php684 _ (List.mem_of_getElem? (i := 0) rfl))
            refine (show Ev _ 40 ([some (.ref 69), none, none, none], [.int z685], (0, 0), hp684) _ from ?_)
            obtain ⟨q687, rq687, X688⟩ := xhp684 _ _ _ B n lim (i + 1) rfl K678
            obtain rfl := Value.int.inj (Option.some.inj rq687)
            exact bs_zret rfl rfl (by omega) (by omega) (by rw [hQ]; exact ⟨thp684, Hhp684, Fhp684, bs_an0, sf_S_cons (sf_s1 (x := z685.toInt) rfl (by omega) (by omega)) (sf_S_nil), (fun _ => by
                    skip
                    rw [lnx_load (by omega)]
                    have LE : z668.toInt = cond s.ld 1 0 := Option.some.inj (hz668.symm.trans S6.2.1)
                    have LD : ¬ s.ld = true := fun hl => by rw [hl] at LE; have LE2 : _ = (1 : Int) := LE; omega
                    rw [show lnLoad (tok B n lim) s i = _ from if_neg LD]
                    rcases X688 with ⟨Y0, Y1, Y2, Y3, Y4, Y5, Y6⟩ | ⟨Y0, P1, ⟨P2, P3⟩ | ⟨⟨P2, P4⟩, P3⟩⟩
                    · rw [lnum_o Y1 (by omega) (by omega)]
                      exact RRES_ok ⟨z685, rfl, by omega⟩ (SR_load S6 (bs_at Y4 (by omega)) (fun q hq => (Y5 q (by omega)).trans (((fhp676.2.2.1 _ (bs_R.uq Hhp672 (g := 133) (p := 72) rfl).1 _ (by rw [(bs_R.uq Hhp672 (g := 133) (p := 72) rfl).2]; rfl)).trans (ehp672 _ _ (Or.inl (by decide)))))) (h686.trans (congrArg some (by omega))) (((fhp684.2.2.2.1 _ (bs_R.uq Hhp676 (g := 137) (p := 76) rfl).1 (by rw [(bs_R.uq Hhp676 (g := 137) (p := 76) rfl).2]; rfl)).trans ((fhp676.2.2.2.1 _ (bs_R.uq Hhp672 (g := 137) (p := 76) rfl).1 (by rw [(bs_R.uq Hhp672 (g := 137) (p := 76) rfl).2]; rfl)).trans (fhp672.2.2.2.1 _ (bs_R.uq Hhp2 (g := 137) rfl).1 (by rw [(bs_R.uq Hhp2 (g := 137) rfl).2]; rfl))))) (((fhp684.2.2.2.1 _ (bs_R.uq Hhp676 (g := 135) (p := 74) rfl).1 (by rw [(bs_R.uq Hhp676 (g := 135) (p := 74) rfl).2]; rfl)).trans ((fhp676.2.2.2.1 _ (bs_R.uq Hhp672 (g := 135) (p := 74) rfl).1 (by rw [(bs_R.uq Hhp672 (g := 135) (p := 74) rfl).2]; rfl)).trans (fhp672.2.2.2.1 _ (bs_R.uq Hhp2 (g := 135) rfl).1 (by rw [(bs_R.uq Hhp2 (g := 135) rfl).2]; rfl)))))) Y6
                    · rw [lnum_1 P2]
                      exact RRES_bad ⟨z685, rfl, by omega⟩ P3 P1
                    · rw [lnum_2 P2 (by omega)]
                      exact RRES_bad ⟨z685, rfl, by omega⟩ P3 P1)⟩)
        · skip
          refine Ev.step (j := 18) (s' := ([some (.ref 69), none, none, none], [.ref 69], (0, 0), hp2)) rfl rfl ?_
          exact by
           refine bs_lit (k := 3) rfl rfl fun z689 hz689 => ?_
           refine Ev.inl (L := L_X11_bad) (nL := 2) rfl (bs_rcv (g := 11) Hhp2 (bs_R.uq Hhp2 (g := 11) rfl) (by decide) rfl) rfl (Nat.le_of_ble_eq_true rfl) ?_
           generalize hQ690 : (fun (o : ab_O) => Ev _ _ _ _) = Q690
           refine (show Ev (ab_T L_X11_bad) 0 ([some (.ref 69), some (.int z689)], [], (0, 0), hp2) Q690 from ?_)
           refine Ev.step (j := 1) (s' := ([some (.ref 69), some (.int z689)], [.ref 69], (0, 0), hp2)) rfl rfl ?_
           refine Ev.step (j := 2) (s' := ([some (.ref 69), some (.int z689)], [.int z689, .ref 69], (0, 0), hp2)) rfl rfl ?_
           refine bs_putIv (W := [(11, 15, 15)]) (g := 11) rfl rfl Hhp2 (bs_R.uq Hhp2 (g := 11) rfl) (by decide) rfl rfl rfl rfl (Or.inl rfl) (by omega) (by omega) fun hp691 Hhp691 fhp691 rhp691 ehp691 qhp691 nhp691 => ?_
           have Fhp691 := sf_fr_tr Fhp2 (sf_fr_wider (W := [(11, 4, 4), (11, 11, 18), (11, 20, 20), (133, 0, 119), (135, 0, 0), (137, 0, 3)]) rfl fhp691)
           have h692 : sf_rd hp691 69 20 = some z668.toInt := (ehp691 _ _ (Or.inr (by omega))).trans hz668
           refine Ev.step (j := 6) (s' := ([some (.ref 69), some (.int z689)], [.ref 69], (0, 0), hp691)) rfl rfl ?_
           exact by
            refine Ev.step (j := 7) (s' := ([some (.ref 69), some (.int z689)], [.ref 69, .ref 69], (0, 0), hp691)) rfl rfl ?_
            refine bs_getI 11 rfl rfl rfl Hhp691 (bs_R.uq Hhp691 (g := 11) rfl) (by decide) rfl fun z693 hz693 lz693 gz693 => ?_
            refine bs_putIv (W := [(11, 16, 16)]) (g := 11) rfl rfl Hhp691 (bs_R.uq Hhp691 (g := 11) rfl) (by decide) rfl rfl rfl rfl (Or.inl rfl) (by omega) (by omega) fun hp694 Hhp694 fhp694 rhp694 ehp694 qhp694 nhp694 => ?_
            have Fhp694 := sf_fr_tr Fhp691 (sf_fr_wider (W := [(11, 4, 4), (11, 11, 18), (11, 20, 20), (133, 0, 119), (135, 0, 0), (137, 0, 3)]) rfl fhp694)
            have h695 : sf_rd hp694 69 20 = some z668.toInt := (ehp694 _ _ (Or.inr (by omega))).trans h692
            have h696 : sf_rd hp694 69 15 = some z689.toInt := (ehp694 _ _ (Or.inr (by omega))).trans rhp691
            have h697 : sf_rd hp694 69 12 = some z693.toInt := (ehp694 _ _ (Or.inr (by omega))).trans hz693
            refine bs_lit (k := 0) rfl rfl fun z698 hz698 => ?_
            exact by
             refine bs_zret rfl rfl (by omega) (by omega) ?_
             rw [← hQ690]
             refine (show Ev _ 22 ([some (.ref 69), none, none, none], [.int z698], (0, 0), hp694) _ from ?_)
             exact bs_zret rfl rfl (by omega) (by omega) (by rw [hQ]; exact ⟨thp2, Hhp694, Fhp694, bs_an0, sf_S_cons (sf_s1 (x := z698.toInt) rfl (by omega) (by omega)) (sf_S_nil), (fun _ => by
                     skip
                     rw [lnx_load (by omega)]
                     have LE : z668.toInt = cond s.ld 1 0 := Option.some.inj (hz668.symm.trans S6.2.1)
                     have LD : s.ld = true := by cases hl : s.ld with | true => rfl | false => (rw [hl] at LE; have LE2 : _ = (0 : Int) := LE; omega)
                     rw [show lnLoad (tok B n lim) s i = _ from if_pos LD]
                     have PL : z693.toInt = (tok B n lim i).pl := Option.some.inj (hz693.symm.trans (((ehp691 _ _ (Or.inr (by omega)))).trans (RK_pl K5)))
                     exact RRES_bad ⟨z698, rfl, by omega⟩ (h696.trans (congrArg some (by omega))) (rhp694.trans (congrArg some PL)))⟩)
end
-- 63.b35.lean.txt
section
def kq_X11_strait_v : sf_Q := ([(1, 11, 0)], [], some (0, 0, 0), [(1, 36008, 0, 0, 0, 0)], [(11, 0, 0), (11, 2, 5), (11, 11, 20), (11, 25, 25), (132, 0, 433), (133, 0, 119), (135, 0, 0), (137, 0, 3), (999, 0, 0)])
def ke_X11_strait_v : List Value → ab_H → Option Value → ab_H → Prop := fun _ hp r hp' => ∀ n : Int, sf_rd hp 69 2 = some n → ∃ (z : Int32) (f : Int) (s : PS), r = some (.int z) ∧ ANS (tok (bv hp 70 n.toNat) n.toNat 900) z.toInt f s ∧ sf_rd hp' 69 2 = some 0
set_option maxRecDepth 100000 in
set_option maxHeartbeats 4000000 in
theorem cp_X11_strait_v : sf_cG kq_X11_strait_v Z_X11_strait (fun hp => RES hp) ke_X11_strait_v := by
  intro t hp as H hl hj hpre hG
  match as, hl with
  | [v0], _ =>
    obtain ⟨a0, rfl, ra0⟩ := bs_aR (hj 0 _ rfl)
    obtain rfl := ra0.eq H (p := 69) rfl
    clear hpre hj
    have F0 : sf_fr [(11, 0, 0), (11, 2, 5), (11, 11, 20), (11, 25, 25), (132, 0, 433), (133, 0, 119), (135, 0, 0), (137, 0, 3), (999, 0, 0)] t hp t hp := sf_fr_rf
    refine bs_finx (E := ke_X11_strait_v) (K := kq_X11_strait_v) (L := (L_X11_strait Z_X11_taken Z_X11_next Z_X11_line Z_X11_sign)) (nL := 2) (Nat.le_of_ble_eq_true rfl) ?_
    obtain ⟨Q, hQ⟩ : ∃ Q : ab_O → Prop, Q = (fun o => ∃ t', sf_h t' o.2 ∧ sf_fr (kq_X11_strait_v).2.2.2.2 t hp t' o.2 ∧ sf_an t' o.2.1 (kq_X11_strait_v).2.2.1 o.1 ∧ sf_S (sf_v1 o.1 [.ref 69] o.2) (kq_X11_strait_v).2.2.2.1 ∧ ke_X11_strait_v [.ref 69] hp o.1 o.2) := ⟨_, rfl⟩
    rw [← hQ]
    refine (show Ev (ab_T (L_X11_strait Z_X11_taken Z_X11_next Z_X11_line Z_X11_sign)) 0 ([some (.ref 69), none], [], (0, 0), hp) Q from ?_)
    obtain ⟨n0, hn0, ln0, un0⟩ := bs_fld (k := 2) H (bs_R.uq H (g := 11) rfl) (by decide) rfl
    obtain ⟨BB, hBB⟩ : ∃ BB : Nat → Int, BB = bv hp 70 n0.toNat := ⟨_, rfl⟩
    have EB : ∀ hp' : ab_H, (∀ q, sf_rd hp' 70 q = sf_rd hp 70 q) → bv hp' 70 n0.toNat = BB := fun hp' h => (bv_same h).trans hBB.symm
    have hR := hG
    refine Ev.step (j := 1) (s' := ([some (.ref 69), none], [.ref 69], (0, 0), hp)) rfl rfl ?_
    exact by
     refine bs_lit (k := 0) rfl rfl fun z1 hz1 => ?_
     refine bs_putIv (W := [(11, 0, 0)]) (g := 11) rfl rfl H (bs_R.uq H (g := 11) rfl) (by decide) rfl rfl rfl rfl (Or.inl rfl) (by omega) (by omega) fun hp2 Hhp2 fhp2 rhp2 ehp2 qhp2 nhp2 => ?_
     have Fhp2 := sf_fr_tr F0 (sf_fr_wider (W := [(11, 0, 0), (11, 2, 5), (11, 11, 20), (11, 25, 25), (132, 0, 433), (133, 0, 119), (135, 0, 0), (137, 0, 3), (999, 0, 0)]) rfl fhp2)
     have h3 : sf_rd hp2 69 2 = some n0 := (ehp2 _ _ (Or.inr (by omega))).trans hn0
     refine Ev.step (j := 6) (s' := ([some (.ref 69), none], [.ref 69], (0, 0), hp2)) rfl rfl ?_
     refine bs_lit (k := 900) rfl rfl fun z4 hz4 => ?_
     refine Ev.inl (L := L_X11_taken) (nL := 2) rfl (bs_rcv (g := 11) Hhp2 (bs_R.uq Hhp2 (g := 11) rfl) (by decide) rfl) rfl (Nat.le_of_ble_eq_true rfl) ?_
     generalize hQ5 : (fun (o : ab_O) => Ev _ _ _ _) = Q5
     refine (show Ev (ab_T L_X11_taken) 0 ([some (.ref 69), some (.int z4)], [], (0, 0), hp2) Q5 from ?_)
     exact by
      refine Ev.step (j := 1) (s' := ([some (.ref 69), some (.int z4)], [.ref 69], (0, 0), hp2)) rfl rfl ?_
      refine Ev.step (j := 2) (s' := ([some (.ref 69), some (.int z4)], [.ref 69, .ref 69], (0, 0), hp2)) rfl rfl ?_
      refine bs_getI 11 rfl rfl rfl Hhp2 (bs_R.uq Hhp2 (g := 11) rfl) (by decide) rfl fun z6 hz6 lz6 gz6 => ?_
      have e7 : z6.toInt = n0 := Option.some.inj (hz6.symm.trans h3)
      refine bs_putIv (W := [(11, 3, 3)]) (g := 11) rfl rfl Hhp2 (bs_R.uq Hhp2 (g := 11) rfl) (by decide) rfl rfl rfl rfl (Or.inl rfl) (by omega) (by omega) fun hp8 Hhp8 fhp8 rhp8 ehp8 qhp8 nhp8 => ?_
      have Fhp8 := sf_fr_tr Fhp2 (sf_fr_wider (W := [(11, 0, 0), (11, 2, 5), (11, 11, 20), (11, 25, 25), (132, 0, 433), (133, 0, 119), (135, 0, 0), (137, 0, 3), (999, 0, 0)]) rfl fhp8)
      have h9 : sf_rd hp8 69 2 = some n0 := (ehp8 _ _ (Or.inr (by omega))).trans h3
      have h10 : sf_rd hp8 69 0 = some z1.toInt := (ehp8 _ _ (Or.inr (by omega))).trans rhp2
      refine Ev.step (j := 9) (s' := ([some (.ref 69), some (.int z4)], [.ref 69], (0, 0), hp8)) rfl rfl ?_
      exact by
       refine bs_lit (k := 0) rfl rfl fun z11 hz11 => ?_
       refine bs_putIv (W := [(11, 2, 2)]) (g := 11) rfl rfl Hhp8 (bs_R.uq Hhp8 (g := 11) rfl) (by decide) rfl rfl rfl rfl (Or.inl rfl) (by omega) (by omega) fun hp12 Hhp12 fhp12 rhp12 ehp12 qhp12 nhp12 => ?_
       have Fhp12 := sf_fr_tr Fhp8 (sf_fr_wider (W := [(11, 0, 0), (11, 2, 5), (11, 11, 20), (11, 25, 25), (132, 0, 433), (133, 0, 119), (135, 0, 0), (137, 0, 3), (999, 0, 0)]) rfl fhp12)
       have h13 : sf_rd hp12 69 0 = some z1.toInt := (ehp12 _ _ (Or.inr (by omega))).trans h10
       have h14 : sf_rd hp12 69 3 = some z6.toInt := (ehp12 _ _ (Or.inr (by omega))).trans rhp8
       refine Ev.step (j := 14) (s' := ([some (.ref 69), some (.int z4)], [.ref 69], (0, 0), hp12)) rfl rfl ?_
       refine bs_lit (k := 0) rfl rfl fun z15 hz15 => ?_
       refine bs_putIv (W := [(11, 4, 4), (999, 0, 0)]) (g := 11) rfl rfl Hhp12 (bs_R.uq Hhp12 (g := 11) rfl) (by decide) rfl rfl rfl rfl (Or.inl rfl) (by omega) (by omega) fun hp16 Hhp16 fhp16 rhp16 ehp16 qhp16 nhp16 => ?_
       have Fhp16 := sf_fr_tr Fhp12 (sf_fr_wider (W := [(11, 0, 0), (11, 2, 5), (11, 11, 20), (11, 25, 25), (132, 0, 433), (133, 0, 119), (135, 0, 0), (137, 0, 3), (999, 0, 0)]) rfl fhp16)
       have h17 : sf_rd hp16 69 0 = some z1.toInt := (ehp16 _ _ (Or.inr (by omega))).trans h13
       have h18 : sf_rd hp16 69 3 = some z6.toInt := (ehp16 _ _ (Or.inr (by omega))).trans h14
       have h19 : sf_rd hp16 69 2 = some z11.toInt := (ehp16 _ _ (Or.inr (by omega))).trans rhp12
       refine Ev.step (j := 19) (s' := ([some (.ref 69), some (.int z4)], [.ref 69], (0, 0), hp16)) rfl rfl ?_
       exact by
        refine Ev.step (j := 20) (s' := ([some (.ref 69), some (.int z4)], [.int z4, .ref 69], (0, 0), hp16)) rfl rfl ?_
        refine bs_putIv (W := [(11, 5, 5)]) (g := 11) rfl rfl Hhp16 (bs_R.uq Hhp16 (g := 11) rfl) (by decide) rfl rfl rfl rfl (Or.inl rfl) (by omega) (by omega) fun hp20 Hhp20 fhp20 rhp20 ehp20 qhp20 nhp20 => ?_
        have Fhp20 := sf_fr_tr Fhp16 (sf_fr_wider (W := [(11, 0, 0), (11, 2, 5), (11, 11, 20), (11, 25, 25), (132, 0, 433), (133, 0, 119), (135, 0, 0), (137, 0, 3), (999, 0, 0)]) rfl fhp20)
        have h21 : sf_rd hp20 69 0 = some z1.toInt := (ehp20 _ _ (Or.inr (by omega))).trans h17
        have h22 : sf_rd hp20 69 3 = some z6.toInt := (ehp20 _ _ (Or.inr (by omega))).trans h18
        have h23 : sf_rd hp20 69 2 = some z11.toInt := (ehp20 _ _ (Or.inr (by omega))).trans h19
        have h24 : sf_rd hp20 69 4 = some z15.toInt := (ehp20 _ _ (Or.inr (by omega))).trans rhp16
        refine Ev.ret rfl rfl ?_
        rw [← hQ5]
        refine (show Ev _ 12 ([some (.ref 69), none], [], (0, 0), hp20) _ from ?_)
        exact by
         refine Ev.step (j := 13) (s' := ([some (.ref 69), none], [.ref 69], (0, 0), hp20)) rfl rfl ?_
         refine bs_lit (k := 0) rfl rfl fun z25 hz25 => ?_
         refine bs_putIv (W := [(11, 15, 15)]) (g := 11) rfl rfl Hhp20 (bs_R.uq Hhp20 (g := 11) rfl) (by decide) rfl rfl rfl rfl (Or.inl rfl) (by omega) (by omega) fun hp26 Hhp26 fhp26 rhp26 ehp26 qhp26 nhp26 => ?_
         have Fhp26 := sf_fr_tr Fhp20 (sf_fr_wider (W := [(11, 0, 0), (11, 2, 5), (11, 11, 20), (11, 25, 25), (132, 0, 433), (133, 0, 119), (135, 0, 0), (137, 0, 3), (999, 0, 0)]) rfl fhp26)
         have h27 : sf_rd hp26 69 0 = some z1.toInt := (ehp26 _ _ (Or.inr (by omega))).trans h21
         have h28 : sf_rd hp26 69 3 = some z6.toInt := (ehp26 _ _ (Or.inr (by omega))).trans h22
         have h29 : sf_rd hp26 69 2 = some z11.toInt := (ehp26 _ _ (Or.inr (by omega))).trans h23
         have h30 : sf_rd hp26 69 4 = some z15.toInt := (ehp26 _ _ (Or.inr (by omega))).trans h24
         have h31 : sf_rd hp26 69 5 = some z4.toInt := (ehp26 _ _ (Or.inr (by omega))).trans rhp20
         refine Ev.step (j := 18) (s' := ([some (.ref 69), none], [.ref 69], (0, 0), hp26)) rfl rfl ?_
         exact by
          refine bs_lit (k := 0) rfl rfl fun z32 hz32 => ?_
          refine bs_putIv (W := [(11, 19, 19)]) (g := 11) rfl rfl Hhp26 (bs_R.uq Hhp26 (g := 11) rfl) (by decide) rfl rfl rfl rfl (Or.inl rfl) (by omega) (by omega) fun hp33 Hhp33 fhp33 rhp33 ehp33 qhp33 nhp33 => ?_
          have Fhp33 := sf_fr_tr Fhp26 (sf_fr_wider (W := [(11, 0, 0), (11, 2, 5), (11, 11, 20), (11, 25, 25), (132, 0, 433), (133, 0, 119), (135, 0, 0), (137, 0, 3), (999, 0, 0)]) rfl fhp33)
          have h34 : sf_rd hp33 69 0 = some z1.toInt := (ehp33 _ _ (Or.inr (by omega))).trans h27
          have h35 : sf_rd hp33 69 3 = some z6.toInt := (ehp33 _ _ (Or.inr (by omega))).trans h28
          have h36 : sf_rd hp33 69 2 = some z11.toInt := (ehp33 _ _ (Or.inr (by omega))).trans h29
          have h37 : sf_rd hp33 69 4 = some z15.toInt := (ehp33 _ _ (Or.inr (by omega))).trans h30
          have h38 : sf_rd hp33 69 5 = some z4.toInt := (ehp33 _ _ (Or.inr (by omega))).trans h31
          have h39 : sf_rd hp33 69 15 = some z25.toInt := (ehp33 _ _ (Or.inr (by omega))).trans rhp26
          refine Ev.step (j := 23) (s' := ([some (.ref 69), none], [.ref 69], (0, 0), hp33)) rfl rfl ?_
          exact by
           refine bs_lit (k := 0) rfl rfl fun z40 hz40 => ?_
           refine bs_putIv (W := [(11, 20, 20)]) (g := 11) rfl rfl Hhp33 (bs_R.uq Hhp33 (g := 11) rfl) (by decide) rfl rfl rfl rfl (Or.inr ⟨rfl, by omega, by omega⟩) (by omega) (by omega) fun hp41 Hhp41 fhp41 rhp41 ehp41 qhp41 nhp41 => ?_
           have Fhp41 := sf_fr_tr Fhp33 (sf_fr_wider (W := [(11, 0, 0), (11, 2, 5), (11, 11, 20), (11, 25, 25), (132, 0, 433), (133, 0, 119), (135, 0, 0), (137, 0, 3), (999, 0, 0)]) rfl fhp41)
           have h42 : sf_rd hp41 69 0 = some z1.toInt := (ehp41 _ _ (Or.inr (by omega))).trans h34
           have h43 : sf_rd hp41 69 3 = some z6.toInt := (ehp41 _ _ (Or.inr (by omega))).trans h35
           have h44 : sf_rd hp41 69 2 = some z11.toInt := (ehp41 _ _ (Or.inr (by omega))).trans h36
           have h45 : sf_rd hp41 69 4 = some z15.toInt := (ehp41 _ _ (Or.inr (by omega))).trans h37
           have h46 : sf_rd hp41 69 5 = some z4.toInt := (ehp41 _ _ (Or.inr (by omega))).trans h38
           have h47 : sf_rd hp41 69 15 = some z25.toInt := (ehp41 _ _ (Or.inr (by omega))).trans h39
           have h48 : sf_rd hp41 69 19 = some z32.toInt := (ehp41 _ _ (Or.inr (by omega))).trans rhp33
           refine bs_lit (k := 0) rfl rfl fun z49 hz49 => ?_
           exact by
            refine Ev.step (j := 29) (s' := ([some (.ref 69), some (.int z49)], [], (0, 0), hp41)) rfl rfl ?_
            refine bs_loop (ι := Int32 × ab_H × (Nat → Nat)) (fun ⟨k50, hp51, t52⟩ => ([some (.ref 69), some (.int k50)], [], (0, 0), hp51)) (fun ⟨k50, hp51, t52⟩ => (sf_h t52 hp51) ∧ (sf_fr [(11, 0, 0), (11, 2, 5), (11, 11, 20), (11, 25, 25), (132, 0, 433), (133, 0, 119), (135, 0, 0), (137, 0, 3), (999, 0, 0)] t hp t52 hp51) ∧ (sf_rd hp51 69 2 = some z11.toInt) ∧ (sf_rd hp51 69 3 = some z6.toInt) ∧ (sf_rd hp51 69 4 = some z15.toInt) ∧ (sf_rd hp51 69 5 = some z4.toInt) ∧ (sf_rd hp51 69 19 = some z32.toInt) ∧ (sf_rd hp51 69 20 = some z40.toInt) ∧ (∀ j : Nat, (j : Int) < k50.toInt → sf_rd hp51 76 j = some 0) ∧ (0 ≤ k50.toInt ∧ k50.toInt ≤ 4)) (fun ⟨k50, hp51, t52⟩ => (4 - k50.toInt).toNat) ?_ (z49, hp41, t) ⟨Hhp41, Fhp41, h44, h43, h45, h46, h48, rhp41, (by first | exact INV | exact fun j h => absurd h (by omega)), (by first | omega | assumption)⟩
            rintro ⟨k50, hp51, t52⟩ ⟨Hhp51, Fhp51, i54, i55, i56, i57, i58, i59, i60, i61⟩ ih53
            refine (show Ev _ 29 ([some (.ref 69), some (.int k50)], [], (0, 0), hp51) _ from ?_)
            refine Ev.step (j := 30) (s' := ([some (.ref 69), some (.int k50)], [.int k50], (0, 0), hp51)) rfl rfl ?_
            refine bs_lit (k := 4) rfl rfl fun z62 hz62 => ?_
            refine bs_ge rfl (fun c63 => ?_) (fun c63 => ?_)
            · skip
              refine bs_lit (k := 0) rfl rfl fun z64 hz64 => ?_
              exact by
               refine Ev.step (j := 49) (s' := ([some (.ref 69), some (.int z64)], [], (0, 0), hp51)) rfl rfl ?_
               have T6 : ∀ j : Nat, j < 4 → sf_rd hp51 76 j = some 0 := fun j hj => i60 j (by omega)
               refine bs_loop (ι := Int32 × ab_H × (Nat → Nat)) (fun ⟨k65, hp66, t67⟩ => ([some (.ref 69), some (.int k65)], [], (0, 0), hp66)) (fun ⟨k65, hp66, t67⟩ => (sf_h t67 hp66) ∧ (sf_fr [(11, 0, 0), (11, 2, 5), (11, 11, 20), (11, 25, 25), (132, 0, 433), (133, 0, 119), (135, 0, 0), (137, 0, 3), (999, 0, 0)] t hp t67 hp66) ∧ (sf_rd hp66 69 2 = some z11.toInt) ∧ (sf_rd hp66 69 3 = some z6.toInt) ∧ (sf_rd hp66 69 4 = some z15.toInt) ∧ (sf_rd hp66 69 5 = some z4.toInt) ∧ (sf_rd hp66 69 19 = some z32.toInt) ∧ (sf_rd hp66 69 20 = some z40.toInt) ∧ (∀ j : Nat, (j : Int) < k65.toInt → sf_rd hp66 72 j = some 0) ∧ (∀ j : Nat, j < 4 → sf_rd hp66 76 j = some 0) ∧ (0 ≤ k65.toInt ∧ k65.toInt ≤ 120)) (fun ⟨k65, hp66, t67⟩ => (120 - k65.toInt).toNat) ?_ (z64, hp51, t52) ⟨Hhp51, Fhp51, i54, i55, i56, i57, i58, i59, (by first | exact INV | exact fun j h => absurd h (by omega)), (by exact T6), (by first | omega | assumption)⟩
               rintro ⟨k65, hp66, t67⟩ ⟨Hhp66, Fhp66, i69, i70, i71, i72, i73, i74, i75, i76, i77⟩ ih68
               refine (show Ev _ 49 ([some (.ref 69), some (.int k65)], [], (0, 0), hp66) _ from ?_)
               refine Ev.step (j := 50) (s' := ([some (.ref 69), some (.int k65)], [.int k65], (0, 0), hp66)) rfl rfl ?_
               refine bs_lit (k := 120) rfl rfl fun z78 hz78 => ?_
               refine bs_ge rfl (fun c79 => ?_) (fun c79 => ?_)
               · skip
                 refine Ev.step (j := 69) (s' := ([some (.ref 69), some (.int k65)], [.ref 69], (0, 0), hp66)) rfl rfl ?_
                 exact by
                  refine bs_getU (g := 11) (g1 := 133) rfl rfl Hhp66 (bs_R.uq Hhp66 (g := 11) rfl) (by decide) rfl rfl ?_
                  refine bs_lit (k := 2) rfl rfl fun z80 hz80 => ?_
                  refine bs_lit (k := 10) rfl rfl fun z81 hz81 => ?_
                  refine bs_stv (W := [(133, 2, 2)]) (g := 133) 2 2 (0, 40) rfl Hhp66 (bs_R.uq Hhp66 (g := 133) rfl) (by decide) rfl rfl (by decide) rfl rfl (by omega) (by omega) (by dsimp only; omega) (by dsimp only; omega) fun hp82 Hhp82 fhp82 rhp82 ehp82 qhp82 nhp82 => ?_
                  replace rhp82 := bs_at rhp82 (show z80.toInt.toNat = 2 by omega)
                  have Fhp82 := sf_fr_tr Fhp66 (sf_fr_wider (W := [(11, 0, 0), (11, 2, 5), (11, 11, 20), (11, 25, 25), (132, 0, 433), (133, 0, 119), (135, 0, 0), (137, 0, 3), (999, 0, 0)]) rfl fhp82)
                  have h83 : sf_rd hp82 69 2 = some z11.toInt := (ehp82 _ _ (Or.inl (by decide))).trans i69
                  have h84 : sf_rd hp82 69 3 = some z6.toInt := (ehp82 _ _ (Or.inl (by decide))).trans i70
                  have h85 : sf_rd hp82 69 4 = some z15.toInt := (ehp82 _ _ (Or.inl (by decide))).trans i71
                  have h86 : sf_rd hp82 69 5 = some z4.toInt := (ehp82 _ _ (Or.inl (by decide))).trans i72
                  have h87 : sf_rd hp82 69 19 = some z32.toInt := (ehp82 _ _ (Or.inl (by decide))).trans i73
                  have h88 : sf_rd hp82 69 20 = some z40.toInt := (ehp82 _ _ (Or.inl (by decide))).trans i74
                  have SR0 : SR hp82 s0 := SR_0 (fun j h1 h2 => (ehp82 _ _ (Or.inr (by omega))).trans (i75 j (by omega))) (rhp82.trans (congrArg some (by omega))) (h88.trans (congrArg some (by omega))) (fun j hj => (ehp82 _ _ (Or.inl (by decide))).trans (i76 j hj))
                  have R77 := RES_fr H Fhp82 rfl hR
                  refine Ev.step (j := 77) (s' := ([some (.ref 69), some (.int k65)], [.ref 69], (0, 0), hp82)) rfl rfl ?_
                  exact by
                   refine bs_callx (K := kq_X11_next_v) [.ref 69] [] rfl ce_X11_next_v Hhp82 rfl rfl rfl (bs_rcv (g := 11) Hhp82 (bs_R.uq Hhp82 (g := 11) rfl) (by decide) rfl) rfl ?_ (sf_S_nil) fun r89 hp90 thp90 Hhp90 fhp90 ahp90 php90 xhp90 => ?_
                   · intro q k h
                     match q, h with
                     | 0, h => cases h; exact bs_jR (bs_R.uq Hhp82 (g := 11) rfl)
                     | q + 1, h => cases h
                   obtain rfl := ahp90.1 rfl
                   have Fhp90 := sf_fr_tr Fhp82 (sf_fr_wider (W := [(11, 0, 0), (11, 2, 5), (11, 11, 20), (11, 25, 25), (132, 0, 433), (133, 0, 119), (135, 0, 0), (137, 0, 3), (999, 0, 0)]) rfl fhp90)
                   have h91 : sf_rd hp90 69 2 = some z11.toInt := (fhp90.2.2.1 _ (bs_R.uq Hhp82 (g := 11) (p := 69) rfl).1 _ (by rw [(bs_R.uq Hhp82 (g := 11) (p := 69) rfl).2]; rfl)).trans h83
                   have h92 : sf_rd hp90 69 3 = some z6.toInt := (fhp90.2.2.1 _ (bs_R.uq Hhp82 (g := 11) (p := 69) rfl).1 _ (by rw [(bs_R.uq Hhp82 (g := 11) (p := 69) rfl).2]; rfl)).trans h84
                   have h93 : sf_rd hp90 69 5 = some z4.toInt := (fhp90.2.2.1 _ (bs_R.uq Hhp82 (g := 11) (p := 69) rfl).1 _ (by rw [(bs_R.uq Hhp82 (g := 11) (p := 69) rfl).2]; rfl)).trans h86
                   have h94 : sf_rd hp90 69 19 = some z32.toInt := (fhp90.2.2.1 _ (bs_R.uq Hhp82 (g := 11) (p := 69) rfl).1 _ (by rw [(bs_R.uq Hhp82 (g := 11) (p := 69) rfl).2]; rfl)).trans h87
                   have h95 : sf_rd hp90 69 20 = some z40.toInt := (fhp90.2.2.1 _ (bs_R.uq Hhp82 (g := 11) (p := 69) rfl).1 _ (by rw [(bs_R.uq Hhp82 (g := 11) (p := 69) rfl).2]; rfl)).trans h88
                   have h96 : sf_rd hp90 72 2 = some z81.toInt := (fhp90.2.2.1 _ (bs_R.uq Hhp82 (g := 133) (p := 72) rfl).1 _ (by rw [(bs_R.uq Hhp82 (g := 133) (p := 72) rfl).2]; rfl)).trans rhp82
                   refine (show Ev _ 80 ([some (.ref 69), some (.int k65)], [], (0, 0), hp90) _ from ?_)
                   have NX := (xhp90 _ _ _ h85 h84 h86).2 (by omega)
                   rw [show (z6.toInt).toNat = n0.toNat by omega, EB _ (fun q => Fhp82.2.2.1 _ (bs_R.uq H (g := 131) (p := 70) rfl).1 _ (by rw [(bs_R.uq H (g := 131) (p := 70) rfl).2]; rfl)), show (z4.toInt).toNat = 900 by omega, show (z15.toInt).toNat = 0 by omega] at NX
                   have RK0 : RK hp90 BB n0.toNat 900 0 := ⟨NX, h92.trans (congrArg some (by omega)), h93.trans (congrArg some (by show _ = (900 : Int); omega)), EB _ (fun q => Fhp90.2.2.1 _ (bs_R.uq H (g := 131) (p := 70) rfl).1 _ (by rw [(bs_R.uq H (g := 131) (p := 70) rfl).2]; rfl))⟩
                   have SR1 := SR_fr Hhp82 fhp90 rfl rfl rfl rfl SR0
                   have RES1 := RES_fr Hhp82 fhp90 rfl R77
                   have INV : ∃ (s : PS) (i l : Nat), sf_rd hp90 69 19 = some (l : Int) ∧ lns (tok BB n0.toNat 900) l = some (s, i) ∧ SR hp90 s ∧ RK hp90 BB n0.toNat 900 i ∧ RES hp90 ∧ l ≤ tps BB n0.toNat 900 i := ⟨s0, 0, 0, h94.trans (congrArg some (by show _ = (0 : Int); omega)), rfl, SR1, RK0, RES1, Nat.zero_le _⟩
                   refine bs_loop (ι := ab_H × (Nat → Nat)) (fun ⟨hp97, t98⟩ => ([some (.ref 69), some (.int k65)], [], (0, 0), hp97)) (fun ⟨hp97, t98⟩ => (sf_h t98 hp97) ∧ (sf_fr [(11, 0, 0), (11, 2, 5), (11, 11, 20), (11, 25, 25), (132, 0, 433), (133, 0, 119), (135, 0, 0), (137, 0, 3), (999, 0, 0)] t hp t98 hp97) ∧ (sf_rd hp97 69 2 = some z11.toInt) ∧ (∃ (s : PS) (i l : Nat), sf_rd hp97 69 19 = some (l : Int) ∧ lns (tok BB n0.toNat 900) l = some (s, i) ∧ SR hp97 s ∧ RK hp97 BB n0.toNat 900 i ∧ RES hp97 ∧ l ≤ tps BB n0.toNat 900 i)) (fun ⟨hp97, t98⟩ => (sf_psi hp97).toNat) ?_ (hp90, thp90) ⟨Hhp90, Fhp90, h91, (by exact INV)⟩
                   rintro ⟨hp97, t98⟩ ⟨Hhp97, Fhp97, i100, i101⟩ ih99
                   clear INV
                   refine (show Ev _ 80 ([some (.ref 69), some (.int k65)], [], (0, 0), hp97) _ from ?_)
                   obtain ⟨s, i, l, L19, LN, S0, K0, R0, LB⟩ := i101
                   have tn0 : tps BB n0.toNat 900 i ≤ n0.toNat := tps_n i
                   refine Ev.step (j := 81) (s' := ([some (.ref 69), some (.int k65)], [.ref 69], (0, 0), hp97)) rfl rfl ?_
                   exact by
                    refine bs_getI 11 rfl rfl rfl Hhp97 (bs_R.uq Hhp97 (g := 11) rfl) (by decide) rfl fun z102 hz102 lz102 gz102 => ?_
                    have KK := RK_k K0 hz102
                    refine bs_ifeq rfl (fun c103 => ?_) (fun c103 => ?_)
                    · skip
                      have c104 : z102.toInt = 0 := by omega
                      refine bs_lit (k := 0) rfl rfl fun z105 hz105 => ?_
                      refine Ev.step (j := 125) (s' := ([some (.ref 69), some (.int z105)], [], (0, 0), hp97)) rfl rfl ?_
                      obtain ⟨n69, fl, e69, hfl⟩ := fl_get Hhp97
                      obtain ⟨n71, f71, e71, KA71⟩ := ar_get Hhp97 132 71 434 rfl (by decide) rfl rfl
                      obtain ⟨n72, f72, e72, KA72⟩ := ar_get Hhp97 133 72 120 rfl (by decide) rfl rfl
                      refine Ev.hp (show hp97 = ab_up hp97 71 (.inl (1, 434, .inl (cpf f71 (fun i => if i < 120 then f72 i else 0) 0 0))) by rw [cpf_0]; exact ab_up_same e71) ?_
                      exact by
                       refine cp_loop (N := 434) (fun zz nn => ([some (.ref 69), some (.int zz)], [], (0, 0), (ab_up hp97 71 (.inl (1, 434, .inl (cpf f71 (fun i => if i < 120 then f72 i else 0) 0 nn)))))) ?_ ?_ z105 (by omega)
                       · intro nn zz hnn hzz ih
                         refine (show Ev _ 125 ([some (.ref 69), some (.int zz)], [], (0, 0), (ab_up hp97 71 (.inl (1, 434, .inl (cpf f71 (fun i => if i < 120 then f72 i else 0) 0 nn))))) _ from ?_)
                         have m69 : (ab_up hp97 71 (.inl (1, 434, .inl (cpf f71 (fun i => if i < 120 then f72 i else 0) 0 nn)))).2 69 = .inr (11, fl) := (ab_up_ne (by decide)).trans e69
                         have m72 : (ab_up hp97 71 (.inl (1, 434, .inl (cpf f71 (fun i => if i < 120 then f72 i else 0) 0 nn)))).2 72 = .inl (1, 120, .inl f72) := (ab_up_ne (by decide)).trans e72
                         refine Ev.step (j := 126) (s' := ([some (.ref 69), some (.int zz)], [.int zz], (0, 0), (ab_up hp97 71 (.inl (1, 434, .inl (cpf f71 (fun i => if i < 120 then f72 i else 0) 0 nn)))))) rfl rfl ?_
                         refine bs_lit (k := 434) rfl rfl fun z106 hz106 => ?_
                         refine bs_ge rfl (fun c107 => ?_) (fun c107 => ?_)
                         · exfalso; omega
                         · skip
                           refine Ev.step (j := 133) (s' := ([some (.ref 69), some (.int zz)], [.ref 69], (0, 0), (ab_up hp97 71 (.inl (1, 434, .inl (cpf f71 (fun i => if i < 120 then f72 i else 0) 0 nn)))))) rfl rfl ?_
                           exact by
                            refine Ev.getf rfl n69 m69 (hfl 6 132 71 rfl rfl) ?_
                            refine (show Ev _ 136 ([some (.ref 69), some (.int zz)], [.ref 71], (0, 0), (ab_up hp97 71 (.inl (1, 434, .inl (cpf f71 (fun i => if i < 120 then f72 i else 0) 0 nn))))) _ from ?_)
                            refine Ev.step (j := 137) (s' := ([some (.ref 69), some (.int zz)], [.int zz, .ref 71], (0, 0), (ab_up hp97 71 (.inl (1, 434, .inl (cpf f71 (fun i => if i < 120 then f72 i else 0) 0 nn)))))) rfl rfl ?_
                            refine Ev.step (j := 138) (s' := ([some (.ref 69), some (.int zz)], [.int zz, .int zz, .ref 71], (0, 0), (ab_up hp97 71 (.inl (1, 434, .inl (cpf f71 (fun i => if i < 120 then f72 i else 0) 0 nn)))))) rfl rfl ?_
                            refine bs_lit (k := 120) rfl rfl fun z108 hz108 => ?_
                            refine bs_ge rfl (fun c109 => ?_) (fun c109 => ?_)
                            · skip
                              refine bs_lit (k := 0) rfl rfl fun z110 hz110 => ?_
                              refine Ev.ast rfl n71 (ab_up_eq _ _ _) (n_in (by omega) (by omega)) ?_
                              exact by
                               refine Ev.hp (cpf_up (n_at (by omega)) (by show _ = if nn < 120 then f72 nn else 0; rw [if_neg (by omega)]; exact Int32.toInt_inj.mp (hz110.trans rfl))) ?_
                               refine bs_iinc (1) rfl rfl rfl rfl (by omega) (by omega) fun z111 hz111 => ?_
                               refine (show Ev _ 157 ([some (.ref 69), some (.int z111)], [], (0, 0), (ab_up hp97 71 (.inl (1, 434, .inl (cpf f71 (fun i => if i < 120 then f72 i else 0) 0 (nn + 1)))))) _ from ?_)
                               refine Ev.step (j := 125) (s' := ([some (.ref 69), some (.int z111)], [], (0, 0), (ab_up hp97 71 (.inl (1, 434, .inl (cpf f71 (fun i => if i < 120 then f72 i else 0) 0 (nn + 1))))))) rfl rfl ?_
                               exact ih z111 (by omega)
                            · skip
                              refine Ev.step (j := 144) (s' := ([some (.ref 69), some (.int zz)], [.ref 69, .int zz, .ref 71], (0, 0), (ab_up hp97 71 (.inl (1, 434, .inl (cpf f71 (fun i => if i < 120 then f72 i else 0) 0 nn)))))) rfl rfl ?_
                              exact by
                               refine Ev.getf rfl n69 m69 (hfl 7 133 72 rfl rfl) ?_
                               refine (show Ev _ 147 ([some (.ref 69), some (.int zz)], [.ref 72, .int zz, .ref 71], (0, 0), (ab_up hp97 71 (.inl (1, 434, .inl (cpf f71 (fun i => if i < 120 then f72 i else 0) 0 nn))))) _ from ?_)
                               refine Ev.step (j := 148) (s' := ([some (.ref 69), some (.int zz)], [.int zz, .ref 72, .int zz, .ref 71], (0, 0), (ab_up hp97 71 (.inl (1, 434, .inl (cpf f71 (fun i => if i < 120 then f72 i else 0) 0 nn)))))) rfl rfl ?_
                               refine Ev.ald rfl n72 m72 (n_in (by omega) (by omega)) ?_
                               refine (show Ev _ 149 ([some (.ref 69), some (.int zz)], [.int (f72 zz.toNatClampNeg), .int zz, .ref 71], (0, 0), (ab_up hp97 71 (.inl (1, 434, .inl (cpf f71 (fun i => if i < 120 then f72 i else 0) 0 nn))))) _ from ?_)
                               refine Ev.step (j := 153) (s' := ([some (.ref 69), some (.int zz)], [.int (f72 zz.toNatClampNeg), .int zz, .ref 71], (0, 0), (ab_up hp97 71 (.inl (1, 434, .inl (cpf f71 (fun i => if i < 120 then f72 i else 0) 0 nn)))))) rfl rfl ?_
                               refine Ev.ast rfl n71 (ab_up_eq _ _ _) (n_in (by omega) (by omega)) ?_
                               refine Ev.hp (cpf_up (n_at (by omega)) (by show _ = if nn < 120 then f72 nn else 0; rw [if_pos (by omega), n_at (z := zz) hzz])) ?_
                               exact by
                                refine bs_iinc (1) rfl rfl rfl rfl (by omega) (by omega) fun z112 hz112 => ?_
                                refine (show Ev _ 157 ([some (.ref 69), some (.int z112)], [], (0, 0), (ab_up hp97 71 (.inl (1, 434, .inl (cpf f71 (fun i => if i < 120 then f72 i else 0) 0 (nn + 1)))))) _ from ?_)
                                refine Ev.step (j := 125) (s' := ([some (.ref 69), some (.int z112)], [], (0, 0), (ab_up hp97 71 (.inl (1, 434, .inl (cpf f71 (fun i => if i < 120 then f72 i else 0) 0 (nn + 1))))))) rfl rfl ?_
                                exact ih z112 (by omega)
                       · intro zz hzz
                         refine (show Ev _ 125 ([some (.ref 69), some (.int zz)], [], (0, 0), (ab_up hp97 71 (.inl (1, 434, .inl (cpf f71 (fun i => if i < 120 then f72 i else 0) 0 434))))) _ from ?_)
                         have m69 : (ab_up hp97 71 (.inl (1, 434, .inl (cpf f71 (fun i => if i < 120 then f72 i else 0) 0 434)))).2 69 = .inr (11, fl) := (ab_up_ne (by decide)).trans e69
                         refine Ev.step (j := 126) (s' := ([some (.ref 69), some (.int zz)], [.int zz], (0, 0), (ab_up hp97 71 (.inl (1, 434, .inl (cpf f71 (fun i => if i < 120 then f72 i else 0) 0 434)))))) rfl rfl ?_
                         exact by
                          refine bs_lit (k := 434) rfl rfl fun z113 hz113 => ?_
                          refine bs_ge rfl (fun c114 => ?_) (fun c114 => ?_)
                          · skip
                            have EK : ∀ q, q < 434 → sf_v t98 hp97.1 (sf_e (sf_A 132).2.2 q) (.int ((cpf f71 (fun i => if i < 120 then f72 i else 0) 0 434) q)) := by
                              intro q hq
                              by_cases c : 0 ≤ q ∧ q < 0 + 434
                              · rw [cpf_in c.1 c.2]
                                show sf_v _ _ _ (.int (if q - 0 < 120 then f72 (q - 0) else 0))
                                by_cases c2 : q - 0 < 120
                                · rw [if_pos c2]
                                  have h := KA72 (q - 0) c2
                                  rw [← sg_133 (q - 0) c2] at h
                                  exact h
                                · rw [if_neg c2]
                                  exact sg_z q hq
                              · rw [cpf_out (by omega)]
                                exact KA71 q hq
                            have I3 := Hhp97.2.2.2.2.2
                            have E3 : sf_I3 (ab_up hp97 71 (.inl (1, 434, .inl (cpf f71 (fun i => if i < 120 then f72 i else 0) 0 434)))) := by
                              exact ⟨cd_ok_0 (by rw [cd_up (by decide), cpf_in (by decide) (by decide)]; rfl), by rw [cd_ne (by decide)]; exact I3.2.1, by rw [cd_ne (by decide)]; exact I3.2.2⟩
                            obtain ⟨Hhp115, fhp115⟩ := cp_end (a := 71) (len := 434) (f' := (cpf f71 (fun i => if i < 120 then f72 i else 0) 0 434)) (i0 := 0) (i1 := 433) Hhp97 (bs_R.uq Hhp97 (g := 132) rfl) (by decide) rfl rfl e71 EK (by decide) (fun q hq => cpf_out (by omega)) E3
                            clear EK E3 I3
                            obtain ⟨hp115, qhp115⟩ : ∃ x, x = (ab_up hp97 71 (.inl (1, 434, .inl (cpf f71 (fun i => if i < 120 then f72 i else 0) 0 434)))) := ⟨_, rfl⟩
                            rw [← qhp115] at Hhp115 fhp115
                            rw [← qhp115]
                            have Fhp115 := sf_fr_tr Fhp97 (sf_fr_wider (W := [(11, 0, 0), (11, 2, 5), (11, 11, 20), (11, 25, 25), (132, 0, 433), (133, 0, 119), (135, 0, 0), (137, 0, 3), (999, 0, 0)]) rfl fhp115)
                            have h116 : sf_rd hp115 69 2 = some z11.toInt := (fhp115.2.2.1 _ (bs_R.uq Hhp97 (g := 11) (p := 69) rfl).1 _ (by rw [(bs_R.uq Hhp97 (g := 11) (p := 69) rfl).2]; rfl)).trans i100
                            have h117 : sf_rd hp115 69 19 = some (l : Int) := (fhp115.2.2.1 _ (bs_R.uq Hhp97 (g := 11) (p := 69) rfl).1 _ (by rw [(bs_R.uq Hhp97 (g := 11) (p := 69) rfl).2]; rfl)).trans L19
                            have h118 : sf_rd hp115 69 11 = some z102.toInt := (fhp115.2.2.1 _ (bs_R.uq Hhp97 (g := 11) (p := 69) rfl).1 _ (by rw [(bs_R.uq Hhp97 (g := 11) (p := 69) rfl).2]; rfl)).trans hz102
                            refine bs_lit (k := 0) rfl rfl fun z119 hz119 => ?_
                            exact by
                             refine Ev.step (j := 162) (s' := ([some (.ref 69), some (.int z119)], [], (0, 0), hp115)) rfl rfl ?_
                             refine bs_loop (ι := Int32 × ab_H × (Nat → Nat)) (fun ⟨k120, hp121, t122⟩ => ([some (.ref 69), some (.int k120)], [], (0, 0), hp121)) (fun ⟨k120, hp121, t122⟩ => (sf_h t122 hp121) ∧ (sf_fr [(11, 0, 0), (11, 2, 5), (11, 11, 20), (11, 25, 25), (132, 0, 433), (133, 0, 119), (135, 0, 0), (137, 0, 3), (999, 0, 0)] t hp t122 hp121) ∧ (sf_rd hp121 69 2 = some z11.toInt) ∧ (sf_rd hp121 69 19 = some (l : Int)) ∧ (0 ≤ k120.toInt ∧ k120.toInt ≤ 14)) (fun ⟨k120, hp121, t122⟩ => (14 - k120.toInt).toNat) ?_ (z119, hp115, t98) ⟨Hhp115, Fhp115, h116, h117, (by first | omega | assumption)⟩
                             rintro ⟨k120, hp121, t122⟩ ⟨Hhp121, Fhp121, i124, i125, i126⟩ ih123
                             refine (show Ev _ 162 ([some (.ref 69), some (.int k120)], [], (0, 0), hp121) _ from ?_)
                             refine Ev.step (j := 163) (s' := ([some (.ref 69), some (.int k120)], [.int k120], (0, 0), hp121)) rfl rfl ?_
                             refine bs_lit (k := 14) rfl rfl fun z127 hz127 => ?_
                             refine bs_ge rfl (fun c128 => ?_) (fun c128 => ?_)
                             · skip
                               refine bs_lit (k := 0) rfl rfl fun z129 hz129 => ?_
                               exact by
                                refine Ev.step (j := 191) (s' := ([some (.ref 69), some (.int z129)], [], (0, 0), hp121)) rfl rfl ?_
                                refine bs_loop (ι := Int32 × ab_H × (Nat → Nat)) (fun ⟨k130, hp131, t132⟩ => ([some (.ref 69), some (.int k130)], [], (0, 0), hp131)) (fun ⟨k130, hp131, t132⟩ => (sf_h t132 hp131) ∧ (sf_fr [(11, 0, 0), (11, 2, 5), (11, 11, 20), (11, 25, 25), (132, 0, 433), (133, 0, 119), (135, 0, 0), (137, 0, 3), (999, 0, 0)] t hp t132 hp131) ∧ (sf_rd hp131 69 2 = some z11.toInt) ∧ (sf_rd hp131 69 19 = some (l : Int)) ∧ (0 ≤ k130.toInt ∧ k130.toInt ≤ 12)) (fun ⟨k130, hp131, t132⟩ => (12 - k130.toInt).toNat) ?_ (z129, hp121, t122) ⟨Hhp121, Fhp121, i124, i125, (by first | omega | assumption)⟩
                                rintro ⟨k130, hp131, t132⟩ ⟨Hhp131, Fhp131, i134, i135, i136⟩ ih133
                                refine (show Ev _ 191 ([some (.ref 69), some (.int k130)], [], (0, 0), hp131) _ from ?_)
                                refine Ev.step (j := 192) (s' := ([some (.ref 69), some (.int k130)], [.int k130], (0, 0), hp131)) rfl rfl ?_
                                refine bs_lit (k := 12) rfl rfl fun z137 hz137 => ?_
                                refine bs_ge rfl (fun c138 => ?_) (fun c138 => ?_)
                                · skip
                                  refine bs_lit (k := 0) rfl rfl fun z139 hz139 => ?_
                                  exact by
                                   refine Ev.step (j := 222) (s' := ([some (.ref 69), some (.int z139)], [], (0, 0), hp131)) rfl rfl ?_
                                   refine bs_loop (ι := Int32 × ab_H × (Nat → Nat)) (fun ⟨k140, hp141, t142⟩ => ([some (.ref 69), some (.int k140)], [], (0, 0), hp141)) (fun ⟨k140, hp141, t142⟩ => (sf_h t142 hp141) ∧ (sf_fr [(11, 0, 0), (11, 2, 5), (11, 11, 20), (11, 25, 25), (132, 0, 433), (133, 0, 119), (135, 0, 0), (137, 0, 3), (999, 0, 0)] t hp t142 hp141) ∧ (sf_rd hp141 69 2 = some z11.toInt) ∧ (sf_rd hp141 69 19 = some (l : Int)) ∧ (0 ≤ k140.toInt ∧ k140.toInt ≤ 8)) (fun ⟨k140, hp141, t142⟩ => (8 - k140.toInt).toNat) ?_ (z139, hp131, t132) ⟨Hhp131, Fhp131, i134, i135, (by first | omega | assumption)⟩
                                   rintro ⟨k140, hp141, t142⟩ ⟨Hhp141, Fhp141, i144, i145, i146⟩ ih143
                                   refine (show Ev _ 222 ([some (.ref 69), some (.int k140)], [], (0, 0), hp141) _ from ?_)
                                   refine Ev.step (j := 223) (s' := ([some (.ref 69), some (.int k140)], [.int k140], (0, 0), hp141)) rfl rfl ?_
                                   refine bs_lit (k := 8) rfl rfl fun z147 hz147 => ?_
                                   refine bs_ge rfl (fun c148 => ?_) (fun c148 => ?_)
                                   · skip
                                     refine Ev.step (j := 254) (s' := ([some (.ref 69), some (.int k140)], [.ref 69], (0, 0), hp141)) rfl rfl ?_
                                     exact by
                                      refine bs_lit (k := 0) rfl rfl fun z149 hz149 => ?_
                                      refine bs_putIv (W := [(11, 25, 25)]) (g := 11) rfl rfl Hhp141 (bs_R.uq Hhp141 (g := 11) rfl) (by decide) rfl rfl rfl rfl (Or.inl rfl) (by omega) (by omega) fun hp150 Hhp150 fhp150 rhp150 ehp150 qhp150 nhp150 => ?_
                                      have Fhp150 := sf_fr_tr Fhp141 (sf_fr_wider (W := [(11, 0, 0), (11, 2, 5), (11, 11, 20), (11, 25, 25), (132, 0, 433), (133, 0, 119), (135, 0, 0), (137, 0, 3), (999, 0, 0)]) rfl fhp150)
                                      have h151 : sf_rd hp150 69 2 = some z11.toInt := (ehp150 _ _ (Or.inr (by omega))).trans i144
                                      have h152 : sf_rd hp150 69 19 = some (l : Int) := (ehp150 _ _ (Or.inr (by omega))).trans i145
                                      refine Ev.step (j := 259) (s' := ([some (.ref 69), some (.int k140)], [.ref 69], (0, 0), hp150)) rfl rfl ?_
                                      refine bs_getI 11 rfl rfl rfl Hhp150 (bs_R.uq Hhp150 (g := 11) rfl) (by decide) rfl fun z153 hz153 lz153 gz153 => ?_
                                      have e154 : z153.toInt = (l : Int) := Option.some.inj (hz153.symm.trans h152)
                                      exact Ev.ret rfl rfl (by rw [hQ]; exact ⟨t142, Hhp150, Fhp150, bs_an0, sf_S_cons (sf_s1 (x := z11.toInt) (show sf_v1 _ _ _ 36008 = _ from h151) (by omega) (by omega)) (sf_S_nil), (fun n hn_ => by
                                              have eqN : n = n0 := Option.some.inj (hn_.symm.trans hn0); subst eqN; rw [← hBB]
                                              have K00 : (tok BB n.toNat 900 i).k = 0 := rkk_0 (by omega)
                                              exact ⟨z153, 0, s, rfl, ⟨l, i, LN, (stp_end K00).trans (congrArg some (Prod.ext (by show (l : Int) = _; omega) rfl))⟩, h151.trans (congrArg some (by omega))⟩)⟩)
                                   · skip
                                     refine Ev.step (j := 229) (s' := ([some (.ref 69), some (.int k140)], [.ref 69], (0, 0), hp141)) rfl rfl ?_
                                     exact by
                                      refine bs_getU (g := 11) (g1 := 132) rfl rfl Hhp141 (bs_R.uq Hhp141 (g := 11) rfl) (by decide) rfl rfl ?_
                                      refine bs_lit (k := 172) rfl rfl fun z155 hz155 => ?_
                                      refine Ev.step (j := 236) (s' := ([some (.ref 69), some (.int k140)], [.int k140, .int z155, .ref 71], (0, 0), hp141)) rfl rfl ?_
                                      first | (refine bs_add rfl (by omega) (by omega) fun z156 hz156 => ?_) | (refine bs_any rfl fun z156 => ?_)
                                      have rz156 := n_range z156
                                      refine Ev.step (j := 238) (s' := ([some (.ref 69), some (.int k140)], [.ref 69, .int z156, .ref 71], (0, 0), hp141)) rfl rfl ?_
                                      refine bs_getU (g := 11) (g1 := 132) rfl rfl Hhp141 (bs_R.uq Hhp141 (g := 11) rfl) (by decide) rfl rfl ?_
                                      refine bs_lit (k := 52) rfl rfl fun z157 hz157 => ?_
                                      exact by
                                       refine Ev.step (j := 244) (s' := ([some (.ref 69), some (.int k140)], [.int k140, .int z157, .ref 71, .int z156, .ref 71], (0, 0), hp141)) rfl rfl ?_
                                       first | (refine bs_add rfl (by omega) (by omega) fun z158 hz158 => ?_) | (refine bs_any rfl fun z158 => ?_)
                                       have rz158 := n_range z158
                                       refine bs_ld (g := 132) 52 59 (-2147483648, 2147483647) rfl Hhp141 (bs_R.uq Hhp141 (g := 132) rfl) (by decide) rfl (by decide) (by decide) rfl (by decide) (by omega) (by omega) fun z159 hz159 lz159 gz159 => ?_
                                       dsimp only at lz159 gz159
                                       refine bs_stv (W := [(132, 172, 179)]) (g := 132) 172 179 (-2147483648, 2147483647) rfl Hhp141 (bs_R.uq Hhp141 (g := 132) rfl) (by decide) rfl rfl (by decide) rfl rfl (by omega) (by omega) (by dsimp only; omega) (by dsimp only; omega) fun hp160 Hhp160 fhp160 rhp160 ehp160 qhp160 nhp160 => ?_
                                       have Fhp160 := sf_fr_tr Fhp141 (sf_fr_wider (W := [(11, 0, 0), (11, 2, 5), (11, 11, 20), (11, 25, 25), (132, 0, 433), (133, 0, 119), (135, 0, 0), (137, 0, 3), (999, 0, 0)]) rfl fhp160)
                                       have h161 : sf_rd hp160 69 2 = some z11.toInt := (ehp160 _ _ (Or.inl (by decide))).trans i144
                                       have h162 : sf_rd hp160 69 19 = some (l : Int) := (ehp160 _ _ (Or.inl (by decide))).trans i145
                                       refine bs_iinc (1) rfl rfl rfl rfl (by omega) (by omega) fun z163 hz163 => ?_
                                       exact by
                                        refine (show Ev _ 250 ([some (.ref 69), some (.int z163)], [], (0, 0), hp160) _ from ?_)
                                        refine Ev.step (j := 222) (s' := ([some (.ref 69), some (.int z163)], [], (0, 0), hp160)) rfl rfl ?_
                                        refine ih143 (z163, hp160, t142) ⟨Hhp160, Fhp160, h161, h162, (by first | omega | assumption)⟩ ?_
                                        show (8 - z163.toInt).toNat < (8 - k140.toInt).toNat
                                        omega
                                · skip
                                  refine Ev.step (j := 198) (s' := ([some (.ref 69), some (.int k130)], [.ref 69], (0, 0), hp131)) rfl rfl ?_
                                  exact by
                                   refine bs_getU (g := 11) (g1 := 132) rfl rfl Hhp131 (bs_R.uq Hhp131 (g := 11) rfl) (by decide) rfl rfl ?_
                                   refine bs_lit (k := 124) rfl rfl fun z164 hz164 => ?_
                                   refine Ev.step (j := 204) (s' := ([some (.ref 69), some (.int k130)], [.int k130, .int z164, .ref 71], (0, 0), hp131)) rfl rfl ?_
                                   first | (refine bs_add rfl (by omega) (by omega) fun z165 hz165 => ?_) | (refine bs_any rfl fun z165 => ?_)
                                   have rz165 := n_range z165
                                   refine Ev.step (j := 206) (s' := ([some (.ref 69), some (.int k130)], [.ref 69, .int z165, .ref 71], (0, 0), hp131)) rfl rfl ?_
                                   refine bs_getU (g := 11) (g1 := 132) rfl rfl Hhp131 (bs_R.uq Hhp131 (g := 11) rfl) (by decide) rfl rfl ?_
                                   refine bs_lit (k := 4) rfl rfl fun z166 hz166 => ?_
                                   exact by
                                    refine Ev.step (j := 211) (s' := ([some (.ref 69), some (.int k130)], [.int k130, .int z166, .ref 71, .int z165, .ref 71], (0, 0), hp131)) rfl rfl ?_
                                    first | (refine bs_add rfl (by omega) (by omega) fun z167 hz167 => ?_) | (refine bs_any rfl fun z167 => ?_)
                                    have rz167 := n_range z167
                                    refine bs_ld (g := 132) 4 15 (0, 250) rfl Hhp131 (bs_R.uq Hhp131 (g := 132) rfl) (by decide) rfl (by decide) (by decide) rfl (by decide) (by omega) (by omega) fun z168 hz168 lz168 gz168 => ?_
                                    dsimp only at lz168 gz168
                                    refine bs_stv (W := [(132, 124, 135)]) (g := 132) 124 135 (0, 999) rfl Hhp131 (bs_R.uq Hhp131 (g := 132) rfl) (by decide) rfl rfl (by decide) rfl rfl (by omega) (by omega) (by dsimp only; omega) (by dsimp only; omega) fun hp169 Hhp169 fhp169 rhp169 ehp169 qhp169 nhp169 => ?_
                                    have Fhp169 := sf_fr_tr Fhp131 (sf_fr_wider (W := [(11, 0, 0), (11, 2, 5), (11, 11, 20), (11, 25, 25), (132, 0, 433), (133, 0, 119), (135, 0, 0), (137, 0, 3), (999, 0, 0)]) rfl fhp169)
                                    have h170 : sf_rd hp169 69 2 = some z11.toInt := (ehp169 _ _ (Or.inl (by decide))).trans i134
                                    have h171 : sf_rd hp169 69 19 = some (l : Int) := (ehp169 _ _ (Or.inl (by decide))).trans i135
                                    refine bs_iinc (1) rfl rfl rfl rfl (by omega) (by omega) fun z172 hz172 => ?_
                                    exact by
                                     refine (show Ev _ 217 ([some (.ref 69), some (.int z172)], [], (0, 0), hp169) _ from ?_)
                                     refine Ev.step (j := 191) (s' := ([some (.ref 69), some (.int z172)], [], (0, 0), hp169)) rfl rfl ?_
                                     refine ih133 (z172, hp169, t132) ⟨Hhp169, Fhp169, h170, h171, (by first | omega | assumption)⟩ ?_
                                     show (12 - z172.toInt).toNat < (12 - k130.toInt).toNat
                                     omega
                             · skip
                               refine Ev.step (j := 169) (s' := ([some (.ref 69), some (.int k120)], [.ref 69], (0, 0), hp121)) rfl rfl ?_
                               exact by
                                refine bs_getU (g := 11) (g1 := 135) rfl rfl Hhp121 (bs_R.uq Hhp121 (g := 11) rfl) (by decide) rfl rfl ?_
                                refine Ev.step (j := 173) (s' := ([some (.ref 69), some (.int k120)], [.int k120, .ref 74], (0, 0), hp121)) rfl rfl ?_
                                refine Ev.step (j := 174) (s' := ([some (.ref 69), some (.int k120)], [.ref 69, .int k120, .ref 74], (0, 0), hp121)) rfl rfl ?_
                                refine bs_getU (g := 11) (g1 := 135) rfl rfl Hhp121 (bs_R.uq Hhp121 (g := 11) rfl) (by decide) rfl rfl ?_
                                refine bs_lit (k := 14) rfl rfl fun z173 hz173 => ?_
                                refine Ev.step (j := 180) (s' := ([some (.ref 69), some (.int k120)], [.int k120, .int z173, .ref 74, .int k120, .ref 74], (0, 0), hp121)) rfl rfl ?_
                                first | (refine bs_add rfl (by omega) (by omega) fun z174 hz174 => ?_) | (refine bs_any rfl fun z174 => ?_)
                                have rz174 := n_range z174
                                refine bs_laldv (g := 135) rfl Hhp121 (bs_R.uq Hhp121 (g := 135) rfl) (by decide) rfl (by omega) (by show _ < ((28 : Nat) : Int); omega) fun w175 hw175 => ?_
                                exact by
                                 refine bs_lastv (W := [(135, 0, 0)]) (g := 135) rfl Hhp121 (bs_R.uq Hhp121 (g := 135) rfl) (by decide) rfl rfl (by omega) (by show _ < ((28 : Nat) : Int); omega) fun hp176 Hhp176 fhp176 mhp176 lhp176 ehp176 qhp176 => ?_
                                 have Fhp176 := sf_fr_tr Fhp121 (sf_fr_wider (W := [(11, 0, 0), (11, 2, 5), (11, 11, 20), (11, 25, 25), (132, 0, 433), (133, 0, 119), (135, 0, 0), (137, 0, 3), (999, 0, 0)]) rfl fhp176)
                                 have h177 : sf_rd hp176 69 2 = some z11.toInt := (ehp176 _ _).trans i124
                                 have h178 : sf_rd hp176 69 19 = some (l : Int) := (ehp176 _ _).trans i125
                                 refine bs_iinc (1) rfl rfl rfl rfl (by omega) (by omega) fun z179 hz179 => ?_
                                 refine (show Ev _ 186 ([some (.ref 69), some (.int z179)], [], (0, 0), hp176) _ from ?_)
                                 refine Ev.step (j := 162) (s' := ([some (.ref 69), some (.int z179)], [], (0, 0), hp176)) rfl rfl ?_
                                 refine ih123 (z179, hp176, t122) ⟨Hhp176, Fhp176, h177, h178, (by first | omega | assumption)⟩ ?_
                                 show (14 - z179.toInt).toNat < (14 - k120.toInt).toNat
                                 omega
                          · exfalso; omega
                    · skip
                      refine Ev.step (j := 88) (s' := ([some (.ref 69), some (.int k65)], [.ref 69], (0, 0), hp97)) rfl rfl ?_
                      exact by
                       refine bs_callp (K := kq_X11_line_v) [.ref 69] [] rfl cp_X11_line_v (⟨K0, S0, R0⟩) Hhp97 rfl rfl rfl (bs_rcv (g := 11) Hhp97 (bs_R.uq Hhp97 (g := 11) rfl) (by decide) rfl) rfl ?_ (sf_S_nil) fun r180 hp181 thp181 Hhp181 fhp181 ahp181 php181 xhp181 => ?_
                       · intro q k h
                         match q, h with
                         | 0, h => cases h; exact bs_jR (bs_R.uq Hhp97 (g := 11) rfl)
                         | q + 1, h => cases h
                       obtain ⟨z182, rfl⟩ := bs_anI ahp181
                       have rgz182 := n_range z182
                       have Fhp181 := sf_fr_tr Fhp97 (sf_fr_wider (W := [(11, 0, 0), (11, 2, 5), (11, 11, 20), (11, 25, 25), (132, 0, 433), (133, 0, 119), (135, 0, 0), (137, 0, 3), (999, 0, 0)]) rfl fhp181)
                       have h183 : sf_rd hp181 69 2 = some z11.toInt := (fhp181.2.2.1 _ (bs_R.uq Hhp97 (g := 11) (p := 69) rfl).1 _ (by rw [(bs_R.uq Hhp97 (g := 11) (p := 69) rfl).2]; rfl)).trans i100
                       have h184 : sf_rd hp181 69 19 = some (l : Int) := (fhp181.2.2.1 _ (bs_R.uq Hhp97 (g := 11) (p := 69) rfl).1 _ (by rw [(bs_R.uq Hhp97 (g := 11) (p := 69) rfl).2]; rfl)).trans L19
                       obtain ⟨uz182, vz182⟩ := bs_s1 (x := z182.toInt) rfl (php181 _ (List.mem_of_getElem? (i := 0) rfl))
                       refine (show Ev _ 91 ([some (.ref 69), some (.int k65)], [.int z182], (0, 0), hp181) _ from ?_)
                       have XL := xhp181 rfl
                       refine bs_ifeq rfl (fun c185 => ?_) (fun c185 => ?_)
                       · skip
                         have c186 : z182.toInt = 0 := by omega
                         refine bs_lit (k := -1) rfl rfl fun z187 hz187 => ?_
                         exact by
                          refine Ev.step (j := 105) (s' := ([some (.ref 69), some (.int k65)], [.ref 69, .int z187], (0, 0), hp181)) rfl rfl ?_
                          refine bs_getI 11 rfl rfl rfl Hhp181 (bs_R.uq Hhp181 (g := 11) rfl) (by decide) rfl fun z188 hz188 lz188 gz188 => ?_
                          first | (refine bs_sub rfl (by omega) (by omega) fun z189 hz189 => ?_) | (refine bs_any rfl fun z189 => ?_)
                          have rz189 := n_range z189
                          exact Ev.ret rfl rfl (by rw [hQ]; exact ⟨thp181, Hhp181, Fhp181, bs_an0, sf_S_cons (sf_s1 (x := z11.toInt) (show sf_v1 _ _ _ 36008 = _ from h183) (by omega) (by omega)) (sf_S_nil), (fun n hn_ => by
                                  have eqN : n = n0 := Option.some.inj (hn_.symm.trans hn0); subst eqN; rw [← hBB]
                                  have K0N : (tok BB n.toNat 900 i).k ≠ 0 := fun e => by rw [e] at KK; have KK2 : _ = (0 : Int) := KK; omega
                                  obtain ⟨f2, j2, HL, Q4, Q5⟩ := RRES_neg XL (by omega)
                                  have PE := Option.some.inj (hz188.symm.trans Q5)
                                  exact ⟨z189, f2, s, rfl, ⟨l, i, LN, (stp_bad K0N HL).trans (congrArg some (Prod.ext (by show -1 - (tok BB n.toNat 900 j2).pl = _; omega) rfl))⟩, h183.trans (congrArg some (by omega))⟩)⟩)
                       · skip
                         obtain ⟨s2, j2, HL, S2, K2⟩ := RRES_pos XL (by omega)
                         have LO : i + 2 ≤ j2 := by have := lnx_ok (tok BB n0.toNat 900) s i; rw [HL] at this; exact this
                         have R2 := RES_fr Hhp97 fhp181 rfl R0
                         refine Ev.step (j := 95) (s' := ([some (.ref 69), some (.int k65)], [.ref 69], (0, 0), hp181)) rfl rfl ?_
                         exact by
                          refine bs_lit (k := 59) rfl rfl fun z190 hz190 => ?_
                          refine bs_callx (K := kq_X11_sign_v) [.ref 69, .int z190] [] rfl ce_X11_sign_v Hhp181 rfl rfl rfl (bs_rcv (g := 11) Hhp181 (bs_R.uq Hhp181 (g := 11) rfl) (by decide) rfl) rfl ?_ (sf_S_cons (sf_s1 (x := z190.toInt) rfl (by omega) (by omega)) (sf_S_nil)) fun r191 hp192 thp192 Hhp192 fhp192 ahp192 php192 xhp192 => ?_
                          · intro q k h
                            match q, h with
                            | 0, h => cases h; exact bs_jR (bs_R.uq Hhp181 (g := 11) rfl)
                            | 1, h => cases h; exact sf_j0
                            | q + 2, h => cases h
                          obtain ⟨z193, rfl⟩ := bs_anI ahp192
                          have rgz193 := n_range z193
                          have Fhp192 := sf_fr_tr Fhp181 (sf_fr_wider (W := [(11, 0, 0), (11, 2, 5), (11, 11, 20), (11, 25, 25), (132, 0, 433), (133, 0, 119), (135, 0, 0), (137, 0, 3), (999, 0, 0)]) rfl fhp192)
                          have h194 : sf_rd hp192 69 2 = some z11.toInt := (fhp192.2.2.1 _ (bs_R.uq Hhp181 (g := 11) (p := 69) rfl).1 _ (by rw [(bs_R.uq Hhp181 (g := 11) (p := 69) rfl).2]; rfl)).trans h183
                          have h195 : sf_rd hp192 69 19 = some (l : Int) := (fhp192.2.2.1 _ (bs_R.uq Hhp181 (g := 11) (p := 69) rfl).1 _ (by rw [(bs_R.uq Hhp181 (g := 11) (p := 69) rfl).2]; rfl)).trans h184
                          obtain ⟨uz193, vz193⟩ := bs_s1 (x := z193.toInt) rfl (php192 _ (List.mem_of_getElem? (i := 0) rfl))
                          refine (show Ev _ 100 ([some (.ref 69), some (.int k65)], [.int z193], (0, 0), hp192) _ from ?_)
                          obtain ⟨q196, rq196, X197⟩ := xhp192 _ BB n0.toNat 900 j2 rfl K2
                          obtain rfl := Value.int.inj (Option.some.inj rq196)
                          refine bs_ifne rfl (fun c198 => ?_) (fun c198 => ?_)
                          · skip
                            obtain ⟨Q0, Q1, Q2, Q3⟩ := X197.resolve_right (fun h => absurd h.1 (by omega))
                            have S3 := SR_fr Hhp181 fhp192 rfl rfl rfl rfl S2
                            have R3 := RES_fr Hhp181 fhp192 rfl R2
                            have PSB := psi_ge K2.1.2.1 K2.1.2.2.1
                            have PSL := fhp181.2.2.2.2 rfl
                            have TG := tps_gt (B := BB) (n := n0.toNat) (lim := 900) (j := j2) (by omega) (by omega)
                            have TM := tps_mono (B := BB) (n := n0.toNat) (lim := 900) (i := i) (j2 - i)
                            rw [show i + (j2 - i) = j2 by omega] at TM
                            have tn1 : tps BB n0.toNat 900 (j2 + 1) ≤ n0.toNat := tps_n (j2 + 1)
                            have K59 : rkk (tok BB n0.toNat 900 j2).k = 3 := by rw [Q1]; rfl
                            have NXE : (tok BB n0.toNat 900 j2).nx = tps BB n0.toNat 900 (j2 + 1) := rfl
                            refine Ev.step (j := 111) (s' := ([some (.ref 69), some (.int k65)], [.ref 69], (0, 0), hp192)) rfl rfl ?_
                            exact by
                             refine Ev.step (j := 112) (s' := ([some (.ref 69), some (.int k65)], [.ref 69, .ref 69], (0, 0), hp192)) rfl rfl ?_
                             refine bs_getI 11 rfl rfl rfl Hhp192 (bs_R.uq Hhp192 (g := 11) rfl) (by decide) rfl fun z199 hz199 lz199 gz199 => ?_
                             have e200 : z199.toInt = (l : Int) := Option.some.inj (hz199.symm.trans h195)
                             refine bs_lit (k := 1) rfl rfl fun z201 hz201 => ?_
                             first | (refine bs_add rfl (by omega) (by omega) fun z202 hz202 => ?_) | (refine bs_any rfl fun z202 => ?_)
                             have rz202 := n_range z202
                             refine bs_putIv (W := [(11, 19, 19)]) (g := 11) rfl rfl Hhp192 (bs_R.uq Hhp192 (g := 11) rfl) (by decide) rfl rfl rfl rfl (Or.inl rfl) (by omega) (by omega) fun hp203 Hhp203 fhp203 rhp203 ehp203 qhp203 nhp203 => ?_
                             have Fhp203 := sf_fr_tr Fhp192 (sf_fr_wider (W := [(11, 0, 0), (11, 2, 5), (11, 11, 20), (11, 25, 25), (132, 0, 433), (133, 0, 119), (135, 0, 0), (137, 0, 3), (999, 0, 0)]) rfl fhp203)
                             have h204 : sf_rd hp203 69 2 = some z11.toInt := (ehp203 _ _ (Or.inr (by omega))).trans h194
                             have K4 := RK_keep Hhp192 fhp203 rfl rfl (nhp203 _ _) Q2
                             have S4 := SR_fr Hhp192 fhp203 rfl rfl rfl rfl S3
                             have R4 := RES_fr Hhp192 fhp203 rfl R3
                             have PS4 := fhp203.2.2.2.2 rfl
                             refine Ev.step (j := 80) (s' := ([some (.ref 69), some (.int k65)], [], (0, 0), hp203)) rfl rfl ?_
                             have INV : ∃ (s : PS) (i l : Nat), sf_rd hp203 69 19 = some (l : Int) ∧ lns (tok BB n0.toNat 900) l = some (s, i) ∧ SR hp203 s ∧ RK hp203 BB n0.toNat 900 i ∧ RES hp203 ∧ l ≤ tps BB n0.toNat 900 i := ⟨s2, j2 + 1, l + 1, rhp203.trans (congrArg some (by omega)), lns_next LN (fun e => by rw [e] at KK; have KK2 : _ = (0 : Int) := KK; omega) HL Q1, S4, K4, R4, by omega⟩
                             refine ih99 (hp203, thp192) ⟨Hhp203, Fhp203, h204, (by exact INV)⟩ ?_
                             show (sf_psi hp203).toNat < (sf_psi hp97).toNat
                             omega
                          · skip
                            have c205 : z193.toInt = 0 := by omega
                            refine bs_lit (k := -1) rfl rfl fun z206 hz206 => ?_
                            exact by
                             refine Ev.step (j := 105) (s' := ([some (.ref 69), some (.int k65)], [.ref 69, .int z206], (0, 0), hp192)) rfl rfl ?_
                             refine bs_getI 11 rfl rfl rfl Hhp192 (bs_R.uq Hhp192 (g := 11) rfl) (by decide) rfl fun z207 hz207 lz207 gz207 => ?_
                             first | (refine bs_sub rfl (by omega) (by omega) fun z208 hz208 => ?_) | (refine bs_any rfl fun z208 => ?_)
                             have rz208 := n_range z208
                             exact Ev.ret rfl rfl (by rw [hQ]; exact ⟨thp192, Hhp192, Fhp192, bs_an0, sf_S_cons (sf_s1 (x := z11.toInt) (show sf_v1 _ _ _ 36008 = _ from h194) (by omega) (by omega)) (sf_S_nil), (fun n hn_ => by
                                     have eqN : n = n0 := Option.some.inj (hn_.symm.trans hn0); subst eqN; rw [← hBB]
                                     have K0N : (tok BB n.toNat 900 i).k ≠ 0 := fun e => by rw [e] at KK; have KK2 : _ = (0 : Int) := KK; omega
                                     obtain ⟨Q0, Q1, Q2, Q3⟩ := X197.resolve_left (fun h => absurd h.1 (by omega))
                                     have PE := Option.some.inj (hz207.symm.trans Q1)
                                     exact ⟨z208, 1, s, rfl, ⟨l, i, LN, (stp_sign K0N HL Q2).trans (congrArg some (Prod.ext (by show -1 - (tok BB n.toNat 900 j2).pl = _; omega) rfl))⟩, h194.trans (congrArg some (by omega))⟩)⟩)
               · skip
                 refine Ev.step (j := 56) (s' := ([some (.ref 69), some (.int k65)], [.ref 69], (0, 0), hp66)) rfl rfl ?_
                 exact by
                  refine bs_getU (g := 11) (g1 := 133) rfl rfl Hhp66 (bs_R.uq Hhp66 (g := 11) rfl) (by decide) rfl rfl ?_
                  refine Ev.step (j := 60) (s' := ([some (.ref 69), some (.int k65)], [.int k65, .ref 72], (0, 0), hp66)) rfl rfl ?_
                  refine bs_lit (k := 0) rfl rfl fun z209 hz209 => ?_
                  refine bs_stv (W := [(133, 0, 119)]) (g := 133) 0 119 (0, 0) rfl Hhp66 (bs_R.uq Hhp66 (g := 133) rfl) (by decide) rfl rfl (by decide) rfl rfl (by omega) (by omega) (by dsimp only; omega) (by dsimp only; omega) fun hp210 Hhp210 fhp210 rhp210 ehp210 qhp210 nhp210 => ?_
                  have Fhp210 := sf_fr_tr Fhp66 (sf_fr_wider (W := [(11, 0, 0), (11, 2, 5), (11, 11, 20), (11, 25, 25), (132, 0, 433), (133, 0, 119), (135, 0, 0), (137, 0, 3), (999, 0, 0)]) rfl fhp210)
                  have h211 : sf_rd hp210 69 2 = some z11.toInt := (ehp210 _ _ (Or.inl (by decide))).trans i69
                  have h212 : sf_rd hp210 69 3 = some z6.toInt := (ehp210 _ _ (Or.inl (by decide))).trans i70
                  have h213 : sf_rd hp210 69 4 = some z15.toInt := (ehp210 _ _ (Or.inl (by decide))).trans i71
                  have h214 : sf_rd hp210 69 5 = some z4.toInt := (ehp210 _ _ (Or.inl (by decide))).trans i72
                  have h215 : sf_rd hp210 69 19 = some z32.toInt := (ehp210 _ _ (Or.inl (by decide))).trans i73
                  have h216 : sf_rd hp210 69 20 = some z40.toInt := (ehp210 _ _ (Or.inl (by decide))).trans i74
                  refine bs_iinc (1) rfl rfl rfl rfl (by omega) (by omega) fun z217 hz217 => ?_
                  exact by
                   refine (show Ev _ 65 ([some (.ref 69), some (.int z217)], [], (0, 0), hp210) _ from ?_)
                   refine Ev.step (j := 49) (s' := ([some (.ref 69), some (.int z217)], [], (0, 0), hp210)) rfl rfl ?_
                   have INV : ∀ j : Nat, (j : Int) < z217.toInt → sf_rd hp210 72 j = some 0 := by
                     intro j hj
                     rcases (show (j : Int) < k65.toInt ∨ j = k65.toInt.toNat by omega) with h | h
                     · exact (ehp210 _ _ (Or.inr (by omega))).trans (i75 j h)
                     · rw [h]; exact rhp210.trans (congrArg some (by omega))
                   have T6 : ∀ j : Nat, j < 4 → sf_rd hp210 76 j = some 0 := fun j hj => (ehp210 _ _ (Or.inl (by decide))).trans (i76 j hj)
                   refine ih68 (z217, hp210, t67) ⟨Hhp210, Fhp210, h211, h212, h213, h214, h215, h216, (by first | exact INV | exact fun j h => absurd h (by omega)), (by exact T6), (by first | omega | assumption)⟩ ?_
                   show (120 - z217.toInt).toNat < (120 - k65.toInt).toNat
                   omega
            · skip
              refine Ev.step (j := 35) (s' := ([some (.ref 69), some (.int k50)], [.ref 69], (0, 0), hp51)) rfl rfl ?_
              exact by
               refine bs_getU (g := 11) (g1 := 137) rfl rfl Hhp51 (bs_R.uq Hhp51 (g := 11) rfl) (by decide) rfl rfl ?_
               refine Ev.step (j := 39) (s' := ([some (.ref 69), some (.int k50)], [.int k50, .ref 76], (0, 0), hp51)) rfl rfl ?_
               refine bs_lit (k := 0) rfl rfl fun z218 hz218 => ?_
               refine bs_stv (W := [(137, 0, 3)]) (g := 137) 0 3 (-2147483648, 2147483647) rfl Hhp51 (bs_R.uq Hhp51 (g := 137) rfl) (by decide) rfl rfl (by decide) rfl rfl (by omega) (by omega) (by dsimp only; omega) (by dsimp only; omega) fun hp219 Hhp219 fhp219 rhp219 ehp219 qhp219 nhp219 => ?_
               have Fhp219 := sf_fr_tr Fhp51 (sf_fr_wider (W := [(11, 0, 0), (11, 2, 5), (11, 11, 20), (11, 25, 25), (132, 0, 433), (133, 0, 119), (135, 0, 0), (137, 0, 3), (999, 0, 0)]) rfl fhp219)
               have h220 : sf_rd hp219 69 2 = some z11.toInt := (ehp219 _ _ (Or.inl (by decide))).trans i54
               have h221 : sf_rd hp219 69 3 = some z6.toInt := (ehp219 _ _ (Or.inl (by decide))).trans i55
               have h222 : sf_rd hp219 69 4 = some z15.toInt := (ehp219 _ _ (Or.inl (by decide))).trans i56
               have h223 : sf_rd hp219 69 5 = some z4.toInt := (ehp219 _ _ (Or.inl (by decide))).trans i57
               have h224 : sf_rd hp219 69 19 = some z32.toInt := (ehp219 _ _ (Or.inl (by decide))).trans i58
               have h225 : sf_rd hp219 69 20 = some z40.toInt := (ehp219 _ _ (Or.inl (by decide))).trans i59
               refine bs_iinc (1) rfl rfl rfl rfl (by omega) (by omega) fun z226 hz226 => ?_
               exact by
                refine (show Ev _ 44 ([some (.ref 69), some (.int z226)], [], (0, 0), hp219) _ from ?_)
                refine Ev.step (j := 29) (s' := ([some (.ref 69), some (.int z226)], [], (0, 0), hp219)) rfl rfl ?_
                have INV : ∀ j : Nat, (j : Int) < z226.toInt → sf_rd hp219 76 j = some 0 := by
                  intro j hj
                  rcases (show (j : Int) < k50.toInt ∨ j = k50.toInt.toNat by omega) with h | h
                  · exact (ehp219 _ _ (Or.inr (by omega))).trans (i60 j h)
                  · rw [h]; exact rhp219.trans (congrArg some (by omega))
                refine ih53 (z226, hp219, t52) ⟨Hhp219, Fhp219, h220, h221, h222, h223, h224, h225, (by first | exact INV | exact fun j h => absurd h (by omega)), (by first | omega | assumption)⟩ ?_
                show (4 - z226.toInt).toNat < (4 - k50.toInt).toNat
                omega
end
-- 63.b40.flat.lean.txt
section
/-! ===== FLAT: what lies in a heap, as functions of places; what a run that comes to an end has done (no premise but kinds of fields) ===== -/
def gi (hp : ab_H) (a k : Nat) : Int32 := match hp.2 a with
  | .inr o => match o.2[k]? with
    | some (.int x) => x
    | _ => 0
  | .inl x => match x.2.2 with
    | .inl f => f k
    | _ => 0
def gl (hp : ab_H) (a k : Nat) : Int64 := match hp.2 a with
  | .inr o => match o.2[k]? with
    | some (.long x) => x
    | _ => 0
  | .inl x => match x.2.2 with
    | .inr (.inl f) => f k
    | _ => 0
def gr (hp : ab_H) (a k : Nat) : Value := match hp.2 a with
  | .inr o => match o.2[k]? with
    | some (.ref b) => .ref b
    | _ => .null
  | .inl x => match x.2.2 with
    | .inr (.inr (.inr (.inr f))) => ab_rf (f k)
    | _ => .null
def gn (hp : ab_H) (a : Nat) : Nat := match hp.2 a with
  | .inl x => x.2.1
  | _ => 0
/-- ints, references, longs, how many places, how long an array is -/
abbrev FW : Type := (Nat → Nat → Int32) × (Nat → Nat → Value) × (Nat → Nat → Int64) × Nat × (Nat → Nat)
def fl (hp : ab_H) : FW := (gi hp, gr hp, gl hp, hp.1, gn hp)
def fp (F : FW) (a k : Nat) (x : Int32) : FW := (fun p j => if p = a ∧ j = k then x else F.1 p j, F.2)
def fpr (F : FW) (a k : Nat) (v : Value) : FW := (F.1, fun p j => if p = a ∧ j = k then v else F.2.1 p j, F.2.2)
def fpl (F : FW) (a k : Nat) (x : Int64) : FW := (F.1, F.2.1, fun p j => if p = a ∧ j = k then x else F.2.2.1 p j, F.2.2.2)
/-- n elements of a from sp on come into b from dp on -/
def fcp (F : FW) (a b sp dp n : Nat) : FW := (fun p j => if p = b ∧ dp ≤ j ∧ j < dp + n then F.1 a (sp + (j - dp)) else F.1 p j, F.2.1, fun p j => if p = b ∧ dp ≤ j ∧ j < dp + n then F.2.2.1 a (sp + (j - dp)) else F.2.2.1 p j, F.2.2.2)
def tyv (k : Nat) (v : Value) : Bool := match v with
  | .int _ => k == 0
  | .ref _ => k == 1
  | .null => k == 1
  | .long _ => k == 2
  | _ => false
def fk (c k : Nat) : Nat := match (sf_C c)[k]? with
  | some x => x.1
  | none => 9
def wt (hp : ab_H) : Prop := ∀ (a c : Nat) (fs : List Value) (k : Nat) (v : Value), a < hp.1 → hp.2 a = .inr (c, fs) → fs[k]? = some v → fk c k = 9 ∨ tyv (fk c k) v = true
theorem fk_o (g k : Nat) : fk (sf_o g) k = fk g k := by
  by_cases h : 13 ≤ g ∧ g < 16
  · obtain ⟨h1, h2⟩ := h
    have h3 : g = 13 ∨ g = 14 ∨ g = 15 := by omega
    by_cases hk : k < 10
    · have : ∀ k : Nat, k < 10 → fk (sf_o 13) k = fk 13 k ∧ fk (sf_o 14) k = fk 14 k ∧ fk (sf_o 15) k = fk 15 k := by decide
      rcases h3 with rfl | rfl | rfl
      · exact (this k hk).1
      · exact (this k hk).2.1
      · exact (this k hk).2.2
    · have e : ∀ g, (sf_C g).length ≤ 10 → fk g k = 9 := fun g hg => by
        unfold fk
        rw [List.getElem?_eq_none_iff.mpr (by omega)]
      rcases h3 with rfl | rfl | rfl
      · rw [e _ (by decide), e _ (by decide)]
      · rw [e _ (by decide), e _ (by decide)]
      · rw [e _ (by decide), e _ (by decide)]
  · have e : sf_o g = g := by
      unfold sf_o
      cases h1 : decide (13 ≤ g) with
      | false => rfl
      | true =>
        cases h2 : decide (g < 16) with
        | false => rfl
        | true => exact absurd ⟨of_decide_eq_true h1, of_decide_eq_true h2⟩ h
    rw [e]
theorem wt_of {t : Nat → Nat} {hp : ab_H} (H : sf_h t hp) : wt hp := by
  intro a c fs k v ha hc hv
  have h := H.1 a ha
  rw [hc] at h
  obtain ⟨h1, -, h3⟩ := h
  have h1' : c = sf_o (t a) := h1
  subst h1'
  rw [fk_o]
  unfold fk
  cases e : (sf_C (t a))[k]? with
  | none => exact Or.inl rfl
  | some q =>
    obtain ⟨w, hw, hs⟩ := h3 k q e
    have hw' : fs[k]? = some w := hw
    rw [hv] at hw'
    obtain rfl := Option.some.inj hw'
    refine Or.inr ?_
    show tyv q.1 v = true
    cases v with
    | int x => rw [show q.1 = 0 from hs.1]; rfl
    | ref x => rw [show q.1 = 1 from hs.1]; rfl
    | null => rw [show q.1 = 1 from hs.1]; rfl
    | long x => rw [show q.1 = 2 from hs]; rfl
    | _ => exact hs.elim
theorem wt_up {hp : ab_H} {a c k : Nat} {fs : List Value} {v : Value} (h : wt hp) (ha : a < hp.1) (e : hp.2 a = .inr (c, fs)) (hv : fk c k = 9 ∨ tyv (fk c k) v = true) : wt (ab_up hp a (.inr (c, fs.set k v))) := by
  intro a' c' fs' k' v' ha' e' hv'
  by_cases h1 : a' = a
  · subst h1
    rw [ab_up_eq] at e'
    obtain ⟨rfl, rfl⟩ := Prod.mk.inj (Sum.inr.inj e')
    by_cases h2 : k = k'
    · subst h2
      by_cases h3 : k < fs.length
      · rw [List.getElem?_set_self h3] at hv'
        obtain rfl := Option.some.inj hv'
        exact hv
      · rw [List.getElem?_eq_none_iff.mpr (by rw [List.length_set]; omega)] at hv'
        cases hv'
    · rw [List.getElem?_set_ne h2] at hv'
      exact h _ _ _ _ _ ha e hv'
  · rw [ab_up_ne h1] at e'
    exact h _ _ _ _ _ ha' e' hv'
theorem wt_upA {hp : ab_H} {a : Nat} {x : Nat × vp_A} (h : wt hp) : wt (ab_up hp a (.inl x)) := by
  intro a' c' fs' k' v' ha' e' hv'
  by_cases h1 : a' = a
  · subst h1
    rw [ab_up_eq] at e'
    cases e'
  · rw [ab_up_ne h1] at e'
    exact h _ _ _ _ _ ha' e' hv'
theorem wt_push {hp : ab_H} {c : Nat} {fs : List Value} (h : wt hp) (hf : ∀ k v, fs[k]? = some v → fk c k = 9 ∨ tyv (fk c k) v = true) : wt (ab_push hp (.inr (c, fs))) := by
  intro a' c' fs' k' v' ha' e' hv'
  have ha'' : a' < hp.1 + 1 := ha'
  have e'' : (if a' = hp.1 then Sum.inr (c, fs) else hp.2 a') = Sum.inr (c', fs') := e'
  by_cases h1 : a' = hp.1
  · rw [if_pos h1] at e''
    obtain ⟨rfl, rfl⟩ := Prod.mk.inj (Sum.inr.inj e'')
    exact hf _ _ hv'
  · rw [if_neg h1] at e''
    exact h _ _ _ _ _ (by omega) e'' hv'
theorem wt_pushA {hp : ab_H} {x : Nat × vp_A} (h : wt hp) : wt (ab_push hp (.inl x)) := by
  intro a' c' fs' k' v' ha' e' hv'
  have ha'' : a' < hp.1 + 1 := ha'
  have e'' : (if a' = hp.1 then Sum.inl x else hp.2 a') = Sum.inr (c', fs') := e'
  by_cases h1 : a' = hp.1
  · rw [if_pos h1] at e''
    cases e''
  · rw [if_neg h1] at e''
    exact h _ _ _ _ _ (by omega) e'' hv'
/-! ===== what one step does to the functions ===== -/
theorem fl_put {hp : ab_H} {a c k : Nat} {fs : List Value} {x y : Int32} (e : hp.2 a = .inr (c, fs)) (hy : fs[k]? = some (.int y)) : fl (ab_up hp a (.inr (c, fs.set k (.int x)))) = fp (fl hp) a k x := by
  have hk : k < fs.length := (List.getElem?_eq_some_iff.mp hy).1
  refine Prod.ext (funext fun p => funext fun j => ?_) (Prod.ext (funext fun p => funext fun j => ?_) (Prod.ext (funext fun p => funext fun j => ?_) (Prod.ext rfl (funext fun p => ?_))))
  · show gi _ p j = if p = a ∧ j = k then x else gi hp p j
    by_cases h1 : p = a
    · subst h1
      by_cases h2 : j = k
      · subst h2
        rw [if_pos ⟨rfl, rfl⟩]
        unfold gi
        rw [ab_up_eq]
        dsimp only
        rw [List.getElem?_set_self hk]
      · rw [if_neg (fun q => h2 q.2)]
        unfold gi
        rw [ab_up_eq, e]
        dsimp only
        rw [List.getElem?_set_ne (Ne.symm h2)]
    · rw [if_neg (fun q => h1 q.1)]
      unfold gi
      rw [ab_up_ne h1]
  · show gr _ p j = gr hp p j
    by_cases h1 : p = a
    · subst h1
      unfold gr
      rw [ab_up_eq, e]
      dsimp only
      by_cases h2 : j = k
      · subst h2
        rw [List.getElem?_set_self hk, hy]
      · rw [List.getElem?_set_ne (Ne.symm h2)]
    · unfold gr
      rw [ab_up_ne h1]
  · show gl _ p j = gl hp p j
    by_cases h1 : p = a
    · subst h1
      unfold gl
      rw [ab_up_eq, e]
      dsimp only
      by_cases h2 : j = k
      · subst h2
        rw [List.getElem?_set_self hk, hy]
      · rw [List.getElem?_set_ne (Ne.symm h2)]
    · unfold gl
      rw [ab_up_ne h1]
  · show gn _ p = gn hp p
    unfold gn
    by_cases h1 : p = a
    · subst h1
      rw [ab_up_eq, e]
    · rw [ab_up_ne h1]
theorem fl_putr {hp : ab_H} {a c k : Nat} {fs : List Value} {v w : Value} (e : hp.2 a = .inr (c, fs)) (hy : fs[k]? = some w) (hw : w = .null ∨ ∃ b, w = .ref b) (hv : v = .null ∨ ∃ b, v = .ref b) : fl (ab_up hp a (.inr (c, fs.set k v))) = fpr (fl hp) a k v := by
  have hk : k < fs.length := (List.getElem?_eq_some_iff.mp hy).1
  refine Prod.ext (funext fun p => funext fun j => ?_) (Prod.ext (funext fun p => funext fun j => ?_) (Prod.ext (funext fun p => funext fun j => ?_) (Prod.ext rfl (funext fun p => ?_))))
  · show gi _ p j = gi hp p j
    by_cases h1 : p = a
    · subst h1
      unfold gi
      rw [ab_up_eq, e]
      dsimp only
      by_cases h2 : j = k
      · subst h2
        rw [List.getElem?_set_self hk, hy]
        rcases hw with rfl | ⟨b, rfl⟩ <;> rcases hv with rfl | ⟨d, rfl⟩ <;> rfl
      · rw [List.getElem?_set_ne (Ne.symm h2)]
    · unfold gi
      rw [ab_up_ne h1]
  · show gr _ p j = if p = a ∧ j = k then v else gr hp p j
    by_cases h1 : p = a
    · subst h1
      by_cases h2 : j = k
      · subst h2
        rw [if_pos ⟨rfl, rfl⟩]
        unfold gr
        rw [ab_up_eq]
        dsimp only
        rw [List.getElem?_set_self hk]
        rcases hv with rfl | ⟨d, rfl⟩ <;> rfl
      · rw [if_neg (fun q => h2 q.2)]
        unfold gr
        rw [ab_up_eq, e]
        dsimp only
        rw [List.getElem?_set_ne (Ne.symm h2)]
    · rw [if_neg (fun q => h1 q.1)]
      unfold gr
      rw [ab_up_ne h1]
  · show gl _ p j = gl hp p j
    by_cases h1 : p = a
    · subst h1
      unfold gl
      rw [ab_up_eq, e]
      dsimp only
      by_cases h2 : j = k
      · subst h2
        rw [List.getElem?_set_self hk, hy]
        rcases hw with rfl | ⟨b, rfl⟩ <;> rcases hv with rfl | ⟨d, rfl⟩ <;> rfl
      · rw [List.getElem?_set_ne (Ne.symm h2)]
    · unfold gl
      rw [ab_up_ne h1]
  · show gn _ p = gn hp p
    unfold gn
    by_cases h1 : p = a
    · subst h1
      rw [ab_up_eq, e]
    · rw [ab_up_ne h1]
/-- an array of ints anew -/
theorem fl_arr {hp : ab_H} {a t n : Nat} {f g : Nat → Int32} (e : hp.2 a = .inl (t, n, .inl f)) : fl (ab_up hp a (.inl (t, n, .inl g))) = (fun p j => if p = a then g j else gi hp p j, (fl hp).2) := by
  refine Prod.ext (funext fun p => funext fun j => ?_) (Prod.ext (funext fun p => funext fun j => ?_) (Prod.ext (funext fun p => funext fun j => ?_) (Prod.ext rfl (funext fun p => ?_))))
  · show gi _ p j = if p = a then g j else gi hp p j
    by_cases h1 : p = a
    · subst h1
      rw [if_pos rfl]
      unfold gi
      rw [ab_up_eq]
    · rw [if_neg h1]
      unfold gi
      rw [ab_up_ne h1]
  · show gr _ p j = gr hp p j
    by_cases h1 : p = a
    · subst h1
      unfold gr
      rw [ab_up_eq, e]
    · unfold gr
      rw [ab_up_ne h1]
  · show gl _ p j = gl hp p j
    by_cases h1 : p = a
    · subst h1
      unfold gl
      rw [ab_up_eq, e]
    · unfold gl
      rw [ab_up_ne h1]
  · show gn _ p = gn hp p
    unfold gn
    by_cases h1 : p = a
    · subst h1
      rw [ab_up_eq, e]
    · rw [ab_up_ne h1]
theorem fl_arrL {hp : ab_H} {a t n : Nat} {f g : Nat → Int64} (e : hp.2 a = .inl (t, n, .inr (.inl f))) : fl (ab_up hp a (.inl (t, n, .inr (.inl g)))) = (gi hp, gr hp, fun p j => if p = a then g j else gl hp p j, (fl hp).2.2.2) := by
  refine Prod.ext (funext fun p => funext fun j => ?_) (Prod.ext (funext fun p => funext fun j => ?_) (Prod.ext (funext fun p => funext fun j => ?_) (Prod.ext rfl (funext fun p => ?_))))
  · show gi _ p j = gi hp p j
    by_cases h1 : p = a
    · subst h1
      unfold gi
      rw [ab_up_eq, e]
    · unfold gi
      rw [ab_up_ne h1]
  · show gr _ p j = gr hp p j
    by_cases h1 : p = a
    · subst h1
      unfold gr
      rw [ab_up_eq, e]
    · unfold gr
      rw [ab_up_ne h1]
  · show gl _ p j = if p = a then g j else gl hp p j
    by_cases h1 : p = a
    · subst h1
      rw [if_pos rfl]
      unfold gl
      rw [ab_up_eq]
    · rw [if_neg h1]
      unfold gl
      rw [ab_up_ne h1]
  · show gn _ p = gn hp p
    unfold gn
    by_cases h1 : p = a
    · subst h1
      rw [ab_up_eq, e]
    · rw [ab_up_ne h1]
theorem fl_arrR {hp : ab_H} {a t n : Nat} {f g : Nat → Option Nat} (e : hp.2 a = .inl (t, n, .inr (.inr (.inr (.inr f))))) : fl (ab_up hp a (.inl (t, n, .inr (.inr (.inr (.inr g)))))) = (gi hp, fun p j => if p = a then ab_rf (g j) else gr hp p j, (fl hp).2.2) := by
  refine Prod.ext (funext fun p => funext fun j => ?_) (Prod.ext (funext fun p => funext fun j => ?_) (Prod.ext (funext fun p => funext fun j => ?_) (Prod.ext rfl (funext fun p => ?_))))
  · show gi _ p j = gi hp p j
    by_cases h1 : p = a
    · subst h1
      unfold gi
      rw [ab_up_eq, e]
    · unfold gi
      rw [ab_up_ne h1]
  · show gr _ p j = if p = a then ab_rf (g j) else gr hp p j
    by_cases h1 : p = a
    · subst h1
      rw [if_pos rfl]
      unfold gr
      rw [ab_up_eq]
    · rw [if_neg h1]
      unfold gr
      rw [ab_up_ne h1]
  · show gl _ p j = gl hp p j
    by_cases h1 : p = a
    · subst h1
      unfold gl
      rw [ab_up_eq, e]
    · unfold gl
      rw [ab_up_ne h1]
  · show gn _ p = gn hp p
    unfold gn
    by_cases h1 : p = a
    · subst h1
      rw [ab_up_eq, e]
    · rw [ab_up_ne h1]
end
-- 63.b41.pv.lean.txt
section
/-! ===== the steps, backwards: what came of a step that was done ===== -/
theorem v_getf {ci k a : Nat} {lo : List (Option Value)} {st : List Value} {u : Nat × Nat} {hp : ab_H} {s : ab_S} (e : ab_getf ci k (lo, .ref a :: st, u, hp) = some s) : ∃ fs v, a < hp.1 ∧ hp.2 a = .inr (ci, fs) ∧ fs[k]? = some v ∧ s = (lo, v :: st, u, hp) := by
  unfold ab_getf at e
  dsimp only at e
  by_cases ha : a < hp.1
  · rw [decide_eq_true ha, cond_true] at e
    split at e
    · rename_i o ho
      by_cases hc : o.1 = ci
      · rw [show (o.1 == ci) = true from by simp [hc], cond_true] at e
        split at e
        · rename_i v hv
          exact ⟨o.2, v, ha, by rw [ho, ← hc], hv, (Option.some.inj e).symm⟩
        · cases e
      · rw [show (o.1 == ci) = false from by simp [hc], cond_false] at e
        cases e
    · cases e
  · rw [decide_eq_false ha, cond_false] at e
    cases e
theorem v_putf {ci k kd a : Nat} {v : Value} {lo : List (Option Value)} {st : List Value} {u : Nat × Nat} {hp : ab_H} {s : ab_S} (e : ab_putf ci k kd (lo, v :: .ref a :: st, u, hp) = some s) : ∃ fs, a < hp.1 ∧ ab_fit kd v = true ∧ hp.2 a = .inr (ci, fs) ∧ k < fs.length ∧ s = (lo, st, u, ab_up hp a (.inr (ci, fs.set k v))) := by
  unfold ab_putf at e
  dsimp only at e
  by_cases ha : (decide (a < hp.1) && ab_fit kd v) = true
  · rw [ha, cond_true] at e
    rw [Bool.and_eq_true] at ha
    split at e
    · rename_i o ho
      by_cases hc : (o.1 == ci && decide (k < o.2.length)) = true
      · rw [hc, cond_true] at e
        rw [Bool.and_eq_true] at hc
        have h1 : o.1 = ci := by simpa using hc.1
        exact ⟨o.2, of_decide_eq_true ha.1, ha.2, by rw [ho, ← h1], of_decide_eq_true hc.2, (Option.some.inj e).symm⟩
      · rw [Bool.not_eq_true] at hc
        rw [hc, cond_false] at e
        cases e
    · cases e
  · rw [Bool.not_eq_true] at ha
    rw [ha, cond_false] at e
    cases e
theorem v_ald {t a : Nat} {x : Int32} {lo : List (Option Value)} {st : List Value} {u : Nat × Nat} {hp : ab_H} {s : ab_S} (e : ab_ald t (lo, .int x :: .ref a :: st, u, hp) = some s) : ∃ n f, a < hp.1 ∧ hp.2 a = .inl (t, n, .inl f) ∧ ab_in x n = true ∧ s = (lo, .int (f x.toNatClampNeg) :: st, u, hp) := by
  unfold ab_ald at e
  dsimp only at e
  by_cases ha : a < hp.1
  · rw [decide_eq_true ha, cond_true] at e
    split at e
    · rename_i t2 n f ho
      by_cases hc : (t2 == t && ab_in x n) = true
      · rw [hc, cond_true] at e
        rw [Bool.and_eq_true] at hc
        have h1 : t2 = t := by simpa using hc.1
        exact ⟨n, f, ha, by rw [ho, h1], hc.2, (Option.some.inj e).symm⟩
      · rw [Bool.not_eq_true] at hc
        rw [hc, cond_false] at e
        cases e
    · cases e
  · rw [decide_eq_false ha, cond_false] at e
    cases e
theorem v_ast {t a : Nat} {x y : Int32} {lo : List (Option Value)} {st : List Value} {u : Nat × Nat} {hp : ab_H} {s : ab_S} (e : ab_ast t (lo, .int y :: .int x :: .ref a :: st, u, hp) = some s) : ∃ n f, a < hp.1 ∧ hp.2 a = .inl (t, n, .inl f) ∧ ab_in x n = true ∧ s = (lo, st, u, ab_up hp a (.inl (t, n, .inl (upd f x.toNatClampNeg (ab_nar t y))))) := by
  unfold ab_ast at e
  dsimp only at e
  by_cases ha : a < hp.1
  · rw [decide_eq_true ha, cond_true] at e
    split at e
    · rename_i t2 n f ho
      by_cases hc : (t2 == t && ab_in x n) = true
      · rw [hc, cond_true] at e
        rw [Bool.and_eq_true] at hc
        have h1 : t2 = t := by simpa using hc.1
        exact ⟨n, f, ha, by rw [ho, h1], hc.2, (Option.some.inj e).symm⟩
      · rw [Bool.not_eq_true] at hc
        rw [hc, cond_false] at e
        cases e
    · cases e
  · rw [decide_eq_false ha, cond_false] at e
    cases e
theorem v_lald {a : Nat} {x : Int32} {lo : List (Option Value)} {st : List Value} {u : Nat × Nat} {hp : ab_H} {s : ab_S} (e : ab_lald (lo, .int x :: .ref a :: st, u, hp) = some s) : ∃ n f, a < hp.1 ∧ hp.2 a = .inl (2, n, .inr (.inl f)) ∧ ab_in x n = true ∧ s = (lo, .long (f x.toNatClampNeg) :: st, u, hp) := by
  unfold ab_lald at e
  dsimp only at e
  by_cases ha : a < hp.1
  · rw [decide_eq_true ha, cond_true] at e
    split at e
    · rename_i t2 n f ho
      by_cases hc : (t2 == 2 && ab_in x n) = true
      · rw [hc, cond_true] at e
        rw [Bool.and_eq_true] at hc
        have h1 : t2 = 2 := by simpa using hc.1
        exact ⟨n, f, ha, by rw [ho, h1], hc.2, (Option.some.inj e).symm⟩
      · rw [Bool.not_eq_true] at hc
        rw [hc, cond_false] at e
        cases e
    · cases e
  · rw [decide_eq_false ha, cond_false] at e
    cases e
theorem v_last {a : Nat} {x : Int32} {y : Int64} {lo : List (Option Value)} {st : List Value} {u : Nat × Nat} {hp : ab_H} {s : ab_S} (e : ab_last (lo, .long y :: .int x :: .ref a :: st, u, hp) = some s) : ∃ n f, a < hp.1 ∧ hp.2 a = .inl (2, n, .inr (.inl f)) ∧ ab_in x n = true ∧ s = (lo, st, u, ab_up hp a (.inl (2, n, .inr (.inl (vp_updL f x.toNatClampNeg y))))) := by
  unfold ab_last at e
  dsimp only at e
  by_cases ha : a < hp.1
  · rw [decide_eq_true ha, cond_true] at e
    split at e
    · rename_i t2 n f ho
      by_cases hc : (t2 == 2 && ab_in x n) = true
      · rw [hc, cond_true] at e
        rw [Bool.and_eq_true] at hc
        have h1 : t2 = 2 := by simpa using hc.1
        exact ⟨n, f, ha, by rw [ho, h1], hc.2, (Option.some.inj e).symm⟩
      · rw [Bool.not_eq_true] at hc
        rw [hc, cond_false] at e
        cases e
    · cases e
  · rw [decide_eq_false ha, cond_false] at e
    cases e
theorem v_aald {t a : Nat} {x : Int32} {lo : List (Option Value)} {st : List Value} {u : Nat × Nat} {hp : ab_H} {s : ab_S} (e : ab_aald t (lo, .int x :: .ref a :: st, u, hp) = some s) : ∃ n f, a < hp.1 ∧ hp.2 a = .inl (t, n, .inr (.inr (.inr (.inr f)))) ∧ ab_in x n = true ∧ s = (lo, ab_rf (f x.toNatClampNeg) :: st, u, hp) := by
  unfold ab_aald at e
  dsimp only at e
  by_cases ha : a < hp.1
  · rw [decide_eq_true ha, cond_true] at e
    split at e
    · rename_i t2 n f ho
      by_cases hc : (t2 == t && ab_in x n) = true
      · rw [hc, cond_true] at e
        rw [Bool.and_eq_true] at hc
        have h1 : t2 = t := by simpa using hc.1
        exact ⟨n, f, ha, by rw [ho, h1], hc.2, (Option.some.inj e).symm⟩
      · rw [Bool.not_eq_true] at hc
        rw [hc, cond_false] at e
        cases e
    · cases e
  · rw [decide_eq_false ha, cond_false] at e
    cases e
theorem v_aast {t ci a v : Nat} {x : Int32} {lo : List (Option Value)} {st : List Value} {u : Nat × Nat} {hp : ab_H} {s : ab_S} (e : ab_aast t ci (lo, .ref v :: .int x :: .ref a :: st, u, hp) = some s) : ∃ n f, a < hp.1 ∧ v < hp.1 ∧ hp.2 a = .inl (t, n, .inr (.inr (.inr (.inr f)))) ∧ ab_in x n = true ∧ s = (lo, st, u, ab_up hp a (.inl (t, n, .inr (.inr (.inr (.inr (va_up f x.toNatClampNeg (some v)))))))) := by
  unfold ab_aast at e
  dsimp only at e
  by_cases ha : (decide (a < hp.1) && decide (v < hp.1)) = true
  · rw [ha, cond_true] at e
    rw [Bool.and_eq_true] at ha
    split at e
    · rename_i t2 n f ho
      rw [Bool.cond_eq_ite] at e
      have hx : ∀ (b : Bool) (y : ab_S), (if (t2 == t && ab_in x n && b) = true then some y else none) = some s → (t2 == t && ab_in x n) = true ∧ s = y := fun b y hy => by
        by_cases hc : (t2 == t && ab_in x n && b) = true
        · rw [if_pos hc] at hy
          rw [Bool.and_eq_true] at hc
          exact ⟨hc.1, (Option.some.inj hy).symm⟩
        · rw [if_neg hc] at hy
          cases hy
      obtain ⟨hc, h2⟩ := hx _ _ e
      rw [Bool.and_eq_true] at hc
      have h1 : t2 = t := by simpa using hc.1
      exact ⟨n, f, of_decide_eq_true ha.1, of_decide_eq_true ha.2, by rw [ho, h1], hc.2, h2⟩
    · cases e
  · rw [Bool.not_eq_true] at ha
    rw [ha, cond_false] at e
    cases e
theorem v_copy {sp dp n : Int32} {a a0 : Nat} {lo : List (Option Value)} {st : List Value} {u : Nat × Nat} {hp : ab_H} {s : ab_S} (e : ab_copy (lo, .int n :: .int dp :: .ref a :: .int sp :: .ref a0 :: st, u, hp) = some s) :
    (∃ n0 n1 f g, hp.2 a0 = .inl (1, n0, .inl f) ∧ hp.2 a = .inl (1, n1, .inl g) ∧ s = (lo, st, u, ab_up hp a (.inl (1, n1, .inl (va_cpy f g sp.toNatClampNeg dp.toNatClampNeg n.toNatClampNeg))))) ∨
    ∃ n0 n1 f g, hp.2 a0 = .inl (2, n0, .inr (.inl f)) ∧ hp.2 a = .inl (2, n1, .inr (.inl g)) ∧ s = (lo, st, u, ab_up hp a (.inl (2, n1, .inr (.inl (va_cpy f g sp.toNatClampNeg dp.toNatClampNeg n.toNatClampNeg))))) := by
  unfold ab_copy at e
  dsimp only at e
  rw [Bool.cond_eq_ite] at e
  split at e
  · split at e
    · rename_i n0 f n1 g h0 h1
      rw [Bool.cond_eq_ite] at e
      split at e
      · exact Or.inl ⟨n0, n1, f, g, h0, h1, (Option.some.inj e).symm⟩
      · cases e
    · rename_i n0 f n1 g h0 h1
      rw [Bool.cond_eq_ite] at e
      split at e
      · exact Or.inr ⟨n0, n1, f, g, h0, h1, (Option.some.inj e).symm⟩
      · cases e
    · cases e
  · cases e
theorem v_call {nA mc ms MC MS : Nat} {X : List Value → ab_H → Option ab_O} {lo : List (Option Value)} {st : List Value} {u : Nat × Nat} {hp : ab_H} {s : ab_S} (e : ab_call nA X mc ms MC MS (lo, st, u, hp) = some s) : ∃ o, X (st.take nA).reverse hp = some o ∧ s = (lo, o.1.toList ++ st.drop nA, (u.1 + mc, u.2 + ms), o.2) := by
  unfold ab_call at e
  dsimp only at e
  rw [Bool.cond_eq_ite] at e
  split at e
  · split at e
    · rename_i o ho
      exact ⟨o, ho, (Option.some.inj e).symm⟩
    · cases e
  · cases e
/-! ===== RUNS: whatever a run from here comes to (fewer than N steps), it is so ===== -/
def Pv (T : Nat → Option ab_A) (N i : Nat) (lo : List (Option Value)) (st : List Value) (F : FW) (Q : Option Value → FW → Prop) : Prop := ∀ (f : Nat) (u : Nat × Nat) (hp : ab_H) (o : ab_O), f < N → wt hp → fl hp = F → ab_run T f i (lo, st, u, hp) = some o → wt o.2 ∧ Q o.1 (fl o.2)
/-- whatever X answers there, it is so -/
def Pm (X : List Value → ab_H → Option ab_O) (as : List Value) (F : FW) (Q : Option Value → FW → Prop) : Prop := ∀ (hp : ab_H) (o : ab_O), wt hp → fl hp = F → X as hp = some o → wt o.2 ∧ Q o.1 (fl o.2)
abbrev PI (X : List Value → ab_H → Option ab_O) (as : List Value) (F : FW) (z : Int32) (G : FW) : Prop := Pm X as F (fun r F' => r = some (.int z) ∧ F' = G)
abbrev PU (X : List Value → ab_H → Option ab_O) (as : List Value) (F : FW) (G : FW) : Prop := Pm X as F (fun r F' => r = none ∧ F' = G)
theorem Pm.of {L : List (Nat × ab_A)} {nL : Nat} {as : List Value} {F : FW} {Q : Option Value → FW → Prop} (h : ∀ N, Pv (ab_T L) N 0 (ab_en nL as) [] F Q) : Pm (ab_X (ab_T L) nL) as F Q := by
  intro hp o hw hF e
  obtain ⟨-, f, hf⟩ := ab_X_run e
  exact h (f + 1) f (0, 0) hp o (Nat.lt_succ_self f) hw hF hf
section PV
variable {T : Nat → Option ab_A} {N i j : Nat} {lo : List (Option Value)} {st : List Value} {F : FW} {Q : Option Value → FW → Prop}
theorem Pv.w (h : Pv T (N + 1) i lo st F Q) : Pv T N i lo st F Q := fun f u hp o hf => h f u hp o (Nat.lt_succ_of_lt hf)
theorem Pv.gen {a : ab_A} (hT : T i = some a) (h : ∀ u hp, wt hp → fl hp = F → (∀ j lo' st' u' hp', a (lo, st, u, hp) = some (.inl (j, lo', st', u', hp')) → wt hp' ∧ Pv T N j lo' st' (fl hp') Q) ∧ (∀ o, a (lo, st, u, hp) = some (.inr o) → wt o.2 ∧ Q o.1 (fl o.2))) : Pv T (N + 1) i lo st F Q := by
  intro f u hp o hf hw hF hr
  cases f with
  | zero => cases hr
  | succ f =>
    rw [ab_run, hT] at hr
    dsimp only at hr
    cases e : a (lo, st, u, hp) with
    | none =>
      rw [e] at hr
      cases hr
    | some q =>
      rw [e] at hr
      cases q with
      | inl q =>
        obtain ⟨j, lo', st', u', hp'⟩ := q
        obtain ⟨w, p⟩ := (h u hp hw hF).1 j lo' st' u' hp' e
        exact p f u' hp' o (by omega) w rfl hr
      | inr o' =>
        have e2 : o' = o := Option.some.inj hr
        subst e2
        exact (h u hp hw hF).2 o' e
theorem Pv.nx {f : ab_S → Option ab_S} (hT : T i = some (ab_nx j f)) (h : ∀ u hp s, wt hp → fl hp = F → f (lo, st, u, hp) = some s → wt s.2.2.2 ∧ Pv T N j s.1 s.2.1 (fl s.2.2.2) Q) : Pv T (N + 1) i lo st F Q := by
  refine Pv.gen hT fun u hp hw hF => ⟨fun j' lo' st' u' hp' e => ?_, fun o e => ?_⟩
  · unfold ab_nx at e
    split at e
    · rename_i s hs
      obtain ⟨rfl, rfl⟩ := Prod.mk.inj (Sum.inl.inj (Option.some.inj e))
      exact h u hp _ hw hF hs
    · cases e
  · unfold ab_nx at e
    split at e <;> cases e
/-- a step that leaves the heap alone -/
theorem Pv.pu {f : ab_S → Option ab_S} {lo' : List (Option Value)} {st' : List Value} (hT : T i = some (ab_nx j f)) (hf : ∀ u hp s, f (lo, st, u, hp) = some s → s = (lo', st', u, hp)) (h : Pv T N j lo' st' F Q) : Pv T (N + 1) i lo st F Q :=
  Pv.nx hT fun u hp s hw hF e => by
    obtain rfl := hf u hp s e
    refine ⟨hw, ?_⟩
    show Pv T N j lo' st' (fl hp) Q
    rw [hF]
    exact h
theorem Pv.litS {v : Value} (hT : T i = some (ab_nx j (ab_lit v))) (h : Pv T N j lo (v :: st) F Q) : Pv T (N + 1) i lo st F Q := Pv.pu hT (fun _ _ _ e => (Option.some.inj e).symm) h
theorem Pv.lit {v : Value} (hT : T i = some (ab_nx j (ab_lit v))) (h : Pv T N j lo (v :: st) F Q) : Pv T N i lo st F Q := (Pv.litS hT h).w
theorem Pv.iloadS {k : Nat} {x : Int32} (hT : T i = some (ab_nx j (ab_iload k))) (hl : lo[k]? = some (some (.int x))) (h : Pv T N j lo (.int x :: st) F Q) : Pv T (N + 1) i lo st F Q := Pv.pu hT (fun u hp s e => by
  unfold ab_iload at e
  dsimp only at e
  rw [hl] at e
  exact (Option.some.inj e).symm) h
theorem Pv.iload {k : Nat} {x : Int32} (hT : T i = some (ab_nx j (ab_iload k))) (hl : lo[k]? = some (some (.int x))) (h : Pv T N j lo (.int x :: st) F Q) : Pv T N i lo st F Q := (Pv.iloadS hT hl h).w
theorem Pv.lload {k : Nat} {x : Int64} (hT : T i = some (ab_nx j (ab_lload k))) (hl : lo[k]? = some (some (.long x))) (h : Pv T N j lo (.long x :: st) F Q) : Pv T N i lo st F Q := (Pv.pu hT (fun u hp s e => by
  unfold ab_lload at e
  dsimp only at e
  rw [hl] at e
  exact (Option.some.inj e).symm) h).w
theorem Pv.aloadS {k a : Nat} (hT : T i = some (ab_nx j (ab_aload k))) (hl : lo[k]? = some (some (.ref a))) (h : Pv T N j lo (.ref a :: st) F Q) : Pv T (N + 1) i lo st F Q := Pv.pu hT (fun u hp s e => by
  unfold ab_aload at e
  dsimp only at e
  rw [hl] at e
  exact (Option.some.inj e).symm) h
theorem Pv.aload {k a : Nat} (hT : T i = some (ab_nx j (ab_aload k))) (hl : lo[k]? = some (some (.ref a))) (h : Pv T N j lo (.ref a :: st) F Q) : Pv T N i lo st F Q := (Pv.aloadS hT hl h).w
theorem Pv.aloadN {k : Nat} (hT : T i = some (ab_nx j (ab_aload k))) (hl : lo[k]? = some (some .null)) (h : Pv T N j lo (.null :: st) F Q) : Pv T N i lo st F Q := (Pv.pu hT (fun u hp s e => by
  unfold ab_aload at e
  dsimp only at e
  rw [hl] at e
  exact (Option.some.inj e).symm) h).w
theorem Pv.istore {k : Nat} {x : Int32} {lo' : List (Option Value)} (hT : T i = some (ab_nx j (ab_istore k))) (hl : lo.set k (some (.int x)) = lo') (h : Pv T N j lo' st F Q) : Pv T N i lo (.int x :: st) F Q := (Pv.pu hT (fun u hp s e => by
  subst hl
  unfold ab_istore at e
  dsimp only at e
  rw [Bool.cond_eq_ite] at e
  split at e
  · exact (Option.some.inj e).symm
  · cases e) h).w
theorem Pv.astore {k a : Nat} {lo' : List (Option Value)} (hT : T i = some (ab_nx j (ab_astore k))) (hl : lo.set k (some (.ref a)) = lo') (h : Pv T N j lo' st F Q) : Pv T N i lo (.ref a :: st) F Q := (Pv.pu hT (fun u hp s e => by
  subst hl
  unfold ab_astore at e
  dsimp only at e
  rw [Bool.cond_eq_ite] at e
  split at e
  · exact (Option.some.inj e).symm
  · cases e) h).w
theorem Pv.astoreN {k : Nat} {lo' : List (Option Value)} (hT : T i = some (ab_nx j (ab_astore k))) (hl : lo.set k (some .null) = lo') (h : Pv T N j lo' st F Q) : Pv T N i lo (.null :: st) F Q := (Pv.pu hT (fun u hp s e => by
  subst hl
  unfold ab_astore at e
  dsimp only at e
  rw [Bool.cond_eq_ite] at e
  split at e
  · exact (Option.some.inj e).symm
  · cases e) h).w
theorem Pv.iinc {k : Nat} {n x y : Int32} {lo' : List (Option Value)} (hT : T i = some (ab_nx j (ab_iinc k n))) (hi : lo[k]? = some (some (.int x))) (hy : x + n = y) (hl : lo.set k (some (.int y)) = lo') (h : Pv T N j lo' st F Q) : Pv T N i lo st F Q := (Pv.pu hT (fun u hp s e => by
  subst hl hy
  unfold ab_iinc at e
  dsimp only at e
  rw [hi] at e
  dsimp only at e
  rw [Bool.cond_eq_ite] at e
  split at e
  · exact (Option.some.inj e).symm
  · cases e) h).w
theorem Pv.bin {g : Int32 → Int32 → Int32} {x y z : Int32} (hT : T i = some (ab_nx j (ab_bin g))) (hz : g x y = z) (h : Pv T N j lo (.int z :: st) F Q) : Pv T N i lo (.int y :: .int x :: st) F Q := (Pv.pu hT (fun _ _ _ e => by
  subst hz
  exact (Option.some.inj e).symm) h).w
theorem Pv.irem {x y z : Int32} (hT : T i = some (ab_nx j ab_irem)) (hz : x - x / y * y = z) (h : Pv T N j lo (.int z :: st) F Q) : Pv T N i lo (.int y :: .int x :: st) F Q := (Pv.pu hT (fun u hp s e => by
  subst hz
  unfold ab_irem at e
  dsimp only at e
  rw [Bool.cond_eq_ite] at e
  split at e
  · cases e
  · exact (Option.some.inj e).symm) h).w
theorem Pv.un {g : Int32 → Int32} {x z : Int32} (hT : T i = some (ab_nx j (ab_un g))) (hz : g x = z) (h : Pv T N j lo (.int z :: st) F Q) : Pv T N i lo (.int x :: st) F Q := (Pv.pu hT (fun _ _ _ e => by
  subst hz
  exact (Option.some.inj e).symm) h).w
theorem Pv.mm {g : Int32 → Int32 → Int32} {MC MS : Nat} {x y z : Int32} (hT : T i = some (ab_nx j (ab_mm g MC MS))) (hz : g x y = z) (h : Pv T N j lo (.int z :: st) F Q) : Pv T N i lo (.int y :: .int x :: st) F Q := (Pv.pu hT (fun u hp s e => by
  subst hz
  unfold ab_mm at e
  dsimp only at e
  rw [Bool.cond_eq_ite] at e
  split at e
  · exact (Option.some.inj e).symm
  · cases e) h).w
theorem Pv.dup {v : Value} (hT : T i = some (ab_nx j ab_dup)) (h : Pv T N j lo (v :: v :: st) F Q) : Pv T N i lo (v :: st) F Q := (Pv.pu hT (fun u hp s e => by
  unfold ab_dup at e
  dsimp only at e
  rw [Bool.cond_eq_ite] at e
  split at e
  · exact (Option.some.inj e).symm
  · cases e) h).w
theorem Pv.dup2 {v w : Value} (hT : T i = some (ab_nx j ab_dup2)) (h : Pv T N j lo (v :: w :: v :: w :: st) F Q) : Pv T N i lo (v :: w :: st) F Q := (Pv.pu hT (fun u hp s e => by
  unfold ab_dup2 at e
  dsimp only at e
  rw [Bool.cond_eq_ite] at e
  split at e
  · exact (Option.some.inj e).symm
  · cases e) h).w
theorem Pv.pop {v : Value} (hT : T i = some (ab_nx j ab_pop)) (h : Pv T N j lo st F Q) : Pv T N i lo (v :: st) F Q := (Pv.pu hT (fun u hp s e => by
  unfold ab_pop at e
  dsimp only at e
  rw [Bool.cond_eq_ite] at e
  split at e
  · exact (Option.some.inj e).symm
  · cases e) h).w
theorem Pv.obj {a : Nat} (hT : T i = some (ab_nx j ab_obj)) (h : Pv T N j lo st F Q) : Pv T N i lo (.ref a :: st) F Q := (Pv.pu hT (fun u hp s e => by
  unfold ab_obj at e
  dsimp only at e
  rw [Bool.cond_eq_ite] at e
  split at e
  · exact (Option.some.inj e).symm
  · cases e) h).w
theorem Pv.gotoS {t : Nat} (hT : T i = some (ab_goto t)) (h : Pv T N t lo st F Q) : Pv T (N + 1) i lo st F Q :=
  Pv.gen hT fun u hp hw hF => ⟨fun j' lo' st' u' hp' e => by
    obtain ⟨rfl, e2⟩ := Prod.mk.inj (Sum.inl.inj (Option.some.inj e))
    obtain ⟨rfl, e3⟩ := Prod.mk.inj e2
    obtain ⟨rfl, e4⟩ := Prod.mk.inj e3
    obtain ⟨rfl, rfl⟩ := Prod.mk.inj e4
    exact ⟨hw, by rw [hF]; exact h⟩, fun o e => by cases e⟩
theorem Pv.goto {t : Nat} (hT : T i = some (ab_goto t)) (h : Pv T N t lo st F Q) : Pv T N i lo st F Q := (Pv.gotoS hT h).w
theorem Pv.br {a : ab_A} {b : Bool} {t : Nat} {st' : List Value} (hT : T i = some a) (ha : ∀ u hp, a (lo, st, u, hp) = some (.inl (cond b t j, lo, st', u, hp))) (h1 : b = true → Pv T N t lo st' F Q) (h2 : b = false → Pv T N j lo st' F Q) : Pv T N i lo st F Q :=
  (Pv.gen hT fun u hp hw hF => ⟨fun j' lo' st'' u' hp' e => by
    rw [ha] at e
    obtain ⟨rfl, e2⟩ := Prod.mk.inj (Sum.inl.inj (Option.some.inj e))
    obtain ⟨rfl, e3⟩ := Prod.mk.inj e2
    obtain ⟨rfl, e4⟩ := Prod.mk.inj e3
    obtain ⟨rfl, rfl⟩ := Prod.mk.inj e4
    refine ⟨hw, ?_⟩
    rw [hF]
    cases b with
    | true => exact h1 rfl
    | false => exact h2 rfl, fun o e => by rw [ha] at e; cases e⟩).w
theorem Pv.if0 {t : Nat} {g : Int32 → Bool} {x : Int32} (hT : T i = some (ab_if j t g)) (h1 : g x = true → Pv T N t lo st F Q) (h2 : g x = false → Pv T N j lo st F Q) : Pv T N i lo (.int x :: st) F Q := Pv.br (b := g x) hT (fun _ _ => rfl) h1 h2
theorem Pv.icmp {t : Nat} {g : Int32 → Int32 → Bool} {x y : Int32} (hT : T i = some (ab_icmp j t g)) (h1 : g x y = true → Pv T N t lo st F Q) (h2 : g x y = false → Pv T N j lo st F Q) : Pv T N i lo (.int y :: .int x :: st) F Q := Pv.br (b := g x y) hT (fun _ _ => rfl) h1 h2
theorem Pv.nonnullR {t a : Nat} (hT : T i = some (ab_nonnull j t)) (h : Pv T N t lo st F Q) : Pv T N i lo (.ref a :: st) F Q := Pv.br (b := true) (t := t) (j := j) hT (fun _ _ => rfl) (fun _ => h) (fun e => by cases e)
theorem Pv.nonnullN {t : Nat} (hT : T i = some (ab_nonnull j t)) (h : Pv T N j lo st F Q) : Pv T N i lo (.null :: st) F Q := Pv.br (b := false) (t := t) (j := j) hT (fun _ _ => rfl) (fun e => by cases e) (fun _ => h)
theorem Pv.tab {lw : Int} {ts : List Nat} {d t : Nat} {x : Int32} (hT : T i = some (ab_tab lw ts d)) (ht : cond (decide (x.toInt < lw)) d ((ts[(x.toInt - lw).toNat]?).getD d) = t) (h : Pv T N t lo st F Q) : Pv T N i lo (.int x :: st) F Q :=
  Pv.br (b := true) (t := t) (j := t) hT (fun u hp => by
    subst ht
    rfl) (fun _ => h) (fun e => by cases e)
theorem Pv.ret {MC MS : Nat} {x : Int32} (hT : T i = some (ab_ret MC MS)) (h : Q (some (.int x)) F) : Pv T N i lo [.int x] F Q :=
  (Pv.gen hT fun u hp hw hF => ⟨fun j' lo' st' u' hp' e => by
    unfold ab_ret at e
    dsimp only at e
    rw [Bool.cond_eq_ite] at e
    split at e <;> (cases e), fun o e => by
    unfold ab_ret at e
    dsimp only at e
    rw [Bool.cond_eq_ite] at e
    split at e
    · obtain rfl := (Sum.inr.inj (Option.some.inj e))
      exact ⟨hw, by rw [hF]; exact h⟩
    · cases e⟩).w
theorem Pv.zret {MC MS : Nat} {x : Int32} (hT : T i = some (ab_zret MC MS)) (h : Q (some (.int x)) F) : Pv T N i lo [.int x] F Q :=
  (Pv.gen hT fun u hp hw hF => ⟨fun j' lo' st' u' hp' e => by
    unfold ab_zret at e
    dsimp only at e
    rw [Bool.cond_eq_ite] at e
    split at e <;> (cases e), fun o e => by
    unfold ab_zret at e
    dsimp only at e
    rw [Bool.cond_eq_ite] at e
    split at e
    · obtain rfl := (Sum.inr.inj (Option.some.inj e))
      exact ⟨hw, by rw [hF]; exact h⟩
    · cases e⟩).w
theorem Pv.vret {MC MS : Nat} (hT : T i = some (ab_vret MC MS)) (h : Q none F) : Pv T N i lo [] F Q :=
  (Pv.gen hT fun u hp hw hF => ⟨fun j' lo' st' u' hp' e => by
    unfold ab_vret at e
    dsimp only at e
    rw [Bool.cond_eq_ite] at e
    split at e <;> (cases e), fun o e => by
    unfold ab_vret at e
    dsimp only at e
    rw [Bool.cond_eq_ite] at e
    split at e
    · obtain rfl := (Sum.inr.inj (Option.some.inj e))
      exact ⟨hw, by rw [hF]; exact h⟩
    · cases e⟩).w
/-! ===== the heap's steps ===== -/
theorem Pv.getI {ci k a : Nat} {z : Int32} (hT : T i = some (ab_nx j (ab_getf ci k))) (hk : fk ci k = 0) (hz : F.1 a k = z) (h : Pv T N j lo (.int z :: st) F Q) : Pv T N i lo (.ref a :: st) F Q :=
  (Pv.nx hT fun u hp s hw hF e => by
    obtain ⟨fs, v, ha, hc, hv, rfl⟩ := v_getf e
    refine ⟨hw, ?_⟩
    show Pv T N j lo (v :: st) (fl hp) Q
    have hy := (hw a ci fs k v ha hc hv).resolve_left (by rw [hk]; decide)
    rw [hk] at hy
    cases v with
    | int x =>
      have e2 : x = z := by
        rw [← hz, ← hF]
        show x = gi hp a k
        unfold gi
        rw [hc]
        dsimp only
        rw [hv]
      rw [hF, e2]
      exact h
    | _ => cases hy).w
theorem Pv.getR {ci k a : Nat} {v : Value} (hT : T i = some (ab_nx j (ab_getf ci k))) (hk : fk ci k = 1) (hz : F.2.1 a k = v) (h : Pv T N j lo (v :: st) F Q) : Pv T N i lo (.ref a :: st) F Q :=
  (Pv.nx hT fun u hp s hw hF e => by
    obtain ⟨fs, w, ha, hc, hv, rfl⟩ := v_getf e
    refine ⟨hw, ?_⟩
    show Pv T N j lo (w :: st) (fl hp) Q
    have hy := (hw a ci fs k w ha hc hv).resolve_left (by rw [hk]; decide)
    rw [hk] at hy
    have e2 : w = v := by
      rw [← hz, ← hF]
      show w = gr hp a k
      unfold gr
      rw [hc]
      dsimp only
      rw [hv]
      cases w with
      | ref x => rfl
      | null => rfl
      | _ => cases hy
    rw [hF, e2]
    exact h).w
theorem Pv.getL {ci k a : Nat} {z : Int64} (hT : T i = some (ab_nx j (ab_getf ci k))) (hk : fk ci k = 2) (hz : F.2.2.1 a k = z) (h : Pv T N j lo (.long z :: st) F Q) : Pv T N i lo (.ref a :: st) F Q :=
  (Pv.nx hT fun u hp s hw hF e => by
    obtain ⟨fs, v, ha, hc, hv, rfl⟩ := v_getf e
    refine ⟨hw, ?_⟩
    show Pv T N j lo (v :: st) (fl hp) Q
    have hy := (hw a ci fs k v ha hc hv).resolve_left (by rw [hk]; decide)
    rw [hk] at hy
    cases v with
    | long x =>
      have e2 : x = z := by
        rw [← hz, ← hF]
        show x = gl hp a k
        unfold gl
        rw [hc]
        dsimp only
        rw [hv]
      rw [hF, e2]
      exact h
    | _ => cases hy).w
theorem Pv.putI {ci k kd a : Nat} {x : Int32} (hT : T i = some (ab_nx j (ab_putf ci k kd))) (hk : fk ci k = 0) (h : Pv T N j lo st (fp F a k x) Q) : Pv T N i lo (.int x :: .ref a :: st) F Q :=
  (Pv.nx hT fun u hp s hw hF e => by
    obtain ⟨fs, ha, -, hc, hl, rfl⟩ := v_putf e
    refine ⟨wt_up hw ha hc (Or.inr (by rw [hk]; rfl)), ?_⟩
    show Pv T N j lo st (fl (ab_up hp a (.inr (ci, fs.set k (.int x))))) Q
    have hv : fs[k]? = some fs[k] := List.getElem?_eq_getElem hl
    have hy := (hw a ci fs k _ ha hc hv).resolve_left (by rw [hk]; decide)
    rw [hk] at hy
    cases e2 : fs[k] with
    | int y =>
      rw [e2] at hv
      rw [fl_put hc hv, hF]
      exact h
    | _ =>
      rw [e2] at hy
      cases hy).w
theorem Pv.putR {ci k kd a : Nat} {v : Value} (hT : T i = some (ab_nx j (ab_putf ci k kd))) (hk : fk ci k = 1) (hv0 : v = .null ∨ ∃ b, v = .ref b) (h : Pv T N j lo st (fpr F a k v) Q) : Pv T N i lo (v :: .ref a :: st) F Q :=
  (Pv.nx hT fun u hp s hw hF e => by
    obtain ⟨fs, ha, -, hc, hl, rfl⟩ := v_putf e
    refine ⟨wt_up hw ha hc (Or.inr (by rw [hk]; rcases hv0 with rfl | ⟨b, rfl⟩ <;> rfl)), ?_⟩
    show Pv T N j lo st (fl (ab_up hp a (.inr (ci, fs.set k v)))) Q
    have hv : fs[k]? = some fs[k] := List.getElem?_eq_getElem hl
    have hy := (hw a ci fs k _ ha hc hv).resolve_left (by rw [hk]; decide)
    rw [hk] at hy
    have hw2 : fs[k] = .null ∨ ∃ b, fs[k] = .ref b := by
      cases e2 : fs[k] with
      | ref b => exact Or.inr ⟨b, rfl⟩
      | null => exact Or.inl rfl
      | _ =>
        rw [e2] at hy
        cases hy
    rw [fl_putr hc hv hw2 hv0, hF]
    exact h).w
theorem Pv.ald {t a : Nat} {x z : Int32} (hT : T i = some (ab_nx j (ab_ald t))) (hz : F.1 a x.toNatClampNeg = z) (h : Pv T N j lo (.int z :: st) F Q) : Pv T N i lo (.int x :: .ref a :: st) F Q :=
  (Pv.nx hT fun u hp s hw hF e => by
    obtain ⟨n, f, ha, hc, -, rfl⟩ := v_ald e
    refine ⟨hw, ?_⟩
    show Pv T N j lo (.int (f x.toNatClampNeg) :: st) (fl hp) Q
    have e2 : f x.toNatClampNeg = z := by
      rw [← hz, ← hF]
      show f x.toNatClampNeg = gi hp a x.toNatClampNeg
      unfold gi
      rw [hc]
    rw [hF, e2]
    exact h).w
theorem Pv.lald {a : Nat} {x : Int32} {z : Int64} (hT : T i = some (ab_nx j ab_lald)) (hz : F.2.2.1 a x.toNatClampNeg = z) (h : Pv T N j lo (.long z :: st) F Q) : Pv T N i lo (.int x :: .ref a :: st) F Q :=
  (Pv.nx hT fun u hp s hw hF e => by
    obtain ⟨n, f, ha, hc, -, rfl⟩ := v_lald e
    refine ⟨hw, ?_⟩
    show Pv T N j lo (.long (f x.toNatClampNeg) :: st) (fl hp) Q
    have e2 : f x.toNatClampNeg = z := by
      rw [← hz, ← hF]
      show f x.toNatClampNeg = gl hp a x.toNatClampNeg
      unfold gl
      rw [hc]
    rw [hF, e2]
    exact h).w
theorem Pv.aald {t a : Nat} {x : Int32} {v : Value} (hT : T i = some (ab_nx j (ab_aald t))) (hz : F.2.1 a x.toNatClampNeg = v) (h : Pv T N j lo (v :: st) F Q) : Pv T N i lo (.int x :: .ref a :: st) F Q :=
  (Pv.nx hT fun u hp s hw hF e => by
    obtain ⟨n, f, ha, hc, -, rfl⟩ := v_aald e
    refine ⟨hw, ?_⟩
    show Pv T N j lo (ab_rf (f x.toNatClampNeg) :: st) (fl hp) Q
    have e2 : ab_rf (f x.toNatClampNeg) = v := by
      rw [← hz, ← hF]
      show ab_rf (f x.toNatClampNeg) = gr hp a x.toNatClampNeg
      unfold gr
      rw [hc]
    rw [hF, e2]
    exact h).w
theorem Pv.alen {a : Nat} (hT : T i = some (ab_nx j ab_alen)) (h : Pv T N j lo (.int (Int32.ofNat (F.2.2.2.2 a)) :: st) F Q) : Pv T N i lo (.ref a :: st) F Q :=
  (Pv.nx hT fun u hp s hw hF e => by
    unfold ab_alen at e
    dsimp only at e
    rw [Bool.cond_eq_ite] at e
    split at e
    · split at e
      · rename_i x hx
        rw [Bool.cond_eq_ite] at e
        split at e
        · obtain rfl := Option.some.inj e
          refine ⟨hw, ?_⟩
          show Pv T N j lo (.int (Int32.ofNat x.2.1) :: st) (fl hp) Q
          have e3 : F.2.2.2.2 a = x.2.1 := by
            rw [← hF]
            show gn hp a = x.2.1
            unfold gn
            rw [hx]
          rw [hF, ← e3]
          exact h
        · cases e
      · cases e
    · cases e).w
theorem Pv.ast {t a : Nat} {x y : Int32} (hT : T i = some (ab_nx j (ab_ast t))) (h : Pv T N j lo st (fp F a x.toNatClampNeg (ab_nar t y)) Q) : Pv T N i lo (.int y :: .int x :: .ref a :: st) F Q :=
  (Pv.nx hT fun u hp s hw hF e => by
    obtain ⟨n, f, ha, hc, -, rfl⟩ := v_ast e
    refine ⟨wt_upA hw, ?_⟩
    show Pv T N j lo st (fl (ab_up hp a (.inl (t, n, .inl (upd f x.toNatClampNeg (ab_nar t y)))))) Q
    have e2 : fl (ab_up hp a (.inl (t, n, .inl (upd f x.toNatClampNeg (ab_nar t y))))) = fp F a x.toNatClampNeg (ab_nar t y) := by
      rw [fl_arr hc, ← hF]
      refine Prod.ext (funext fun p => funext fun q => ?_) rfl
      show (if p = a then upd f x.toNatClampNeg (ab_nar t y) q else gi hp p q) = if p = a ∧ q = x.toNatClampNeg then ab_nar t y else gi hp p q
      by_cases h1 : p = a
      · subst h1
        rw [if_pos rfl]
        unfold upd
        by_cases h2 : q = x.toNatClampNeg
        · rw [if_pos h2, if_pos ⟨rfl, h2⟩]
        · rw [if_neg h2, if_neg (fun c => h2 c.2)]
          unfold gi
          rw [hc]
      · rw [if_neg h1, if_neg (fun c => h1 c.1)]
    rw [e2]
    exact h).w
theorem Pv.last {a : Nat} {x : Int32} {y : Int64} (hT : T i = some (ab_nx j ab_last)) (h : Pv T N j lo st (fpl F a x.toNatClampNeg y) Q) : Pv T N i lo (.long y :: .int x :: .ref a :: st) F Q :=
  (Pv.nx hT fun u hp s hw hF e => by
    obtain ⟨n, f, ha, hc, -, rfl⟩ := v_last e
    refine ⟨wt_upA hw, ?_⟩
    show Pv T N j lo st (fl (ab_up hp a (.inl (2, n, .inr (.inl (vp_updL f x.toNatClampNeg y)))))) Q
    have e2 : fl (ab_up hp a (.inl (2, n, .inr (.inl (vp_updL f x.toNatClampNeg y))))) = fpl F a x.toNatClampNeg y := by
      rw [fl_arrL hc, ← hF]
      refine Prod.ext rfl (Prod.ext rfl (Prod.ext (funext fun p => funext fun q => ?_) rfl))
      show (if p = a then vp_updL f x.toNatClampNeg y q else gl hp p q) = if p = a ∧ q = x.toNatClampNeg then y else gl hp p q
      by_cases h1 : p = a
      · subst h1
        rw [if_pos rfl]
        unfold vp_updL
        by_cases h2 : q = x.toNatClampNeg
        · rw [if_pos h2, if_pos ⟨rfl, h2⟩]
        · rw [if_neg h2, if_neg (fun c => h2 c.2)]
          unfold gl
          rw [hc]
      · rw [if_neg h1, if_neg (fun c => h1 c.1)]
    rw [e2]
    exact h).w
theorem Pv.aast {t ci a v : Nat} {x : Int32} (hT : T i = some (ab_nx j (ab_aast t ci))) (h : Pv T N j lo st (fpr F a x.toNatClampNeg (.ref v)) Q) : Pv T N i lo (.ref v :: .int x :: .ref a :: st) F Q :=
  (Pv.nx hT fun u hp s hw hF e => by
    obtain ⟨n, f, ha, hb, hc, -, rfl⟩ := v_aast e
    refine ⟨wt_upA hw, ?_⟩
    show Pv T N j lo st (fl (ab_up hp a (.inl (t, n, .inr (.inr (.inr (.inr (va_up f x.toNatClampNeg (some v))))))))) Q
    have e2 : fl (ab_up hp a (.inl (t, n, .inr (.inr (.inr (.inr (va_up f x.toNatClampNeg (some v)))))))) = fpr F a x.toNatClampNeg (.ref v) := by
      rw [fl_arrR hc, ← hF]
      refine Prod.ext rfl (Prod.ext (funext fun p => funext fun q => ?_) rfl)
      show (if p = a then ab_rf (va_up f x.toNatClampNeg (some v) q) else gr hp p q) = if p = a ∧ q = x.toNatClampNeg then .ref v else gr hp p q
      by_cases h1 : p = a
      · subst h1
        rw [if_pos rfl]
        unfold va_up
        by_cases h2 : q = x.toNatClampNeg
        · rw [if_pos h2, if_pos ⟨rfl, h2⟩]
          rfl
        · rw [if_neg h2, if_neg (fun c => h2 c.2)]
          unfold gr
          rw [hc]
      · rw [if_neg h1, if_neg (fun c => h1 c.1)]
    rw [e2]
    exact h).w
theorem Pv.copy {sp dp n : Int32} {a a0 : Nat} (hT : T i = some (ab_nx j ab_copy)) (h : Pv T N j lo st (fcp F a0 a sp.toNatClampNeg dp.toNatClampNeg n.toNatClampNeg) Q) : Pv T N i lo (.int n :: .int dp :: .ref a :: .int sp :: .ref a0 :: st) F Q :=
  (Pv.nx hT fun u hp s hw hF e => by
    rcases v_copy e with ⟨n0, n1, f, g, h0, h1, rfl⟩ | ⟨n0, n1, f, g, h0, h1, rfl⟩
    · refine ⟨wt_upA hw, ?_⟩
      show Pv T N j lo st (fl (ab_up hp a (.inl (1, n1, .inl (va_cpy f g sp.toNatClampNeg dp.toNatClampNeg n.toNatClampNeg))))) Q
      have e2 : fl (ab_up hp a (.inl (1, n1, .inl (va_cpy f g sp.toNatClampNeg dp.toNatClampNeg n.toNatClampNeg)))) = fcp F a0 a sp.toNatClampNeg dp.toNatClampNeg n.toNatClampNeg := by
        rw [fl_arr h1, ← hF]
        refine Prod.ext (funext fun p => funext fun q => ?_) (Prod.ext rfl (Prod.ext (funext fun p => funext fun q => ?_) rfl))
        · show (if p = a then va_cpy f g _ _ _ q else gi hp p q) = if p = a ∧ _ ≤ q ∧ q < _ then gi hp a0 _ else gi hp p q
          by_cases c1 : p = a
          · subst c1
            rw [if_pos rfl]
            unfold va_cpy
            by_cases c2 : dp.toNatClampNeg ≤ q ∧ q < dp.toNatClampNeg + n.toNatClampNeg
            · rw [if_pos c2, if_pos ⟨rfl, c2⟩]
              unfold gi
              rw [h0]
            · rw [if_neg c2, if_neg (fun c => c2 c.2)]
              unfold gi
              rw [h1]
          · rw [if_neg c1, if_neg (fun c => c1 c.1)]
        · show gl hp p q = if p = a ∧ _ ≤ q ∧ q < _ then gl hp a0 _ else gl hp p q
          split
          · rename_i c
            rw [c.1]
            unfold gl
            rw [h0, h1]
          · rfl
      rw [e2]
      exact h
    · refine ⟨wt_upA hw, ?_⟩
      show Pv T N j lo st (fl (ab_up hp a (.inl (2, n1, .inr (.inl (va_cpy f g sp.toNatClampNeg dp.toNatClampNeg n.toNatClampNeg)))))) Q
      have e2 : fl (ab_up hp a (.inl (2, n1, .inr (.inl (va_cpy f g sp.toNatClampNeg dp.toNatClampNeg n.toNatClampNeg))))) = fcp F a0 a sp.toNatClampNeg dp.toNatClampNeg n.toNatClampNeg := by
        rw [fl_arrL h1, ← hF]
        refine Prod.ext (funext fun p => funext fun q => ?_) (Prod.ext rfl (Prod.ext (funext fun p => funext fun q => ?_) rfl))
        · show gi hp p q = if p = a ∧ _ ≤ q ∧ q < _ then gi hp a0 _ else gi hp p q
          split
          · rename_i c
            rw [c.1]
            unfold gi
            rw [h0, h1]
          · rfl
        · show (if p = a then va_cpy f g _ _ _ q else gl hp p q) = if p = a ∧ _ ≤ q ∧ q < _ then gl hp a0 _ else gl hp p q
          by_cases c1 : p = a
          · subst c1
            rw [if_pos rfl]
            unfold va_cpy
            by_cases c2 : dp.toNatClampNeg ≤ q ∧ q < dp.toNatClampNeg + n.toNatClampNeg
            · rw [if_pos c2, if_pos ⟨rfl, c2⟩]
              unfold gl
              rw [h0]
            · rw [if_neg c2, if_neg (fun c => c2 c.2)]
              unfold gl
              rw [h1]
          · rw [if_neg c1, if_neg (fun c => c1 c.1)]
      rw [e2]
      exact h).w
/-! ===== calls ===== -/
theorem Pv.call {nA mc ms MC MS : Nat} {X : List Value → ab_H → Option ab_O} {as rest : List Value} {Q' : Option Value → FW → Prop} (hT : T i = some (ab_nx j (ab_call nA X mc ms MC MS))) (ha : (st.take nA).reverse = as) (hr : st.drop nA = rest) (hX : Pm X as F Q') (h : ∀ r F', Q' r F' → Pv T N j lo (r.toList ++ rest) F' Q) : Pv T N i lo st F Q :=
  (Pv.nx hT fun u hp s hw hF e => by
    obtain ⟨o, ho, rfl⟩ := v_call e
    rw [ha] at ho
    obtain ⟨w, q⟩ := hX hp o hw hF ho
    refine ⟨w, ?_⟩
    show Pv T N j lo (o.1.toList ++ st.drop nA) (fl o.2) Q
    rw [hr]
    exact h _ _ q).w
theorem Pv.callV {nA ci mc ms MC MS : Nat} {X : List Value → ab_H → Option ab_O} {as rest : List Value} {Q' : Option Value → FW → Prop} (hT : T i = some (ab_nx j (ab_callV nA ci X mc ms MC MS))) (ha : (st.take nA).reverse = as) (hr : st.drop nA = rest) (hX : Pm X as F Q') (h : ∀ r F', Q' r F' → Pv T N j lo (r.toList ++ rest) F' Q) : Pv T N i lo st F Q :=
  (Pv.nx hT fun u hp s hw hF e => by
    unfold ab_callV at e
    rw [Bool.cond_eq_ite] at e
    split at e
    · obtain ⟨o, ho, rfl⟩ := v_call e
      rw [ha] at ho
      obtain ⟨w, q⟩ := hX hp o hw hF ho
      refine ⟨w, ?_⟩
      show Pv T N j lo (o.1.toList ++ st.drop nA) (fl o.2) Q
      rw [hr]
      exact h _ _ q
    · cases e).w
theorem Pv.callI {nA mc ms MC MS : Nat} {X : List Value → ab_H → Option ab_O} {as rest : List Value} {z : Int32} {G : FW} (hT : T i = some (ab_nx j (ab_call nA X mc ms MC MS))) (ha : (st.take nA).reverse = as) (hr : st.drop nA = rest) (hX : PI X as F z G) (h : Pv T N j lo (.int z :: rest) G Q) : Pv T N i lo st F Q :=
  Pv.call hT ha hr hX fun r F' q => by
    obtain ⟨rfl, rfl⟩ := q
    exact h
theorem Pv.callVI {nA ci mc ms MC MS : Nat} {X : List Value → ab_H → Option ab_O} {as rest : List Value} {z : Int32} {G : FW} (hT : T i = some (ab_nx j (ab_callV nA ci X mc ms MC MS))) (ha : (st.take nA).reverse = as) (hr : st.drop nA = rest) (hX : PI X as F z G) (h : Pv T N j lo (.int z :: rest) G Q) : Pv T N i lo st F Q :=
  Pv.callV hT ha hr hX fun r F' q => by
    obtain ⟨rfl, rfl⟩ := q
    exact h
theorem Pv.callVU {nA ci mc ms MC MS : Nat} {X : List Value → ab_H → Option ab_O} {as rest : List Value} {G : FW} (hT : T i = some (ab_nx j (ab_callV nA ci X mc ms MC MS))) (ha : (st.take nA).reverse = as) (hr : st.drop nA = rest) (hX : PU X as F G) (h : Pv T N j lo rest G Q) : Pv T N i lo st F Q :=
  Pv.callV hT ha hr hX fun r F' q => by
    obtain ⟨rfl, rfl⟩ := q
    exact h
theorem Pv.fE {G : FW} (e : F = G) (h : Pv T N i lo st G Q) : Pv T N i lo st F Q := e ▸ h
end PV
/-! ===== reading what was written ===== -/
theorem fp_eq {F : FW} {a k : Nat} {x : Int32} : (fp F a k x).1 a k = x := if_pos ⟨rfl, rfl⟩
theorem fp_ne {F : FW} {a k p j : Nat} {x : Int32} (h : p ≠ a ∨ j ≠ k) : (fp F a k x).1 p j = F.1 p j := if_neg (fun c => h.elim (fun h => h c.1) (fun h => h c.2))
theorem fcp_in {F : FW} {a b sp dp n j : Nat} (h : dp ≤ j ∧ j < dp + n) : (fcp F a b sp dp n).1 b j = F.1 a (sp + (j - dp)) := if_pos ⟨rfl, h⟩
theorem fcp_ne {F : FW} {a b sp dp n p j : Nat} (h : p ≠ b) : (fcp F a b sp dp n).1 p j = F.1 p j := if_neg (fun c => h c.1)
/-! ===== small ints by numbers ===== -/
theorem i_mul (a k : Nat) : Int32.ofNat a * Int32.ofNat k = Int32.ofNat (a * k) := (Int32.ofNat_mul a k).symm
theorem i_lt {a b : Nat} (ha : a < 2147483648) (hb : b < 2147483648) : (Int32.ofNat a < Int32.ofNat b) ↔ a < b := by
  rw [Int32.lt_iff_toInt_lt, i_toInt ha, i_toInt hb]
  omega
theorem i_le {a b : Nat} (ha : a < 2147483648) (hb : b < 2147483648) : (Int32.ofNat a ≤ Int32.ofNat b) ↔ a ≤ b := by
  rw [Int32.le_iff_toInt_le, i_toInt ha, i_toInt hb]
  omega
theorem i_eq {a b : Nat} (ha : a < 2147483648) (hb : b < 2147483648) : (Int32.ofNat a = Int32.ofNat b) ↔ a = b := by
  rw [← Int32.toInt_inj, i_toInt ha, i_toInt hb]
  omega
theorem Pv.mono {T : Nat → Option ab_A} {N M i : Nat} {lo : List (Option Value)} {st : List Value} {F : FW} {Q : Option Value → FW → Prop} (h : Pv T M i lo st F Q) (hn : N ≤ M) : Pv T N i lo st F Q := fun f u hp o hf => h f u hp o (Nat.lt_of_lt_of_le hf hn)
/-- a loop, that may lie in another -/
theorem Pv.lp {T : Nat → Option ab_A} {M i : Nat} {Q : Option Value → FW → Prop} {ι : Type} {lof : ι → List (Option Value)} {Ff : ι → FW} {P : ι → Prop} (h : ∀ N, N < M → ∀ x, P x → (∀ y, P y → Pv T N i (lof y) [] (Ff y) Q) → Pv T (N + 1) i (lof x) [] (Ff x) Q) : ∀ x, P x → Pv T M i (lof x) [] (Ff x) Q := by
  have key : ∀ N, N ≤ M → ∀ x, P x → Pv T N i (lof x) [] (Ff x) Q := by
    intro N
    induction N with
    | zero => exact fun _ x _ f u hp o hf => absurd hf (Nat.not_lt_zero _)
    | succ N ih => exact fun hN x hx => h N hN x hx (ih (Nat.le_of_lt hN))
  exact key M (Nat.le_refl M)
theorem Pv.astk {T : Nat → Option ab_A} {N i j : Nat} {lo : List (Option Value)} {st : List Value} {F : FW} {Q : Option Value → FW → Prop} {t a k : Nat} {x y z : Int32} (hT : T i = some (ab_nx j (ab_ast t))) (hx : x.toNatClampNeg = k) (hy : ab_nar t y = z) (h : Pv T N j lo st (fp F a k z) Q) : Pv T N i lo (.int y :: .int x :: .ref a :: st) F Q := by
  subst hx hy
  exact Pv.ast hT h
def b2i (b : Bool) : Int32 := cond b 1 0
/-- an object whose first seven fields are the seven places behind it; three -/
def O7 (F : FW) (p : Nat) : Prop := ∀ j, j < 7 → F.2.1 p j = .ref (p + 1 + j)
def O3 (F : FW) (p : Nat) : Prop := ∀ j, j < 3 → F.2.1 p j = .ref (p + 1 + j)
end
-- 63.b42.model.lean.txt
section
/-! ===== THE MODEL: what is told (St), what is so (Sh), and how they lie in the heap ===== -/
/-- goods, men, misses, load, amounts, who misses, whom, from how many days on, first shores -/
abbrev St : Type := Nat × Nat × Nat × Int32 × (Nat → Int32) × (Nat → Nat) × (Nat → Nat) × (Nat → Int32) × (Nat → Int32)
def t_g (T : St) : Nat := T.1
def t_m (T : St) : Nat := T.2.1
def t_n (T : St) : Nat := T.2.2.1
def t_l (T : St) : Int32 := T.2.2.2.1
def t_a (T : St) : Nat → Int32 := T.2.2.2.2.1
def t_r (T : St) : Nat → Nat := T.2.2.2.2.2.1
def t_d (T : St) : Nat → Nat := T.2.2.2.2.2.2.1
def t_dd (T : St) : Nat → Int32 := T.2.2.2.2.2.2.2.1
def t_fs (T : St) : Nat → Int32 := T.2.2.2.2.2.2.2.2
/-- it can be told: few enough; men that are -/
def TW (T : St) : Prop := t_g T ≤ 6 ∧ t_m T ≤ 8 ∧ t_n T ≤ 20 ∧ (∀ i, i < t_n T → t_r T i < t_m T ∧ t_d T i < t_m T) ∧ ∀ i j, i < t_n T → j < t_n T → t_r T i = t_r T j → t_d T i = t_d T j → i = j
/-- stocks, hoards, hunger, what came, shores (-1: dead), trips, days apart, the day, empty trips, room used -/
abbrev Sh : Type := (Nat → Int32) × (Nat → Int32) × (Nat → Int32) × (Nat → Int32) × (Nat → Int32) × (Nat → Int32) × (Nat → Int32) × Nat × Int32 × Int32
def h_s (S : Sh) : Nat → Int32 := S.1
def h_h (S : Sh) : Nat → Int32 := S.2.1
def h_u (S : Sh) : Nat → Int32 := S.2.2.1
def h_c (S : Sh) : Nat → Int32 := S.2.2.2.1
def h_a (S : Sh) : Nat → Int32 := S.2.2.2.2.1
def h_t (S : Sh) : Nat → Int32 := S.2.2.2.2.2.1
def h_p (S : Sh) : Nat → Int32 := S.2.2.2.2.2.2.1
def h_d (S : Sh) : Nat := S.2.2.2.2.2.2.2.1
def h_i (S : Sh) : Int32 := S.2.2.2.2.2.2.2.2.1
def h_r (S : Sh) : Int32 := S.2.2.2.2.2.2.2.2.2
/-- nothing but ints and longs at places of P changed -/
def FX (P : Nat → Prop) (F G : FW) : Prop := (∀ a k, ¬ P a → G.1 a k = F.1 a k) ∧ (∀ a k, ¬ P a → G.2.2.1 a k = F.2.2.1 a k) ∧ G.2.1 = F.2.1 ∧ G.2.2.2 = F.2.2.2
theorem FX.rf {P : Nat → Prop} {F : FW} : FX P F F := ⟨fun _ _ _ => rfl, fun _ _ _ => rfl, rfl, rfl⟩
theorem FX.tr {P : Nat → Prop} {F G H : FW} (a : FX P F G) (b : FX P G H) : FX P F H := ⟨fun q k h => (b.1 q k h).trans (a.1 q k h), fun q k h => (b.2.1 q k h).trans (a.2.1 q k h), b.2.2.1.trans a.2.2.1, b.2.2.2.trans a.2.2.2⟩
theorem FX.wd {P P' : Nat → Prop} {F G : FW} (a : FX P F G) (h : ∀ q, P q → P' q) : FX P' F G := ⟨fun q k c => a.1 q k (fun x => c (h q x)), fun q k c => a.2.1 q k (fun x => c (h q x)), a.2.2⟩
theorem FX.fp {P : Nat → Prop} {F G : FW} {a k : Nat} {x : Int32} (h : FX P F G) (ha : P a) : FX P F (fp G a k x) := ⟨fun q j c => (fp_ne (Or.inl (fun e : q = a => c (by rw [e]; exact ha)))).trans (h.1 q j c), h.2.1, h.2.2⟩
theorem FX.fcp {P : Nat → Prop} {F G : FW} {a b sp dp n : Nat} (h : FX P F G) (hb : P b) : FX P F (fcp G a b sp dp n) := ⟨fun q j c => (if_neg (fun e : q = b ∧ dp ≤ j ∧ j < dp + n => c (by rw [e.1]; exact hb))).trans (h.1 q j c), fun q j c => (if_neg (fun e : q = b ∧ dp ≤ j ∧ j < dp + n => c (by rw [e.1]; exact hb))).trans (h.2.1 q j c), h.2.2⟩
theorem FX.O7 {P : Nat → Prop} {F G : FW} {p : Nat} (h : FX P F G) (o : O7 F p) : O7 G p := fun j hj => by
  rw [h.2.2.1]
  exact o j hj
theorem fcp_0 {F : FW} {a b n j : Nat} (h : j < n) : (fcp F a b 0 0 n).1 b j = F.1 a j := by
  rw [fcp_in ⟨Nat.zero_le _, by omega⟩, show 0 + (j - 0) = j by omega]
/-- references that stay -/
def wires : List (Nat × Nat × Nat) := [(0, 0, 1), (0, 1, 3), (0, 2, 7), (0, 3, 10), (0, 4, 12), (0, 5, 20), (0, 6, 28), (0, 7, 36), (0, 8, 40), (0, 9, 41), (0, 10, 42), (0, 11, 43), (0, 12, 44), (1, 0, 2), (3, 0, 4), (3, 1, 5), (3, 2, 6), (7, 0, 8), (7, 1, 9), (10, 0, 11),
  (12, 0, 13), (12, 1, 14), (12, 2, 15), (12, 3, 16), (12, 4, 17), (12, 5, 18), (12, 6, 19), (20, 0, 21), (20, 1, 22), (20, 2, 23), (20, 3, 24), (20, 4, 25), (20, 5, 26), (20, 6, 27), (28, 0, 29), (28, 1, 30), (28, 2, 31), (28, 3, 32), (28, 4, 33), (28, 5, 34), (28, 6, 35),
  (36, 0, 37), (36, 1, 38), (36, 2, 39), (45, 0, 46), (45, 1, 47), (45, 2, 48), (45, 3, 49), (45, 4, 50), (45, 5, 51), (45, 6, 52), (53, 0, 54), (53, 1, 55), (53, 2, 56), (53, 3, 57), (53, 4, 58), (53, 5, 59), (53, 6, 60), (61, 0, 62), (61, 1, 63), (61, 2, 64), (65, 0, 66), (65, 1, 67), (65, 2, 68),
  (69, 1, 70), (69, 6, 71), (69, 7, 72), (69, 8, 73), (69, 9, 74), (69, 10, 75), (69, 21, 76), (69, 23, 77), (69, 24, 78), (69, 26, 79), (69, 27, 80), (69, 31, 81), (69, 33, 82), (69, 39, 83), (69, 40, 84), (69, 41, 85), (69, 42, 86)]
def GW (F : FW) : Prop := ∀ x ∈ wires, F.2.1 x.1 x.2.1 = .ref x.2.2
theorem GW.at {F : FW} (h : GW F) {a k b : Nat} (m : (a, k, b) ∈ wires) : F.2.1 a k = .ref b := h _ m
theorem GW.fx {P : Nat → Prop} {F G : FW} (h : GW F) (x : FX P F G) : GW G := fun q m => by
  rw [x.2.2.1]
  exact h q m
/-- an array's first n elements are f's -/
def AR (F : FW) (a n : Nat) (f : Nat → Int32) : Prop := ∀ j, j < n → F.1 a j = f j
def up1 (f : Nat → Int32) (i : Nat) (v : Int32) : Nat → Int32 := fun j => if j = i then v else f j
theorem up1_eq {f : Nat → Int32} {i : Nat} {v : Int32} : up1 f i v i = v := if_pos rfl
theorem up1_ne {f : Nat → Int32} {i j : Nat} {v : Int32} (h : j ≠ i) : up1 f i v j = f j := if_neg h
theorem fp_at {F : FW} {a k j : Nat} {x : Int32} : (fp F a k x).1 a j = if j = k then x else F.1 a j := by
  unfold fp
  by_cases h : j = k
  · simp [h]
  · simp [h]
theorem AR.up {F : FW} {a n i : Nat} {f : Nat → Int32} {v : Int32} (h : AR F a n f) : AR (fp F a i v) a n (up1 f i v) := fun j hj => by
  rw [fp_at, h j hj]
  rfl
theorem AR.ne {F : FW} {a b n i : Nat} {f : Nat → Int32} {v : Int32} (h : AR F a n f) (c : a ≠ b) : AR (fp F b i v) a n f := fun j hj => (fp_ne (Or.inl c)).trans (h j hj)
theorem AR.ext {F : FW} {a n : Nat} {f : Nat → Int32} {v : Int32} (h : AR F a n f) (e : v = f n) : AR (fp F a n v) a (n + 1) f := fun j hj => by
  rw [fp_at]
  by_cases c : j = n
  · rw [if_pos c, e, c]
  · rw [if_neg c, h j (by omega)]
theorem AR.cp {F : FW} {a b n m : Nat} {f : Nat → Int32} (h : AR F a n f) (c : n ≤ m) : AR (fcp F a b 0 0 m) b n f := fun j hj => (fcp_0 (by omega)).trans (h j hj)
theorem AR.cn {F : FW} {a b p n m sp dp : Nat} {f : Nat → Int32} (h : AR F p n f) (c : p ≠ b) : AR (fcp F a b sp dp m) p n f := fun j hj => (fcp_ne c).trans (h j hj)
theorem AR.z {F : FW} {a : Nat} {f : Nat → Int32} : AR F a 0 f := fun j hj => absurd hj (Nat.not_lt_zero j)
theorem AR.le {F : FW} {a n m : Nat} {f : Nat → Int32} (h : AR F a n f) (c : m ≤ n) : AR F a m f := fun j hj => h j (Nat.lt_of_lt_of_le hj c)
theorem AR.fx {P : Nat → Prop} {F G : FW} {a n : Nat} {f : Nat → Int32} (h : AR F a n f) (x : FX P F G) (c : ¬ P a) : AR G a n f := fun j hj => (x.1 a j c).trans (h j hj)
theorem AR.eq {F : FW} {a n : Nat} {f g : Nat → Int32} (h : AR F a n f) (e : f = g) : AR F a n g := e ▸ h
/-- a Strait at t -/
def TR (F : FW) (t : Nat) (T : St) : Prop := O7 F t ∧ TW T ∧ F.1 t 7 = t_l T ∧ F.1 t 8 = Int32.ofNat (t_g T) ∧ F.1 t 9 = Int32.ofNat (t_m T) ∧ F.1 t 10 = Int32.ofNat (t_n T) ∧ AR F (t + 4) 48 (t_a T) ∧ AR F (t + 5) (t_n T) (fun k => Int32.ofNat (t_r T k)) ∧ AR F (t + 6) (t_n T) (fun k => Int32.ofNat (t_d T k)) ∧ AR F (t + 7) (t_n T) (t_dd T) ∧ AR F (t + 3) (t_m T) (t_fs T)
/-- Shores at p; m MEN -/
def SHR (F : FW) (p m : Nat) (S : Sh) : Prop := O7 F p ∧ h_d S ≤ 400 ∧ AR F (p + 1) 12 (h_s S) ∧ AR F (p + 2) 12 (h_h S) ∧ AR F (p + 3) 12 (h_u S) ∧ AR F (p + 4) 12 (h_c S) ∧ AR F (p + 5) m (h_a S) ∧ AR F (p + 6) m (h_t S) ∧ AR F (p + 7) 64 (h_p S) ∧ F.1 p 7 = Int32.ofNat (h_d S) ∧ F.1 p 8 = h_i S ∧ F.1 p 9 = h_r S
section TRS
variable {F : FW} {q0 p0 n0 : Nat} {T : St} {S : Sh}
theorem TR.o (h : TR F q0 T) : O7 F q0 := h.1
theorem TR.w (h : TR F q0 T) : TW T := h.2.1
theorem TR.gb (h : TR F q0 T) : t_g T ≤ 6 := h.2.1.1
theorem TR.mb (h : TR F q0 T) : t_m T ≤ 8 := h.2.1.2.1
theorem TR.nb (h : TR F q0 T) : t_n T ≤ 20 := h.2.1.2.2.1
theorem TR.rb (h : TR F q0 T) {i : Nat} (hi : i < t_n T) : t_r T i < t_m T := (h.2.1.2.2.2.1 i hi).1
theorem TR.db (h : TR F q0 T) {i : Nat} (hi : i < t_n T) : t_d T i < t_m T := (h.2.1.2.2.2.1 i hi).2
theorem TR.l (h : TR F q0 T) : F.1 q0 7 = t_l T := h.2.2.1
theorem TR.g (h : TR F q0 T) : F.1 q0 8 = Int32.ofNat (t_g T) := h.2.2.2.1
theorem TR.m (h : TR F q0 T) : F.1 q0 9 = Int32.ofNat (t_m T) := h.2.2.2.2.1
theorem TR.n (h : TR F q0 T) : F.1 q0 10 = Int32.ofNat (t_n T) := h.2.2.2.2.2.1
theorem TR.a (h : TR F q0 T) : AR F (q0 + 4) 48 (t_a T) := h.2.2.2.2.2.2.1
theorem TR.r (h : TR F q0 T) : AR F (q0 + 5) (t_n T) (fun k => Int32.ofNat (t_r T k)) := h.2.2.2.2.2.2.2.1
theorem TR.d (h : TR F q0 T) : AR F (q0 + 6) (t_n T) (fun k => Int32.ofNat (t_d T k)) := h.2.2.2.2.2.2.2.2.1
theorem TR.dd (h : TR F q0 T) : AR F (q0 + 7) (t_n T) (t_dd T) := h.2.2.2.2.2.2.2.2.2.1
theorem TR.f (h : TR F q0 T) : AR F (q0 + 3) (t_m T) (t_fs T) := h.2.2.2.2.2.2.2.2.2.2
theorem TR.fx {P : Nat → Prop} {G : FW} (h : TR F q0 T) (x : FX P F G) (c : ∀ a, q0 ≤ a → a ≤ q0 + 7 → ¬ P a) : TR G q0 T :=
  ⟨x.O7 h.o, h.w, (x.1 _ _ (c _ (by omega) (by omega))).trans h.l, (x.1 _ _ (c _ (by omega) (by omega))).trans h.g, (x.1 _ _ (c _ (by omega) (by omega))).trans h.m, (x.1 _ _ (c _ (by omega) (by omega))).trans h.n,
   h.a.fx x (c _ (by omega) (by omega)), h.r.fx x (c _ (by omega) (by omega)), h.d.fx x (c _ (by omega) (by omega)), h.dd.fx x (c _ (by omega) (by omega)), h.f.fx x (c _ (by omega) (by omega))⟩
theorem SHR.o (h : SHR F p0 n0 S) : O7 F p0 := h.1
theorem SHR.db (h : SHR F p0 n0 S) : h_d S ≤ 400 := h.2.1
theorem SHR.s (h : SHR F p0 n0 S) : AR F (p0 + 1) 12 (h_s S) := h.2.2.1
theorem SHR.h (h : SHR F p0 n0 S) : AR F (p0 + 2) 12 (h_h S) := h.2.2.2.1
theorem SHR.u (h : SHR F p0 n0 S) : AR F (p0 + 3) 12 (h_u S) := h.2.2.2.2.1
theorem SHR.c (h : SHR F p0 n0 S) : AR F (p0 + 4) 12 (h_c S) := h.2.2.2.2.2.1
theorem SHR.a (h : SHR F p0 n0 S) : AR F (p0 + 5) n0 (h_a S) := h.2.2.2.2.2.2.1
theorem SHR.t (h : SHR F p0 n0 S) : AR F (p0 + 6) n0 (h_t S) := h.2.2.2.2.2.2.2.1
theorem SHR.p (h : SHR F p0 n0 S) : AR F (p0 + 7) 64 (h_p S) := h.2.2.2.2.2.2.2.2.1
theorem SHR.d (h : SHR F p0 n0 S) : F.1 p0 7 = Int32.ofNat (h_d S) := h.2.2.2.2.2.2.2.2.2.1
theorem SHR.i (h : SHR F p0 n0 S) : F.1 p0 8 = h_i S := h.2.2.2.2.2.2.2.2.2.2.1
theorem SHR.r (h : SHR F p0 n0 S) : F.1 p0 9 = h_r S := h.2.2.2.2.2.2.2.2.2.2.2
theorem SHR.fx {P : Nat → Prop} {G : FW} (h : SHR F p0 n0 S) (x : FX P F G) (c : ∀ a, p0 ≤ a → a ≤ p0 + 7 → ¬ P a) : SHR G p0 n0 S :=
  ⟨x.O7 h.o, h.db, h.s.fx x (c _ (by omega) (by omega)), h.h.fx x (c _ (by omega) (by omega)), h.u.fx x (c _ (by omega) (by omega)), h.c.fx x (c _ (by omega) (by omega)), h.a.fx x (c _ (by omega) (by omega)), h.t.fx x (c _ (by omega) (by omega)), h.p.fx x (c _ (by omega) (by omega)),
   (x.1 _ _ (c _ (by omega) (by omega))).trans h.d, (x.1 _ _ (c _ (by omega) (by omega))).trans h.i, (x.1 _ _ (c _ (by omega) (by omega))).trans h.r⟩
end TRS
/-! ===== a DAY ===== -/
def m_lack (T : St) (S : Sh) (k : Nat) : Int32 := ab_max 0 (t_a T (1 * 12 + k) - h_s S k)
def m_false (T : St) (S : Sh) (k : Nat) : Bool := !decide (t_a T (1 * 12 + k) ≤ h_s S k) && !decide (h_s S k + h_h S k < t_a T (1 * 12 + k))
def m_left (T : St) (k : Nat) (x : Int32) : Int32 := ab_min 999 (x + t_a T (36 + k)) - t_a T (24 + k)
def m_apart (S : Sh) (m o : Nat) : Int32 := if o < m then h_p S (m * 8 + o) else h_p S (o * 8 + m)
def m_alive (S : Sh) (m : Nat) : Bool := !decide (h_a S m = -1)
def m_felt (T : St) (S : Sh) (k : Nat) : Bool := m_alive S (t_r T k) && m_alive S (t_d T k) && !decide (h_a S (t_r T k) = h_a S (t_d T k)) && !decide (m_apart S (t_r T k) (t_d T k) < t_dd T k)
/-- bits of those k below n of which f says so, at g k -/
def m_bits (f : Nat → Bool) (g : Nat → Nat) : Nat → Int32
  | 0 => 0
  | k + 1 => cond (f k) (m_bits f g k ||| 1 <<< (Int32.ofNat (g k) &&& 31)) (m_bits f g k)
def m_missed (T : St) (S : Sh) : Int32 := m_bits (m_felt T S) (t_d T) (t_n T)
def m_missers (T : St) (S : Sh) (m : Nat) : Int32 := m_bits (fun k => decide (t_d T k = m) && m_felt T S k) (t_r T) (t_n T)
def m_could (T : St) (S : Sh) (m : Nat) : Nat → Bool
  | 0 => false
  | k + 1 => m_could T S m k || (decide (t_d T k = m) && m_alive S (t_r T k))
def m_men (T : St) (S : Sh) (x : Int32) : Int32 := m_bits (fun m => decide (h_a S m = x)) id (t_m T)
def m_sum (f : Nat → Int32) : Nat → Int32
  | 0 => 0
  | k + 1 => m_sum f k + f k
def m_room (T : St) (S : Sh) : Int32 := if h_d S < 400 then t_l T else 0
def m_from (S : Sh) : Nat := h_d S % 2
def m_bit (b : Int32) (m : Nat) : Bool := !decide (b &&& 1 <<< (Int32.ofNat m &&& 31) = 0)
/-- who goes over, and the room that they take -/
def m_pm (T : St) (S : Sh) : Nat → Int32 × Int32
  | 0 => (0, 0)
  | m + 1 => if ¬ m_room T S - (m_pm T S m).2 < 2 ∧ h_a S m = Int32.ofNat (m_from S) ∧ m_bit (m_missed T S) m = true then ((m_pm T S m).1 ||| 1 <<< (Int32.ofNat m &&& 31), (m_pm T S m).2 + 2) else m_pm T S m
def m_moved (s l r : Int32) : Int32 := ab_max 0 (ab_min s (ab_min l r))
/-- the room that is used when it is a GOOD's turn -/
def m_pg (T : St) (S : Sh) : Nat → Int32
  | 0 => (m_pm T S (t_m T)).2
  | g + 1 => m_pg T S g + m_moved (h_s S (2 * g + m_from S)) (m_lack T S (2 * g + (1 - m_from S))) (m_room T S - m_pg T S g)
def m_fr (T : St) (S : Sh) (g : Nat) : Int32 := m_moved (h_s S (2 * g + m_from S)) (m_lack T S (2 * g + (1 - m_from S))) (m_room T S - m_pg T S g)
def m_board (T : St) (S : Sh) : Int32 := (m_pm T S (t_m T)).1
/-- what the men's way over does; the goods' -/
def m_cA (T : St) (S : Sh) : Nat → Nat → Int32
  | 0 => h_a S
  | k + 1 => if m_bit (m_board T S) k = true then up1 (m_cA T S k) k (Int32.ofNat (1 - m_from S)) else m_cA T S k
def m_cT (T : St) (S : Sh) : Nat → Nat → Int32
  | 0 => h_t S
  | k + 1 => if m_bit (m_board T S) k = true then up1 (m_cT T S k) k (m_cT T S k k + 1) else m_cT T S k
def m_cS (T : St) (S : Sh) : Nat → Nat → Int32
  | 0 => h_s S
  | g + 1 => up1 (up1 (m_cS T S g) (2 * g + m_from S) (m_cS T S g (2 * g + m_from S) - m_fr T S g)) (2 * g + (1 - m_from S)) (m_cS T S g (2 * g + (1 - m_from S)) + m_fr T S g)
def m_cC (T : St) (S : Sh) : Nat → Nat → Int32
  | 0 => h_c S
  | g + 1 => up1 (m_cC T S g) (2 * g + (1 - m_from S)) (m_cC T S g (2 * g + (1 - m_from S)) + m_fr T S g)
def m_carry (T : St) (S : Sh) : Sh :=
  (m_cS T S (t_g T), h_h S, h_u S, m_cC T S (t_g T), m_cA T S (t_m T), m_cT T S (t_m T), h_p S, h_d S, if m_pg T S (t_g T) = 0 then h_i S + 1 else h_i S, h_r S + m_pg T S (t_g T))
def m_eS (T : St) (S : Sh) : Nat → Nat → Int32
  | 0 => h_s S
  | k + 1 => up1 (m_eS T S k) k (ab_max 0 (m_left T k (m_eS T S k k)))
def m_eU (T : St) (S : Sh) : Nat → Nat → Int32
  | 0 => h_u S
  | k + 1 => if m_left T k (m_eS T S k k) < 0 then up1 (m_eU T S k) k (m_eU T S k k - m_left T k (m_eS T S k k)) else m_eU T S k
def m_eat (T : St) (S : Sh) : Sh := (m_eS T S (2 * t_g T), h_h S, m_eU T S (2 * t_g T), S.2.2.2)
def m_cI (S : Sh) (f : Nat → Int32) (m : Nat) : Nat → Nat → Int32
  | 0 => f
  | o + 1 => up1 (m_cI S f m o) (m * 8 + o) (if h_a S m = h_a S o then 0 else m_cI S f m o (m * 8 + o) + 1)
def m_cP (S : Sh) : Nat → Nat → Int32
  | 0 => h_p S
  | m + 1 => m_cI S (m_cP S m) m m
def m_count (T : St) (S : Sh) : Sh := (h_s S, h_h S, h_u S, h_c S, h_a S, h_t S, m_cP S (t_m T), S.2.2.2.2.2.2.2)
def m_tick (S : Sh) : Sh := (h_s S, h_h S, h_u S, h_c S, h_a S, h_t S, h_p S, h_d S + 1, h_i S, h_r S)
def m_day (T : St) (S : Sh) : Sh := m_tick (m_count T (m_eat T (m_carry T S)))
/-- n DAYS go by, as long as there are some left -/
def m_days (T : St) (S : Sh) : Nat → Sh
  | 0 => S
  | n + 1 => if h_d (m_days T S n) < 400 then m_day T (m_days T S n) else m_days T S n
theorem b2_t {b : Bool} (h : b = true) : some (Value.int 1) = some (Value.int (b2i b)) := by rw [h]; rfl
theorem b2_f {b : Bool} (h : b = false) : some (Value.int 0) = some (Value.int (b2i b)) := by rw [h]; rfl
theorem i_rem2 {a : Nat} (h : a < 2147483648) : Int32.ofNat a - Int32.ofNat a / 2 * 2 = Int32.ofNat (a % 2) := by
  have e : (Int32.ofNat a).toInt = a := i_toInt h
  rw [← Int32.toInt_inj, i_toInt (by omega), Int32.toInt_sub, Int32.toInt_mul, Int32.toInt_div, e, show (2 : Int32).toInt = 2 from rfl]
  have h1 : ((a : Int).tdiv 2) = ((a / 2 : Nat) : Int) := by
    rw [Int.tdiv_eq_ediv_of_nonneg (by omega)]
    omega
  have h2 : Int.bmod ((a : Int).tdiv 2) (2 ^ 32) = ((a / 2 : Nat) : Int) := by
    rw [h1]
    exact Int.bmod_eq_of_le (by omega) (by omega)
  rw [h2]
  have h3 : Int.bmod (((a / 2 : Nat) : Int) * 2) (2 ^ 32) = ((a / 2 : Nat) : Int) * 2 := Int.bmod_eq_of_le (by omega) (by omega)
  rw [h3]
  have h4 : (a : Int) - ((a / 2 : Nat) : Int) * 2 = ((a % 2 : Nat) : Int) := by omega
  rw [h4]
  exact Int.bmod_eq_of_le (by omega) (by omega)
theorem i_1m {a : Nat} (h : a ≤ 1) : (1 : Int32) - Int32.ofNat a = Int32.ofNat (1 - a) := by
  have : a = 0 ∨ a = 1 := by omega
  rcases this with rfl | rfl <;> rfl
theorem b2z {b : Bool} : b2i b = 0 ↔ b = false := by cases b <;> decide
theorem b2n {b : Bool} : ¬ b2i b = 0 ↔ b = true := by cases b <;> decide
theorem m_bits_t {f : Nat → Bool} {g : Nat → Nat} {k : Nat} (h : f k = true) : m_bits f g (k + 1) = m_bits f g k ||| 1 <<< (Int32.ofNat (g k) &&& 31) := by
  show cond (f k) _ _ = _
  rw [h]
  rfl
theorem m_bits_f {f : Nat → Bool} {g : Nat → Nat} {k : Nat} (h : f k = false) : m_bits f g (k + 1) = m_bits f g k := by
  show cond (f k) _ _ = _
  rw [h]
  rfl
theorem m_pm_t {T : St} {S : Sh} {m : Nat} (h1 : ¬ m_room T S - (m_pm T S m).2 < 2) (h2 : h_a S m = Int32.ofNat (m_from S)) (h3 : m_bit (m_missed T S) m = true) : m_pm T S (m + 1) = ((m_pm T S m).1 ||| 1 <<< (Int32.ofNat m &&& 31), (m_pm T S m).2 + 2) := if_pos ⟨h1, h2, h3⟩
theorem m_pm_f {T : St} {S : Sh} {m : Nat} (h : m_room T S - (m_pm T S m).2 < 2 ∨ ¬ h_a S m = Int32.ofNat (m_from S) ∨ m_bit (m_missed T S) m = false) : m_pm T S (m + 1) = m_pm T S m := if_neg (fun c => by
  rcases h with h | h | h
  · exact c.1 h
  · exact h c.2.1
  · rw [c.2.2] at h
    cases h)
theorem m_pm_x {T : St} {S : Sh} {m : Nat} (h : m_room T S - (m_pm T S m).2 < 2) : ∀ k, m_pm T S (m + k) = m_pm T S m
  | 0 => rfl
  | k + 1 => by
    have e := m_pm_x h k
    rw [show m + (k + 1) = m + k + 1 from rfl, m_pm_f (Or.inl (by rw [e]; exact h)), e]
theorem m_pm_e {T : St} {S : Sh} {m : Nat} (hm : m ≤ t_m T) (h : t_m T ≤ m ∨ m_room T S - (m_pm T S m).2 < 2) : m_pm T S (t_m T) = m_pm T S m := by
  rcases h with h | h
  · rw [show t_m T = m by omega]
  · have e := m_pm_x h (t_m T - m)
    rw [show m + (t_m T - m) = t_m T by omega] at e
    exact e
theorem m_could_t {T : St} {S : Sh} {m k n : Nat} (hk : k < n) (h : (decide (t_d T k = m) && m_alive S (t_r T k)) = true) : m_could T S m n = true := by
  induction n with
  | zero => omega
  | succ n ih =>
    show (m_could T S m n || _) = true
    by_cases e : k = n
    · subst e
      rw [h, Bool.or_true]
    · rw [ih (by omega), Bool.true_or]
/-- what a plan says -/
def PLN (F : FW) (T : St) (S : Sh) : Prop := F.1 7 2 = m_board T S ∧ F.1 7 3 = m_pg T S (t_g T) ∧ AR F 8 (t_g T) (m_fr T S) ∧ AR F 9 (t_g T) (fun g => m_room T S - m_pg T S g)
theorem PLN.fx {P : Nat → Prop} {F G : FW} {T : St} {S : Sh} (h : PLN F T S) (x : FX P F G) (c : ∀ a, 7 ≤ a → a ≤ 9 → ¬ P a) : PLN G T S :=
  ⟨(x.1 _ _ (c _ (by omega) (by omega))).trans h.1, (x.1 _ _ (c _ (by omega) (by omega))).trans h.2.1, h.2.2.1.fx x (c _ (by omega) (by omega)), h.2.2.2.fx x (c _ (by omega) (by omega))⟩
theorem m_from_lt (S : Sh) : m_from S < 2 := Nat.mod_lt _ (by decide)
theorem m_days_s {T : St} {S : Sh} {n : Nat} (h : h_d (m_days T S n) < 400) : m_days T S (n + 1) = m_day T (m_days T S n) := if_pos h
theorem m_days_x {T : St} {S : Sh} {n : Nat} (h : ¬ h_d (m_days T S n) < 400) : ∀ k, m_days T S (n + k) = m_days T S n
  | 0 => rfl
  | k + 1 => by
    have e := m_days_x h k
    show (if h_d (m_days T S (n + k)) < 400 then _ else m_days T S (n + k)) = _
    rw [e, if_neg h]
theorem m_days_e {T : St} {S : Sh} {k n : Nat} (hk : k ≤ n) (h : ¬ h_d (m_days T S k) < 400) : m_days T S n = m_days T S k := by
  have e := m_days_x h (n - k)
  rw [show k + (n - k) = n by omega] at e
  exact e
end
-- 63.b43.ref.lean.txt
section
/-! ===== THE MODEL in the reference: all of it in one array, at 71 ===== -/
def AX (F : FW) (o n : Nat) (f : Nat → Int32) : Prop := ∀ j, j < n → F.1 71 (o + j) = f j
theorem AX.up {F : FW} {o n i : Nat} {f : Nat → Int32} {v : Int32} (h : AX F o n f) : AX (fp F 71 (o + i) v) o n (up1 f i v) := fun j hj => by
  rw [fp_at, h j hj]
  unfold up1
  by_cases c : j = i
  · rw [if_pos c, if_pos (by omega)]
  · rw [if_neg c, if_neg (by omega)]
theorem AX.ne {F : FW} {o n i : Nat} {f : Nat → Int32} {v : Int32} (h : AX F o n f) (c : i < o ∨ o + n ≤ i) : AX (fp F 71 i v) o n f := fun j hj => (fp_ne (Or.inr (by omega))).trans (h j hj)
theorem AX.no {F : FW} {o n i a : Nat} {f : Nat → Int32} {v : Int32} (h : AX F o n f) (c : a ≠ 71) : AX (fp F a i v) o n f := fun j hj => (fp_ne (Or.inl (fun e => c e.symm))).trans (h j hj)
theorem AX.eq {F : FW} {o n : Nat} {f g : Nat → Int32} (h : AX F o n f) (e : f = g) : AX F o n g := e ▸ h
theorem AX.le {F : FW} {o n m : Nat} {f : Nat → Int32} (h : AX F o n f) (c : m ≤ n) : AX F o m f := fun j hj => h j (Nat.lt_of_lt_of_le hj c)
/-- is a bit there? -/
def xbit (b : Int32) (m : Nat) : Bool := decide ((b >>> (Int32.ofNat m &&& 31)) &&& 1 = 1)
/-- a Strait in the first 120 -/
def XT (F : FW) (T : St) : Prop := TW T ∧ F.1 71 0 = Int32.ofNat (t_g T) ∧ F.1 71 1 = Int32.ofNat (t_m T) ∧ F.1 71 2 = t_l T ∧ F.1 71 3 = Int32.ofNat (t_n T) ∧ AX F 4 12 (fun k => t_a T (0 * 12 + k)) ∧ AX F 16 12 (fun k => t_a T (1 * 12 + k)) ∧ AX F 28 12 (fun k => t_a T (24 + k)) ∧ AX F 40 12 (fun k => t_a T (36 + k)) ∧
  AX F 60 (t_n T) (fun k => Int32.ofNat (t_r T k)) ∧ AX F 80 (t_n T) (fun k => Int32.ofNat (t_d T k)) ∧ AX F 100 (t_n T) (t_dd T) ∧ AX F 52 (t_m T) (t_fs T)
/-- Shores from 120 on -/
def XS (F : FW) (m : Nat) (S : Sh) : Prop := h_d S ≤ 400 ∧ F.1 71 120 = Int32.ofNat (h_d S) ∧ F.1 71 121 = h_i S ∧ F.1 71 122 = h_r S ∧ F.1 71 123 = m_sum (h_u S) 12 ∧ AX F 124 12 (h_s S) ∧ AX F 136 12 (h_h S) ∧ AX F 148 12 (h_u S) ∧ AX F 160 12 (h_c S) ∧
  (∀ k, k < m → xbit (F.1 71 180) k = !m_alive S k) ∧ (∀ k, k < m → m_alive S k = true → F.1 71 (172 + k) = h_a S k) ∧ AX F 181 m (h_t S) ∧ ∀ k j, k < m → j < m → k ≠ j → m_alive S k = true → m_alive S j = true → F.1 71 (189 + 8 * k + j) = m_apart S k j
section XTS
variable {F : FW} {n0 : Nat} {T : St} {S : Sh}
theorem XT.w (h : XT F T) : TW T := h.1
theorem XT.gb (h : XT F T) : t_g T ≤ 6 := h.1.1
theorem XT.mb (h : XT F T) : t_m T ≤ 8 := h.1.2.1
theorem XT.nb (h : XT F T) : t_n T ≤ 20 := h.1.2.2.1
theorem XT.rb (h : XT F T) {i : Nat} (hi : i < t_n T) : t_r T i < t_m T := (h.1.2.2.2.1 i hi).1
theorem XT.db (h : XT F T) {i : Nat} (hi : i < t_n T) : t_d T i < t_m T := (h.1.2.2.2.1 i hi).2
theorem XT.g (h : XT F T) : F.1 71 0 = Int32.ofNat (t_g T) := h.2.1
theorem XT.m (h : XT F T) : F.1 71 1 = Int32.ofNat (t_m T) := h.2.2.1
theorem XT.l (h : XT F T) : F.1 71 2 = t_l T := h.2.2.2.1
theorem XT.n (h : XT F T) : F.1 71 3 = Int32.ofNat (t_n T) := h.2.2.2.2.1
theorem XT.s (h : XT F T) : AX F 4 12 (fun k => t_a T (0 * 12 + k)) := h.2.2.2.2.2.1
theorem XT.wa (h : XT F T) : AX F 16 12 (fun k => t_a T (1 * 12 + k)) := h.2.2.2.2.2.2.1
theorem XT.e (h : XT F T) : AX F 28 12 (fun k => t_a T (24 + k)) := h.2.2.2.2.2.2.2.1
theorem XT.k (h : XT F T) : AX F 40 12 (fun k => t_a T (36 + k)) := h.2.2.2.2.2.2.2.2.1
theorem XT.r (h : XT F T) : AX F 60 (t_n T) (fun k => Int32.ofNat (t_r T k)) := h.2.2.2.2.2.2.2.2.2.1
theorem XT.d (h : XT F T) : AX F 80 (t_n T) (fun k => Int32.ofNat (t_d T k)) := h.2.2.2.2.2.2.2.2.2.2.1
theorem XT.dd (h : XT F T) : AX F 100 (t_n T) (t_dd T) := h.2.2.2.2.2.2.2.2.2.2.2.1
theorem XT.f (h : XT F T) : AX F 52 (t_m T) (t_fs T) := h.2.2.2.2.2.2.2.2.2.2.2.2
theorem XS.db (h : XS F n0 S) : h_d S ≤ 400 := h.1
theorem XS.d (h : XS F n0 S) : F.1 71 120 = Int32.ofNat (h_d S) := h.2.1
theorem XS.i (h : XS F n0 S) : F.1 71 121 = h_i S := h.2.2.1
theorem XS.r (h : XS F n0 S) : F.1 71 122 = h_r S := h.2.2.2.1
theorem XS.st (h : XS F n0 S) : F.1 71 123 = m_sum (h_u S) 12 := h.2.2.2.2.1
theorem XS.s (h : XS F n0 S) : AX F 124 12 (h_s S) := h.2.2.2.2.2.1
theorem XS.h (h : XS F n0 S) : AX F 136 12 (h_h S) := h.2.2.2.2.2.2.1
theorem XS.u (h : XS F n0 S) : AX F 148 12 (h_u S) := h.2.2.2.2.2.2.2.1
theorem XS.c (h : XS F n0 S) : AX F 160 12 (h_c S) := h.2.2.2.2.2.2.2.2.1
theorem XS.de (h : XS F n0 S) {k : Nat} (hk : k < n0) : xbit (F.1 71 180) k = !m_alive S k := h.2.2.2.2.2.2.2.2.2.1 k hk
theorem XS.a (h : XS F n0 S) {k : Nat} (hk : k < n0) (l : m_alive S k = true) : F.1 71 (172 + k) = h_a S k := h.2.2.2.2.2.2.2.2.2.2.1 k hk l
theorem XS.t (h : XS F n0 S) : AX F 181 n0 (h_t S) := h.2.2.2.2.2.2.2.2.2.2.2.1
theorem XS.p (h : XS F n0 S) {k j : Nat} (hk : k < n0) (hj : j < n0) (c : k ≠ j) (a : m_alive S k = true) (b : m_alive S j = true) : F.1 71 (189 + 8 * k + j) = m_apart S k j := h.2.2.2.2.2.2.2.2.2.2.2.2 k j hk hj c a b
theorem XT.of {G : FW} (h : XT F T) (x : ∀ k, k < 120 → G.1 71 k = F.1 71 k) : XT G T := by
  have b1 := h.mb
  have b2 := h.nb
  exact ⟨h.w, (x _ (by omega)).trans h.g, (x _ (by omega)).trans h.m, (x _ (by omega)).trans h.l, (x _ (by omega)).trans h.n, fun j hj => (x _ (by omega)).trans (h.s j hj), fun j hj => (x _ (by omega)).trans (h.wa j hj), fun j hj => (x _ (by omega)).trans (h.e j hj), fun j hj => (x _ (by omega)).trans (h.k j hj),
    fun j hj => (x _ (by omega)).trans (h.r j hj), fun j hj => (x _ (by omega)).trans (h.d j hj), fun j hj => (x _ (by omega)).trans (h.dd j hj), fun j hj => (x _ (by omega)).trans (h.f j hj)⟩
theorem XS.of {G : FW} (h : XS F n0 S) (hm : n0 ≤ 8) (x : ∀ k, 120 ≤ k → k < 253 → G.1 71 k = F.1 71 k) : XS G n0 S := by
  refine ⟨h.db, (x _ (by omega) (by omega)).trans h.d, (x _ (by omega) (by omega)).trans h.i, (x _ (by omega) (by omega)).trans h.r, (x _ (by omega) (by omega)).trans h.st, fun j hj => (x _ (by omega) (by omega)).trans (h.s j hj), fun j hj => (x _ (by omega) (by omega)).trans (h.h j hj), fun j hj => (x _ (by omega) (by omega)).trans (h.u j hj), fun j hj => (x _ (by omega) (by omega)).trans (h.c j hj),
    fun k hk => ?_, fun k hk l => (x _ (by omega) (by omega)).trans (h.a hk l), fun j hj => (x _ (by omega) (by omega)).trans (h.t j hj), fun k j hk hj c a b => (x _ (by omega) (by omega)).trans (h.p hk hj c a b)⟩
  rw [x _ (by omega) (by omega)]
  exact h.de hk
end XTS
/-- the reference's own cells that a DAY writes -/
def RX (F G : FW) : Prop := FX (fun q => q = 69 ∨ q = 71) F G ∧ (∀ k, k ≠ 22 → G.1 69 k = F.1 69 k) ∧ ∀ k, k < 120 ∨ 253 ≤ k → G.1 71 k = F.1 71 k
theorem RX.rf {F : FW} : RX F F := ⟨FX.rf, fun _ _ => rfl, fun _ _ => rfl⟩
theorem RX.tr {F G H : FW} (a : RX F G) (b : RX G H) : RX F H := ⟨a.1.tr b.1, fun k h => (b.2.1 k h).trans (a.2.1 k h), fun k h => (b.2.2 k h).trans (a.2.2 k h)⟩
theorem RX.s {F G : FW} {k : Nat} {v : Int32} (h : RX F G) (a : 120 ≤ k) (b : k < 253) : RX F (fp G 71 k v) := ⟨h.1.fp (Or.inr rfl), fun j hj => (fp_ne (Or.inl (by decide))).trans (h.2.1 j hj), fun j hj => (fp_ne (Or.inr (by omega))).trans (h.2.2 j hj)⟩
theorem RX.r {F G : FW} {v : Int32} (h : RX F G) : RX F (fp G 69 22 v) := ⟨h.1.fp (Or.inl rfl), fun j hj => (fp_ne (Or.inr hj)).trans (h.2.1 j hj), fun j hj => (fp_ne (Or.inl (by decide))).trans (h.2.2 j hj)⟩
theorem RX.T {F G : FW} {T : St} (h : RX F G) (t : XT F T) : XT G T := t.of fun k hk => h.2.2 k (Or.inl hk)
theorem RX.G {F G : FW} (h : RX F G) (g : GW F) : GW G := g.fx h.1
theorem fp_fp {F : FW} {a k : Nat} {x y : Int32} : fp (fp F a k x) a k y = fp F a k y := Prod.ext (funext fun p => funext fun j => by
  show (if p = a ∧ j = k then y else if p = a ∧ j = k then x else F.1 p j) = if p = a ∧ j = k then y else F.1 p j
  by_cases h : p = a ∧ j = k
  · rw [if_pos h, if_pos h]
  · rw [if_neg h, if_neg h, if_neg h]) rfl
theorem XT.fx {P : Nat → Prop} {F G : FW} {T : St} (h : XT F T) (x : FX P F G) (c : ¬ P 71) : XT G T := h.of fun k _ => x.1 71 k c
theorem XS.fx {P : Nat → Prop} {F G : FW} {m : Nat} {S : Sh} (h : XS F m S) (hm : m ≤ 8) (x : FX P F G) (c : ¬ P 71) : XS G m S := h.of hm fun k _ _ => x.1 71 k c
/-- who is dead, and where the others are -/
def XD (F : FW) (m : Nat) (S : Sh) : Prop := (∀ k, k < m → xbit (F.1 71 180) k = !m_alive S k) ∧ ∀ k, k < m → m_alive S k = true → F.1 71 (172 + k) = h_a S k
theorem XS.xd {F : FW} {m : Nat} {S : Sh} (h : XS F m S) : XD F m S := ⟨fun _ hk => h.de hk, fun _ hk l => h.a hk l⟩
theorem XD.de {F : FW} {m k : Nat} {S : Sh} (h : XD F m S) (hk : k < m) : xbit (F.1 71 180) k = !m_alive S k := h.1 k hk
theorem XD.a {F : FW} {m k : Nat} {S : Sh} (h : XD F m S) (hk : k < m) (l : m_alive S k = true) : F.1 71 (172 + k) = h_a S k := h.2 k hk l
theorem XD.fx {P : Nat → Prop} {F G : FW} {m : Nat} {S : Sh} (h : XD F m S) (x : FX P F G) (c : ¬ P 71) : XD G m S := ⟨fun k hk => by
  rw [x.1 71 180 c]
  exact h.1 k hk, fun k hk l => (x.1 71 _ c).trans (h.2 k hk l)⟩
def m_unl (S : Sh) (m o : Nat) : Bool := m_alive S m && m_alive S o && !decide (h_a S m = h_a S o)
/-- the first of the misses that is told of these two -/
def m_first (T : St) (m o : Nat) : Nat → Option Nat
  | 0 => none
  | k + 1 => match m_first T m o k with
    | some i => some i
    | none => if t_r T k = m ∧ t_d T k = o then some k else none
def m_does (T : St) (S : Sh) (m o : Nat) : Bool := m_unl S m o && match m_first T m o (t_n T) with
  | none => false
  | some i => !decide (m_apart S m o < t_dd T i)
theorem m_first_n {T : St} {m o k : Nat} (h : m_first T m o k = none) (c : ¬ (t_r T k = m ∧ t_d T k = o)) : m_first T m o (k + 1) = none := by
  unfold m_first
  rw [h]
  exact if_neg c
theorem m_first_s {T : St} {m o k : Nat} (h : m_first T m o k = none) (c1 : t_r T k = m) (c2 : t_d T k = o) : ∀ j, m_first T m o (k + 1 + j) = some k
  | 0 => by
    show m_first T m o (k + 1) = some k
    unfold m_first
    rw [h]
    exact if_pos ⟨c1, c2⟩
  | j + 1 => by
    have ih := m_first_s h c1 c2 j
    show m_first T m o (k + 1 + j + 1) = some k
    unfold m_first
    rw [ih]
theorem m_first_e {T : St} {m o k n : Nat} (h : m_first T m o k = none) (c1 : t_r T k = m) (c2 : t_d T k = o) (hk : k < n) : m_first T m o n = some k := by
  have e := m_first_s h c1 c2 (n - (k + 1))
  rw [show k + 1 + (n - (k + 1)) = n by omega] at e
  exact e
theorem i_or0 (b : Int32) : b ||| 0 = b := Int32.or_zero
theorem i_ss (a b c : Int32) : a - b - c = a - (b + c) := by
  rw [Int32.sub_eq_add_neg, Int32.sub_eq_add_neg, Int32.sub_eq_add_neg, Int32.neg_add, Int32.add_assoc, Int32.sub_eq_add_neg]
def m_less (a b : Int32) : Int32 := if b ≤ a then b else a
theorem m_alive_n {S : Sh} {m : Nat} (h : m_alive S m = false) : h_a S m = -1 := by
  unfold m_alive at h
  simpa using h
theorem m_dead_from {S : Sh} {m : Nat} (h : m_alive S m = false) : ¬ h_a S m = Int32.ofNat (m_from S) := by
  rw [m_alive_n h]
  have := m_from_lt S
  have h2 : m_from S = 0 ∨ m_from S = 1 := by omega
  rcases h2 with e | e <;> rw [e] <;> decide
def m_lackr (w s : Int32) : Int32 := if w - s ≤ 0 then 0 else w - s
theorem AX.of {F G : FW} {o n : Nat} {f : Nat → Int32} (h : AX F o n f) (x : ∀ k, o ≤ k → k < o + n → G.1 71 k = F.1 71 k) : AX G o n f := fun j hj => (x _ (by omega) (by omega)).trans (h j hj)
theorem ifq {p q : Prop} [Decidable p] [Decidable q] {a b : Int32} (h : p ↔ q) : (if p then a else b) = if q then a else b := by
  by_cases c : p
  · rw [if_pos c, if_pos (h.mp c)]
  · rw [if_neg c, if_neg (fun e => c (h.mpr e))]
end
-- 63.b44.bits.lean.txt
section
/-! ===== bits ===== -/
def btb (b : Int32) (j : Nat) : Bool := b.toBitVec.getLsbD j
theorem sh_bv : ∀ m, m < 32 → ((1 : Int32) <<< (Int32.ofNat m &&& 31)).toBitVec = BitVec.twoPow 32 m := by decide
theorem bt_ext {a b : Int32} (h : ∀ j, j < 32 → btb a j = btb b j) : a = b :=
  Int32.toBitVec_inj.mp (BitVec.eq_of_getLsbD_eq fun j hj => h j hj)
theorem bt_0 (j : Nat) : btb 0 j = false := by
  show (0#32).getLsbD j = false
  simp
theorem bt_or (a b : Int32) (j : Nat) : btb (a ||| b) j = (btb a j || btb b j) := by
  unfold btb
  rw [Int32.toBitVec_or, BitVec.getLsbD_or]
theorem bt_and (a b : Int32) (j : Nat) : btb (a &&& b) j = (btb a j && btb b j) := by
  unfold btb
  rw [Int32.toBitVec_and, BitVec.getLsbD_and]
theorem bt_sh {m j : Nat} (hm : m < 32) : btb ((1 : Int32) <<< (Int32.ofNat m &&& 31)) j = decide (m = j) := by
  unfold btb
  rw [sh_bv m hm, BitVec.getLsbD_twoPow]
  by_cases h : m = j
  · subst h
    simp [hm]
  · simp [h]
theorem m_bit_bt {b : Int32} {m : Nat} (hm : m < 32) : m_bit b m = btb b m := by
  unfold m_bit
  have h1 : (b &&& (1 : Int32) <<< (Int32.ofNat m &&& 31) = 0) ↔ btb b m = false := by
    constructor
    · intro h
      have h2 : btb (b &&& (1 : Int32) <<< (Int32.ofNat m &&& 31)) m = btb 0 m := congrArg (fun x => btb x m) h
      rw [bt_and, bt_sh hm, bt_0] at h2
      simpa using h2
    · intro h
      refine bt_ext fun j hj => ?_
      rw [bt_and, bt_sh hm, bt_0]
      by_cases c : m = j
      · subst c
        rw [h]
        rfl
      · simp [c]
  cases h : btb b m with
  | false =>
    rw [decide_eq_true (h1.mpr h)]
    rfl
  | true =>
    rw [decide_eq_false (fun c => by
      rw [h1.mp c] at h
      cases h)]
    rfl
theorem sm_bv : ∀ m, m < 32 → ((Int32.ofNat m &&& 31).toBitVec.smod 32) = BitVec.ofNat 32 m := by decide
theorem xbit_bt {b : Int32} {m : Nat} (hm : m < 32) : xbit b m = btb b m := by
  unfold xbit
  have e : ∀ j, btb (b >>> (Int32.ofNat m &&& 31) &&& 1) j = (decide (j = 0) && btb b m) := by
    intro j
    rw [bt_and]
    have h1 : btb (1 : Int32) j = decide (j = 0) := by
      show (1#32).getLsbD j = _
      rw [BitVec.getLsbD_one]
      simp
    rw [h1]
    by_cases c : j = 0
    · subst c
      unfold btb
      rw [Int32.toBitVec_shiftRight, sm_bv m hm]
      unfold BitVec.sshiftRight'
      rw [BitVec.getLsbD_sshiftRight]
      have h2 : (BitVec.ofNat 32 m).toNat = m := by
        rw [BitVec.toNat_ofNat]
        omega
      rw [h2]
      simp [hm]
    · simp [c]
  have h1 : (b >>> (Int32.ofNat m &&& 31) &&& 1 = 1) ↔ btb b m = true := by
    constructor
    · intro h
      have h2 := e 0
      rw [h] at h2
      have h3 : btb (1 : Int32) 0 = true := by decide
      rw [h3] at h2
      simpa using h2.symm
    · intro h
      refine bt_ext fun j hj => ?_
      rw [e j, h]
      show _ = (1#32).getLsbD j
      rw [BitVec.getLsbD_one]
      simp
  cases h : btb b m with
  | true => exact decide_eq_true (h1.mpr h)
  | false =>
    refine decide_eq_false fun c => ?_
    rw [h1.mp c] at h
    cases h
theorem bt_bits {f : Nat → Bool} {g : Nat → Nat} {j : Nat} : ∀ {n : Nat}, (∀ k, k < n → g k < 32) → (btb (m_bits f g n) j = true ↔ ∃ k, k < n ∧ f k = true ∧ g k = j)
  | 0, _ => by
    show btb 0 j = true ↔ _
    rw [bt_0]
    constructor
    · intro h
      cases h
    · rintro ⟨k, h, -⟩
      omega
  | n + 1, hg => by
    have ih := bt_bits (f := f) (g := g) (j := j) (n := n) (fun k hk => hg k (by omega))
    cases hf : f n with
    | true =>
      rw [m_bits_t hf, bt_or, bt_sh (hg n (by omega)), Bool.or_eq_true, ih]
      constructor
      · rintro (⟨k, h1, h2, h3⟩ | h)
        · exact ⟨k, by omega, h2, h3⟩
        · exact ⟨n, by omega, hf, of_decide_eq_true h⟩
      · rintro ⟨k, h1, h2, h3⟩
        by_cases c : k = n
        · subst c
          exact Or.inr (decide_eq_true h3)
        · exact Or.inl ⟨k, by omega, h2, h3⟩
    | false =>
      rw [m_bits_f hf, ih]
      constructor
      · rintro ⟨k, h1, h2, h3⟩
        exact ⟨k, by omega, h2, h3⟩
      · rintro ⟨k, h1, h2, h3⟩
        by_cases c : k = n
        · subst c
          rw [hf] at h2
          cases h2
        · exact ⟨k, by omega, h2, h3⟩
theorem bits_0 {f : Nat → Bool} {g : Nat → Nat} {n : Nat} (hg : ∀ k, k < n → g k < 32) : m_bits f g n = 0 ↔ ∀ k, k < n → f k = false := by
  constructor
  · intro h k hk
    cases hf : f k with
    | false => rfl
    | true =>
      have := (bt_bits (f := f) (g := g) (j := g k) hg).mpr ⟨k, hk, hf, rfl⟩
      rw [h, bt_0] at this
      cases this
  · intro h
    refine bt_ext fun j _ => ?_
    rw [bt_0]
    cases e : btb (m_bits f g n) j with
    | false => rfl
    | true =>
      obtain ⟨k, h1, h2, -⟩ := (bt_bits hg).mp e
      rw [h k h1] at h2
      cases h2
theorem bits_eq {f f' : Nat → Bool} {g g' : Nat → Nat} {n n' : Nat} (hg : ∀ k, k < n → g k < 32) (hg' : ∀ k, k < n' → g' k < 32) (h1 : ∀ k, k < n → f k = true → ∃ j, j < n' ∧ f' j = true ∧ g' j = g k) (h2 : ∀ k, k < n' → f' k = true → ∃ j, j < n ∧ f j = true ∧ g j = g' k) : m_bits f g n = m_bits f' g' n' := by
  refine bt_ext fun j _ => ?_
  rw [Bool.eq_iff_iff, bt_bits hg, bt_bits hg']
  constructor
  · rintro ⟨k, a, b, rfl⟩
    exact h1 k a b
  · rintro ⟨k, a, b, rfl⟩
    exact h2 k a b
/-! ===== who misses whom ===== -/
theorem m_first_some {T : St} {m o i : Nat} : ∀ {n : Nat}, m_first T m o n = some i → i < n ∧ t_r T i = m ∧ t_d T i = o
  | 0, h => by cases h
  | n + 1, h => by
    unfold m_first at h
    split at h
    · rename_i j hj
      obtain ⟨a, b⟩ := m_first_some hj
      obtain rfl := Option.some.inj h
      exact ⟨by omega, b⟩
    · split at h
      · rename_i c
        obtain rfl := Option.some.inj h
        exact ⟨by omega, c⟩
      · cases h
theorem m_first_none {T : St} {m o : Nat} : ∀ {n : Nat}, m_first T m o n = none → ∀ i, i < n → ¬ (t_r T i = m ∧ t_d T i = o)
  | 0, _, i, hi => by omega
  | n + 1, h, i, hi => by
    unfold m_first at h
    split at h
    · cases h
    · rename_i hn
      split at h
      · cases h
      · rename_i c
        by_cases e : i = n
        · rw [e]
          exact c
        · exact m_first_none hn i (by omega)
theorem m_does_iff {T : St} {S : Sh} (hT : TW T) {m o : Nat} : m_does T S m o = true ↔ ∃ k, k < t_n T ∧ t_r T k = m ∧ t_d T k = o ∧ m_felt T S k = true := by
  unfold m_does m_unl
  constructor
  · intro h
    rw [Bool.and_eq_true] at h
    obtain ⟨h1, h2⟩ := h
    split at h2
    · cases h2
    · rename_i i hi
      obtain ⟨a, b, c⟩ := m_first_some hi
      refine ⟨i, a, b, c, ?_⟩
      unfold m_felt
      rw [b, c, h2, h1]
      rfl
  · rintro ⟨k, a, b, c, d⟩
    unfold m_felt at d
    rw [b, c, Bool.and_eq_true] at d
    rw [d.1, Bool.true_and]
    cases e : m_first T m o (t_n T) with
    | none => exact absurd ⟨b, c⟩ (m_first_none e k a)
    | some i =>
      obtain ⟨a', b', c'⟩ := m_first_some e
      obtain rfl := hT.2.2.2.2 i k a' a (b'.trans b.symm) (c'.trans c.symm)
      exact d.2
theorem m_missed_0 {T : St} {S : Sh} (hT : TW T) {m : Nat} (hm : m < t_m T) : m_bit (m_missed T S) m = !decide (m_bits (fun j => m_does T S j m) id (t_m T) = 0) := by
  have b1 := hT.2.1
  rw [m_bit_bt (by omega)]
  unfold m_missed
  have h1 := bt_bits (f := m_felt T S) (g := t_d T) (j := m) (n := t_n T) (fun k hk => by have := (hT.2.2.2.1 k hk).2; omega)
  have h2 := bits_0 (f := fun j => m_does T S j m) (g := id) (n := t_m T) (fun k hk => by show k < 32; omega)
  cases e : btb (m_bits (m_felt T S) (t_d T) (t_n T)) m with
  | true =>
    obtain ⟨k, a, b, c⟩ := h1.mp e
    rw [decide_eq_false]
    · rfl
    · intro h
      have := h2.mp h (t_r T k) (hT.2.2.2.1 k a).1
      rw [(m_does_iff hT).mpr ⟨k, a, rfl, c, b⟩] at this
      cases this
  | false =>
    rw [decide_eq_true]
    · rfl
    · refine h2.mpr fun j hj => ?_
      cases d : m_does T S j m with
      | false => rfl
      | true =>
        obtain ⟨k, a, b, c, f⟩ := (m_does_iff hT).mp d
        rw [h1.mpr ⟨k, a, f, c⟩] at e
        cases e
theorem m_missers_eq {T : St} {S : Sh} (hT : TW T) {m : Nat} : m_bits (fun j => m_does T S j m) id (t_m T) = m_missers T S m := by
  have b1 := hT.2.1
  refine bits_eq (fun k hk => by show k < 32; omega) (fun k hk => by have := (hT.2.2.2.1 k hk).1; omega) (fun j hj h => ?_) (fun k hk h => ?_)
  · obtain ⟨k, a, b, c, f⟩ := (m_does_iff hT).mp h
    exact ⟨k, a, by simp [c, f], b⟩
  · have h' : t_d T k = m ∧ m_felt T S k = true := by simpa using h
    exact ⟨t_r T k, (hT.2.2.2.1 k hk).1, (m_does_iff hT).mpr ⟨k, hk, rfl, h'.1, h'.2⟩, rfl⟩
end
