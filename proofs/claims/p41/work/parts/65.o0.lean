/-! ===== the law: one operation ===== -/
noncomputable def LT (xs : Nat → Int32) (n : Nat) : Nat → Option ab_A := ab_T (LZ_law xs n)
abbrev lw_eq (hp : ab_H) : Prop := RI hp
theorem lw_keep {W : List (Nat × Nat × Nat)} {t t' : Nat → Nat} {hp hp' : ab_H} (H : sf_h t hp) (f : sf_fr W t hp t' hp') (h1 : W.all (fun w => decide (w.1 ≠ 127)) = true) (h2 : W.all (fun w => decide (w.1 ≠ 147)) = true) (h : lw_eq hp) : lw_eq hp' := RI_keep H f h1 h2 h
def lw_K (xs : Nat → Int32) (n : Nat) (z : Int32) (m k : Nat) (Q : ab_O → Prop) : Prop := ∀ (hp' : ab_H) (t' : Nat → Nat) (a5 a6 : Option Value) (m' k' : Nat), sf_h t' hp' → lw_eq hp' → m' ≤ m + 21 → k' ≤ k + 410 → Ev (LT xs n) 1440 ([some (.retAddr 0), some (.ref 0), some (.ref 69), some (.ref 87), some (.int z), a5, a6], [], (m', k'), hp') Q
theorem ls_room {m k mc ms MC MS : Nat} {rest : List Value} (h0 : ab_cats rest ≤ 8) (h1 : m + mc ≤ MC) (h2 : k + ms ≤ MS) : (decide (ab_cats rest ≤ 8) && decide ((m, k).1 + mc ≤ MC) && decide ((m, k).2 + ms ≤ MS)) = true := by
  rw [decide_eq_true h0, decide_eq_true (show (m, k).1 + mc ≤ MC from h1), decide_eq_true (show (m, k).2 + ms ≤ MS from h2)]
  rfl
theorem ls_sld {T : Nat → Option ab_A} {i j n : Nat} {xs : Nat → Int32} {x : Int32} {lo : List (Option Value)} {st : List Value} {u : Nat × Nat} {hp : ab_H} {Q : ab_O → Prop} (hT : T i = some (ab_nx j (ab_sld xs n))) (h0 : 0 ≤ x.toInt) (h1 : x.toInt < n) (h : Ev T j (lo, .int (xs x.toNatClampNeg) :: st, u, hp) Q) : Ev T i (lo, .int x :: .retAddr 0 :: st, u, hp) Q :=
  Ev.nx hT (by show cond (ab_in x n) (some (lo, Value.int (xs x.toNatClampNeg) :: st, u, hp)) none = _; rw [n_in h0 h1]; rfl) h
set_option maxRecDepth 100000 in
set_option maxHeartbeats 4000000 in
theorem op_feed {xs : Nat → Int32} {n : Nat} {z : Int32} {a5 a6 : Option Value} {m k : Nat} {hp : ab_H} {t : Nat → Nat} {Q : ab_O → Prop} (H : sf_h t hp) (hs : lw_eq hp) (hz0 : 0 ≤ z.toInt) (hz1 : z.toInt + 6 ≤ n) (hn : n ≤ 3072) (hm : m + 21 ≤ 601024) (hk : k + 410 ≤ 7293034) (K : lw_K xs n z m k Q) : Ev (LT xs n) 220 ([some (.retAddr 0), some (.ref 0), some (.ref 69), some (.ref 87), some (.int z), a5, a6], [], (m, k), hp) Q := by
  refine Ev.step (j := 221) (s' := ([some (.retAddr 0), some (.ref 0), some (.ref 69), some (.ref 87), some (.int z), a5, a6], [.ref 0], (m, k), hp)) rfl rfl ?_
  refine Ev.step (j := 222) (s' := ([some (.retAddr 0), some (.ref 0), some (.ref 69), some (.ref 87), some (.int z), a5, a6], [.retAddr 0, .ref 0], (m, k), hp)) rfl rfl ?_
  refine Ev.step (j := 224) (s' := ([some (.retAddr 0), some (.ref 0), some (.ref 69), some (.ref 87), some (.int z), a5, a6], [.int z, .retAddr 0, .ref 0], (m, k), hp)) rfl rfl ?_
  refine bs_lit (k := 1) rfl rfl fun z1 hz1 => ?_
  refine bs_add rfl (by omega) (by omega) fun z2 hz2 => ?_
  refine ls_sld rfl (by omega) (by omega) ?_
  refine (show Ev _ 227 ([some (.retAddr 0), some (.ref 0), some (.ref 69), some (.ref 87), some (.int z), a5, a6], [.int (xs z2.toNatClampNeg), .ref 0], (m, k), hp) _ from ?_)
  refine Ev.step (j := 228) (s' := ([some (.retAddr 0), some (.ref 0), some (.ref 69), some (.ref 87), some (.int z), a5, a6], [.retAddr 0, .int (xs z2.toNatClampNeg), .ref 0], (m, k), hp)) rfl rfl ?_
  refine Ev.step (j := 230) (s' := ([some (.retAddr 0), some (.ref 0), some (.ref 69), some (.ref 87), some (.int z), a5, a6], [.int z, .retAddr 0, .int (xs z2.toNatClampNeg), .ref 0], (m, k), hp)) rfl rfl ?_
  refine bs_lit (k := 2) rfl rfl fun z3 hz3 => ?_
  refine bs_add rfl (by omega) (by omega) fun z4 hz4 => ?_
  refine ls_sld rfl (by omega) (by omega) ?_
  refine (show Ev _ 233 ([some (.retAddr 0), some (.ref 0), some (.ref 69), some (.ref 87), some (.int z), a5, a6], [.int (xs z4.toNatClampNeg), .int (xs z2.toNatClampNeg), .ref 0], (m, k), hp) _ from ?_)
  refine Ev.step (j := 234) (s' := ([some (.retAddr 0), some (.ref 0), some (.ref 69), some (.ref 87), some (.int z), a5, a6], [.retAddr 0, .int (xs z4.toNatClampNeg), .int (xs z2.toNatClampNeg), .ref 0], (m, k), hp)) rfl rfl ?_
  refine Ev.step (j := 236) (s' := ([some (.retAddr 0), some (.ref 0), some (.ref 69), some (.ref 87), some (.int z), a5, a6], [.int z, .retAddr 0, .int (xs z4.toNatClampNeg), .int (xs z2.toNatClampNeg), .ref 0], (m, k), hp)) rfl rfl ?_
  refine bs_lit (k := 3) rfl rfl fun z5 hz5 => ?_
  refine bs_add rfl (by omega) (by omega) fun z6 hz6 => ?_
  refine ls_sld rfl (by omega) (by omega) ?_
  refine (show Ev _ 239 ([some (.retAddr 0), some (.ref 0), some (.ref 69), some (.ref 87), some (.int z), a5, a6], [.int (xs z6.toNatClampNeg), .int (xs z4.toNatClampNeg), .int (xs z2.toNatClampNeg), .ref 0], (m, k), hp) _ from ?_)
  refine Ev.step (j := 240) (s' := ([some (.retAddr 0), some (.ref 0), some (.ref 69), some (.ref 87), some (.int z), a5, a6], [.retAddr 0, .int (xs z6.toNatClampNeg), .int (xs z4.toNatClampNeg), .int (xs z2.toNatClampNeg), .ref 0], (m, k), hp)) rfl rfl ?_
  refine Ev.step (j := 242) (s' := ([some (.retAddr 0), some (.ref 0), some (.ref 69), some (.ref 87), some (.int z), a5, a6], [.int z, .retAddr 0, .int (xs z6.toNatClampNeg), .int (xs z4.toNatClampNeg), .int (xs z2.toNatClampNeg), .ref 0], (m, k), hp)) rfl rfl ?_
  refine bs_lit (k := 4) rfl rfl fun z7 hz7 => ?_
  refine bs_add rfl (by omega) (by omega) fun z8 hz8 => ?_
  refine ls_sld rfl (by omega) (by omega) ?_
  refine (show Ev _ 245 ([some (.retAddr 0), some (.ref 0), some (.ref 69), some (.ref 87), some (.int z), a5, a6], [.int (xs z8.toNatClampNeg), .int (xs z6.toNatClampNeg), .int (xs z4.toNatClampNeg), .int (xs z2.toNatClampNeg), .ref 0], (m, k), hp) _ from ?_)
  refine Ev.step (j := 246) (s' := ([some (.retAddr 0), some (.ref 0), some (.ref 69), some (.ref 87), some (.int z), a5, a6], [.retAddr 0, .int (xs z8.toNatClampNeg), .int (xs z6.toNatClampNeg), .int (xs z4.toNatClampNeg), .int (xs z2.toNatClampNeg), .ref 0], (m, k), hp)) rfl rfl ?_
  refine Ev.step (j := 248) (s' := ([some (.retAddr 0), some (.ref 0), some (.ref 69), some (.ref 87), some (.int z), a5, a6], [.int z, .retAddr 0, .int (xs z8.toNatClampNeg), .int (xs z6.toNatClampNeg), .int (xs z4.toNatClampNeg), .int (xs z2.toNatClampNeg), .ref 0], (m, k), hp)) rfl rfl ?_
  refine bs_lit (k := 5) rfl rfl fun z9 hz9 => ?_
  refine bs_add rfl (by omega) (by omega) fun z10 hz10 => ?_
  refine ls_sld rfl (by omega) (by omega) ?_
  refine (show Ev _ 251 ([some (.retAddr 0), some (.ref 0), some (.ref 69), some (.ref 87), some (.int z), a5, a6], [.int (xs z10.toNatClampNeg), .int (xs z8.toNatClampNeg), .int (xs z6.toNatClampNeg), .int (xs z4.toNatClampNeg), .int (xs z2.toNatClampNeg), .ref 0], (m, k), hp) _ from ?_)
  refine bs_call (K := kq_X10_feed_h) [.ref 0, .int (xs z2.toNatClampNeg), .int (xs z4.toNatClampNeg), .int (xs z6.toNatClampNeg), .int (xs z8.toNatClampNeg), .int (xs z10.toNatClampNeg)] [] rfl ct_X10_feed_h H rfl rfl rfl (bs_rcv (g := 10) H (bs_R.uq H (g := 10) rfl) (by decide) rfl) (ls_room (Nat.le_of_ble_eq_true rfl) (by omega) (by omega)) ?_ (sf_S_nil) fun r12 hp11 thp11 Hhp11 fhp11 ahp11 php11 => ?_
  · intro q k h
    match q, h with
    | 0, h => cases h; exact bs_jR (bs_R.uq H (g := 10) rfl)
    | 1, h => cases h; exact sf_j0
    | 2, h => cases h; exact sf_j0
    | 3, h => cases h; exact sf_j0
    | 4, h => cases h; exact sf_j0
    | 5, h => cases h; exact sf_j0
    | q + 6, h => cases h
  obtain ⟨z13, rfl⟩ := bs_anI ahp11
  have E14 := lw_keep H fhp11 rfl rfl hs
  refine (show Ev _ 254 ([some (.retAddr 0), some (.ref 0), some (.ref 69), some (.ref 87), some (.int z), a5, a6], [.int z13], (m + 0, k + 0), hp11) _ from ?_)
  refine Ev.step (j := 255) (s' := ([some (.retAddr 0), some (.ref 0), some (.ref 69), some (.ref 87), some (.int z), a5, a6], [], (m + 0, k + 0), hp11)) rfl rfl ?_
  refine Ev.step (j := 256) (s' := ([some (.retAddr 0), some (.ref 0), some (.ref 69), some (.ref 87), some (.int z), a5, a6], [.ref 69], (m + 0, k + 0), hp11)) rfl rfl ?_
  refine Ev.step (j := 257) (s' := ([some (.retAddr 0), some (.ref 0), some (.ref 69), some (.ref 87), some (.int z), a5, a6], [.retAddr 0, .ref 69], (m + 0, k + 0), hp11)) rfl rfl ?_
  refine Ev.step (j := 259) (s' := ([some (.retAddr 0), some (.ref 0), some (.ref 69), some (.ref 87), some (.int z), a5, a6], [.int z, .retAddr 0, .ref 69], (m + 0, k + 0), hp11)) rfl rfl ?_
  refine bs_lit (k := 1) rfl rfl fun z15 hz15 => ?_
  refine bs_add rfl (by omega) (by omega) fun z16 hz16 => ?_
  refine ls_sld rfl (by omega) (by omega) ?_
  refine (show Ev _ 262 ([some (.retAddr 0), some (.ref 0), some (.ref 69), some (.ref 87), some (.int z), a5, a6], [.int (xs z16.toNatClampNeg), .ref 69], (m + 0, k + 0), hp11) _ from ?_)
  refine Ev.step (j := 263) (s' := ([some (.retAddr 0), some (.ref 0), some (.ref 69), some (.ref 87), some (.int z), a5, a6], [.retAddr 0, .int (xs z16.toNatClampNeg), .ref 69], (m + 0, k + 0), hp11)) rfl rfl ?_
  refine Ev.step (j := 265) (s' := ([some (.retAddr 0), some (.ref 0), some (.ref 69), some (.ref 87), some (.int z), a5, a6], [.int z, .retAddr 0, .int (xs z16.toNatClampNeg), .ref 69], (m + 0, k + 0), hp11)) rfl rfl ?_
  refine bs_lit (k := 2) rfl rfl fun z17 hz17 => ?_
  refine bs_add rfl (by omega) (by omega) fun z18 hz18 => ?_
  refine ls_sld rfl (by omega) (by omega) ?_
  refine (show Ev _ 268 ([some (.retAddr 0), some (.ref 0), some (.ref 69), some (.ref 87), some (.int z), a5, a6], [.int (xs z18.toNatClampNeg), .int (xs z16.toNatClampNeg), .ref 69], (m + 0, k + 0), hp11) _ from ?_)
  refine Ev.step (j := 269) (s' := ([some (.retAddr 0), some (.ref 0), some (.ref 69), some (.ref 87), some (.int z), a5, a6], [.retAddr 0, .int (xs z18.toNatClampNeg), .int (xs z16.toNatClampNeg), .ref 69], (m + 0, k + 0), hp11)) rfl rfl ?_
  refine Ev.step (j := 271) (s' := ([some (.retAddr 0), some (.ref 0), some (.ref 69), some (.ref 87), some (.int z), a5, a6], [.int z, .retAddr 0, .int (xs z18.toNatClampNeg), .int (xs z16.toNatClampNeg), .ref 69], (m + 0, k + 0), hp11)) rfl rfl ?_
  refine bs_lit (k := 3) rfl rfl fun z19 hz19 => ?_
  refine bs_add rfl (by omega) (by omega) fun z20 hz20 => ?_
  refine ls_sld rfl (by omega) (by omega) ?_
  refine (show Ev _ 274 ([some (.retAddr 0), some (.ref 0), some (.ref 69), some (.ref 87), some (.int z), a5, a6], [.int (xs z20.toNatClampNeg), .int (xs z18.toNatClampNeg), .int (xs z16.toNatClampNeg), .ref 69], (m + 0, k + 0), hp11) _ from ?_)
  refine Ev.step (j := 275) (s' := ([some (.retAddr 0), some (.ref 0), some (.ref 69), some (.ref 87), some (.int z), a5, a6], [.retAddr 0, .int (xs z20.toNatClampNeg), .int (xs z18.toNatClampNeg), .int (xs z16.toNatClampNeg), .ref 69], (m + 0, k + 0), hp11)) rfl rfl ?_
  refine Ev.step (j := 277) (s' := ([some (.retAddr 0), some (.ref 0), some (.ref 69), some (.ref 87), some (.int z), a5, a6], [.int z, .retAddr 0, .int (xs z20.toNatClampNeg), .int (xs z18.toNatClampNeg), .int (xs z16.toNatClampNeg), .ref 69], (m + 0, k + 0), hp11)) rfl rfl ?_
  refine bs_lit (k := 4) rfl rfl fun z21 hz21 => ?_
  refine bs_add rfl (by omega) (by omega) fun z22 hz22 => ?_
  refine ls_sld rfl (by omega) (by omega) ?_
  refine (show Ev _ 280 ([some (.retAddr 0), some (.ref 0), some (.ref 69), some (.ref 87), some (.int z), a5, a6], [.int (xs z22.toNatClampNeg), .int (xs z20.toNatClampNeg), .int (xs z18.toNatClampNeg), .int (xs z16.toNatClampNeg), .ref 69], (m + 0, k + 0), hp11) _ from ?_)
  refine Ev.step (j := 281) (s' := ([some (.retAddr 0), some (.ref 0), some (.ref 69), some (.ref 87), some (.int z), a5, a6], [.retAddr 0, .int (xs z22.toNatClampNeg), .int (xs z20.toNatClampNeg), .int (xs z18.toNatClampNeg), .int (xs z16.toNatClampNeg), .ref 69], (m + 0, k + 0), hp11)) rfl rfl ?_
  refine Ev.step (j := 283) (s' := ([some (.retAddr 0), some (.ref 0), some (.ref 69), some (.ref 87), some (.int z), a5, a6], [.int z, .retAddr 0, .int (xs z22.toNatClampNeg), .int (xs z20.toNatClampNeg), .int (xs z18.toNatClampNeg), .int (xs z16.toNatClampNeg), .ref 69], (m + 0, k + 0), hp11)) rfl rfl ?_
  refine bs_lit (k := 5) rfl rfl fun z23 hz23 => ?_
  refine bs_add rfl (by omega) (by omega) fun z24 hz24 => ?_
  refine ls_sld rfl (by omega) (by omega) ?_
  refine (show Ev _ 286 ([some (.retAddr 0), some (.ref 0), some (.ref 69), some (.ref 87), some (.int z), a5, a6], [.int (xs z24.toNatClampNeg), .int (xs z22.toNatClampNeg), .int (xs z20.toNatClampNeg), .int (xs z18.toNatClampNeg), .int (xs z16.toNatClampNeg), .ref 69], (m + 0, k + 0), hp11) _ from ?_)
  refine bs_call (K := kq_X11_feed_h) [.ref 69, .int (xs z16.toNatClampNeg), .int (xs z18.toNatClampNeg), .int (xs z20.toNatClampNeg), .int (xs z22.toNatClampNeg), .int (xs z24.toNatClampNeg)] [] rfl ct_X11_feed_h Hhp11 rfl rfl rfl (bs_rcv (g := 11) Hhp11 (bs_R.uq Hhp11 (g := 11) rfl) (by decide) rfl) (ls_room (Nat.le_of_ble_eq_true rfl) (by omega) (by omega)) ?_ (sf_S_nil) fun r26 hp25 thp25 Hhp25 fhp25 ahp25 php25 => ?_
  · intro q k h
    match q, h with
    | 0, h => cases h; exact bs_jR (bs_R.uq Hhp11 (g := 11) rfl)
    | 1, h => cases h; exact sf_j0
    | 2, h => cases h; exact sf_j0
    | 3, h => cases h; exact sf_j0
    | 4, h => cases h; exact sf_j0
    | 5, h => cases h; exact sf_j0
    | q + 6, h => cases h
  obtain ⟨z27, rfl⟩ := bs_anI ahp25
  have E28 := lw_keep Hhp11 fhp25 rfl rfl E14
  refine (show Ev _ 289 ([some (.retAddr 0), some (.ref 0), some (.ref 69), some (.ref 87), some (.int z), a5, a6], [.int z27], (m + 0 + 0, k + 0 + 0), hp25) _ from ?_)
  refine Ev.step (j := 290) (s' := ([some (.retAddr 0), some (.ref 0), some (.ref 69), some (.ref 87), some (.int z), a5, a6], [], (m + 0 + 0, k + 0 + 0), hp25)) rfl rfl ?_
  refine Ev.step (j := 1440) (s' := ([some (.retAddr 0), some (.ref 0), some (.ref 69), some (.ref 87), some (.int z), a5, a6], [], (m + 0 + 0, k + 0 + 0), hp25)) rfl rfl ?_
  exact K _ _ _ _ _ _ Hhp25 E28 (by omega) (by omega)
set_option maxRecDepth 100000 in
set_option maxHeartbeats 4000000 in
theorem op_end {xs : Nat → Int32} {n : Nat} {z : Int32} {a5 a6 : Option Value} {m k : Nat} {hp : ab_H} {t : Nat → Nat} {Q : ab_O → Prop} (H : sf_h t hp) (hs : lw_eq hp) (hz0 : 0 ≤ z.toInt) (hz1 : z.toInt + 6 ≤ n) (hn : n ≤ 3072) (hm : m + 21 ≤ 601024) (hk : k + 410 ≤ 7293034) (K : lw_K xs n z m k Q) : Ev (LT xs n) 293 ([some (.retAddr 0), some (.ref 0), some (.ref 69), some (.ref 87), some (.int z), a5, a6], [], (m, k), hp) Q := by
  refine Ev.step (j := 294) (s' := ([some (.retAddr 0), some (.ref 0), some (.ref 69), some (.ref 87), some (.int z), a5, a6], [.ref 0], (m, k), hp)) rfl rfl ?_
  refine Ev.step (j := 295) (s' := ([some (.retAddr 0), some (.ref 0), some (.ref 69), some (.ref 87), some (.int z), a5, a6], [.retAddr 0, .ref 0], (m, k), hp)) rfl rfl ?_
  refine Ev.step (j := 297) (s' := ([some (.retAddr 0), some (.ref 0), some (.ref 69), some (.ref 87), some (.int z), a5, a6], [.int z, .retAddr 0, .ref 0], (m, k), hp)) rfl rfl ?_
  refine bs_lit (k := 1) rfl rfl fun z29 hz29 => ?_
  refine bs_add rfl (by omega) (by omega) fun z30 hz30 => ?_
  refine ls_sld rfl (by omega) (by omega) ?_
  refine (show Ev _ 300 ([some (.retAddr 0), some (.ref 0), some (.ref 69), some (.ref 87), some (.int z), a5, a6], [.int (xs z30.toNatClampNeg), .ref 0], (m, k), hp) _ from ?_)
  refine bs_call (K := kq_X10_end_h) [.ref 0, .int (xs z30.toNatClampNeg)] [] rfl ct_X10_end_h H rfl rfl rfl (bs_rcv (g := 10) H (bs_R.uq H (g := 10) rfl) (by decide) rfl) (ls_room (Nat.le_of_ble_eq_true rfl) (by omega) (by omega)) ?_ (sf_S_nil) fun r32 hp31 thp31 Hhp31 fhp31 ahp31 php31 => ?_
  · intro q k h
    match q, h with
    | 0, h => cases h; exact bs_jR (bs_R.uq H (g := 10) rfl)
    | 1, h => cases h; exact sf_j0
    | q + 2, h => cases h
  obtain ⟨z33, rfl⟩ := bs_anI ahp31
  have E34 := lw_keep H fhp31 rfl rfl hs
  refine (show Ev _ 303 ([some (.retAddr 0), some (.ref 0), some (.ref 69), some (.ref 87), some (.int z), a5, a6], [.int z33], (m + 0, k + 0), hp31) _ from ?_)
  refine Ev.step (j := 304) (s' := ([some (.retAddr 0), some (.ref 0), some (.ref 69), some (.ref 87), some (.int z), a5, a6], [], (m + 0, k + 0), hp31)) rfl rfl ?_
  refine Ev.step (j := 305) (s' := ([some (.retAddr 0), some (.ref 0), some (.ref 69), some (.ref 87), some (.int z), a5, a6], [.ref 69], (m + 0, k + 0), hp31)) rfl rfl ?_
  refine Ev.step (j := 306) (s' := ([some (.retAddr 0), some (.ref 0), some (.ref 69), some (.ref 87), some (.int z), a5, a6], [.retAddr 0, .ref 69], (m + 0, k + 0), hp31)) rfl rfl ?_
  refine Ev.step (j := 308) (s' := ([some (.retAddr 0), some (.ref 0), some (.ref 69), some (.ref 87), some (.int z), a5, a6], [.int z, .retAddr 0, .ref 69], (m + 0, k + 0), hp31)) rfl rfl ?_
  refine bs_lit (k := 1) rfl rfl fun z35 hz35 => ?_
  refine bs_add rfl (by omega) (by omega) fun z36 hz36 => ?_
  refine ls_sld rfl (by omega) (by omega) ?_
  refine (show Ev _ 311 ([some (.retAddr 0), some (.ref 0), some (.ref 69), some (.ref 87), some (.int z), a5, a6], [.int (xs z36.toNatClampNeg), .ref 69], (m + 0, k + 0), hp31) _ from ?_)
  refine bs_call (K := kq_X11_end_h) [.ref 69, .int (xs z36.toNatClampNeg)] [] rfl ct_X11_end_h Hhp31 rfl rfl rfl (bs_rcv (g := 11) Hhp31 (bs_R.uq Hhp31 (g := 11) rfl) (by decide) rfl) (ls_room (Nat.le_of_ble_eq_true rfl) (by omega) (by omega)) ?_ (sf_S_nil) fun r38 hp37 thp37 Hhp37 fhp37 ahp37 php37 => ?_
  · intro q k h
    match q, h with
    | 0, h => cases h; exact bs_jR (bs_R.uq Hhp31 (g := 11) rfl)
    | 1, h => cases h; exact sf_j0
    | q + 2, h => cases h
  obtain ⟨z39, rfl⟩ := bs_anI ahp37
  have E40 := lw_keep Hhp31 fhp37 rfl rfl E34
  refine (show Ev _ 314 ([some (.retAddr 0), some (.ref 0), some (.ref 69), some (.ref 87), some (.int z), a5, a6], [.int z39], (m + 0 + 0, k + 0 + 0), hp37) _ from ?_)
  refine Ev.step (j := 315) (s' := ([some (.retAddr 0), some (.ref 0), some (.ref 69), some (.ref 87), some (.int z), a5, a6], [], (m + 0 + 0, k + 0 + 0), hp37)) rfl rfl ?_
  refine Ev.step (j := 1440) (s' := ([some (.retAddr 0), some (.ref 0), some (.ref 69), some (.ref 87), some (.int z), a5, a6], [], (m + 0 + 0, k + 0 + 0), hp37)) rfl rfl ?_
  exact K _ _ _ _ _ _ Hhp37 E40 (by omega) (by omega)
set_option maxRecDepth 100000 in
set_option maxHeartbeats 4000000 in
theorem op_strait {xs : Nat → Int32} {n : Nat} {z : Int32} {a5 a6 : Option Value} {m k : Nat} {hp : ab_H} {t : Nat → Nat} {Q : ab_O → Prop} (H : sf_h t hp) (hs : lw_eq hp) (hz0 : 0 ≤ z.toInt) (hz1 : z.toInt + 6 ≤ n) (hn : n ≤ 3072) (hm : m + 21 ≤ 601024) (hk : k + 410 ≤ 7293034) (K : lw_K xs n z m k Q) : Ev (LT xs n) 318 ([some (.retAddr 0), some (.ref 0), some (.ref 69), some (.ref 87), some (.int z), a5, a6], [], (m, k), hp) Q := by
  refine Ev.step (j := 319) (s' := ([some (.retAddr 0), some (.ref 0), some (.ref 69), some (.ref 87), some (.int z), a5, a6], [.ref 0], (m, k), hp)) rfl rfl ?_
  refine bs_call (K := kq_X10_strait_4c18a7) [.ref 0] [] rfl ct_X10_strait_4c18a7 H rfl rfl rfl (bs_rcv (g := 10) H (bs_R.uq H (g := 10) rfl) (by decide) rfl) (ls_room (Nat.le_of_ble_eq_true rfl) (by omega) (by omega)) ?_ (sf_S_nil) fun r42 hp41 thp41 Hhp41 fhp41 ahp41 php41 => ?_
  · intro q k h
    match q, h with
    | 0, h => cases h; exact bs_jR (bs_R.uq H (g := 10) rfl)
    | q + 1, h => cases h
  obtain ⟨z43, rfl⟩ := bs_anI ahp41
  have E44 := lw_keep H fhp41 rfl rfl hs
  refine (show Ev _ 322 ([some (.retAddr 0), some (.ref 0), some (.ref 69), some (.ref 87), some (.int z), a5, a6], [.int z43], (m + 0, k + 0), hp41) _ from ?_)
  refine Ev.step (j := 323) (s' := ([some (.retAddr 0), some (.ref 0), some (.ref 69), some (.ref 87), some (.int z), a5, a6], [], (m + 0, k + 0), hp41)) rfl rfl ?_
  refine Ev.step (j := 324) (s' := ([some (.retAddr 0), some (.ref 0), some (.ref 69), some (.ref 87), some (.int z), a5, a6], [.ref 69], (m + 0, k + 0), hp41)) rfl rfl ?_
  refine bs_call (K := kq_X11_strait_h) [.ref 69] [] rfl ct_X11_strait_h Hhp41 rfl rfl rfl (bs_rcv (g := 11) Hhp41 (bs_R.uq Hhp41 (g := 11) rfl) (by decide) rfl) (ls_room (Nat.le_of_ble_eq_true rfl) (by omega) (by omega)) ?_ (sf_S_nil) fun r46 hp45 thp45 Hhp45 fhp45 ahp45 php45 => ?_
  · intro q k h
    match q, h with
    | 0, h => cases h; exact bs_jR (bs_R.uq Hhp41 (g := 11) rfl)
    | q + 1, h => cases h
  obtain ⟨z47, rfl⟩ := bs_anI ahp45
  have E48 := lw_keep Hhp41 fhp45 rfl rfl E44
  refine (show Ev _ 327 ([some (.retAddr 0), some (.ref 0), some (.ref 69), some (.ref 87), some (.int z), a5, a6], [.int z47], (m + 0 + 0, k + 0 + 0), hp45) _ from ?_)
  refine Ev.step (j := 328) (s' := ([some (.retAddr 0), some (.ref 0), some (.ref 69), some (.ref 87), some (.int z), a5, a6], [], (m + 0 + 0, k + 0 + 0), hp45)) rfl rfl ?_
  refine Ev.step (j := 1440) (s' := ([some (.retAddr 0), some (.ref 0), some (.ref 69), some (.ref 87), some (.int z), a5, a6], [], (m + 0 + 0, k + 0 + 0), hp45)) rfl rfl ?_
  exact K _ _ _ _ _ _ Hhp45 E48 (by omega) (by omega)
set_option maxRecDepth 100000 in
set_option maxHeartbeats 4000000 in
theorem op_fault {xs : Nat → Int32} {n : Nat} {z : Int32} {a5 a6 : Option Value} {m k : Nat} {hp : ab_H} {t : Nat → Nat} {Q : ab_O → Prop} (H : sf_h t hp) (hs : lw_eq hp) (hz0 : 0 ≤ z.toInt) (hz1 : z.toInt + 6 ≤ n) (hn : n ≤ 3072) (hm : m + 21 ≤ 601024) (hk : k + 410 ≤ 7293034) (K : lw_K xs n z m k Q) : Ev (LT xs n) 331 ([some (.retAddr 0), some (.ref 0), some (.ref 69), some (.ref 87), some (.int z), a5, a6], [], (m, k), hp) Q := by
  refine Ev.step (j := 332) (s' := ([some (.retAddr 0), some (.ref 0), some (.ref 69), some (.ref 87), some (.int z), a5, a6], [.ref 0], (m, k), hp)) rfl rfl ?_
  refine bs_call (K := kq_X10_fault_4c18a7) [.ref 0] [] rfl ct_X10_fault_4c18a7 H rfl rfl rfl (bs_rcv (g := 10) H (bs_R.uq H (g := 10) rfl) (by decide) rfl) (ls_room (Nat.le_of_ble_eq_true rfl) (by omega) (by omega)) ?_ (sf_S_nil) fun r50 hp49 thp49 Hhp49 fhp49 ahp49 php49 => ?_
  · intro q k h
    match q, h with
    | 0, h => cases h; exact bs_jR (bs_R.uq H (g := 10) rfl)
    | q + 1, h => cases h
  obtain ⟨z51, rfl⟩ := bs_anI ahp49
  have E52 := lw_keep H fhp49 rfl rfl hs
  refine (show Ev _ 335 ([some (.retAddr 0), some (.ref 0), some (.ref 69), some (.ref 87), some (.int z), a5, a6], [.int z51], (m + 0, k + 0), hp49) _ from ?_)
  refine Ev.step (j := 336) (s' := ([some (.retAddr 0), some (.ref 0), some (.ref 69), some (.ref 87), some (.int z), a5, a6], [], (m + 0, k + 0), hp49)) rfl rfl ?_
  refine Ev.step (j := 337) (s' := ([some (.retAddr 0), some (.ref 0), some (.ref 69), some (.ref 87), some (.int z), a5, a6], [.ref 69], (m + 0, k + 0), hp49)) rfl rfl ?_
  refine bs_call (K := kq_X11_fault_6afe8b) [.ref 69] [] rfl ct_X11_fault_6afe8b Hhp49 rfl rfl rfl (bs_rcv (g := 11) Hhp49 (bs_R.uq Hhp49 (g := 11) rfl) (by decide) rfl) (ls_room (Nat.le_of_ble_eq_true rfl) (by omega) (by omega)) ?_ (sf_S_nil) fun r54 hp53 thp53 Hhp53 fhp53 ahp53 php53 => ?_
  · intro q k h
    match q, h with
    | 0, h => cases h; exact bs_jR (bs_R.uq Hhp49 (g := 11) rfl)
    | q + 1, h => cases h
  obtain ⟨z55, rfl⟩ := bs_anI ahp53
  have E56 := lw_keep Hhp49 fhp53 rfl rfl E52
  refine (show Ev _ 340 ([some (.retAddr 0), some (.ref 0), some (.ref 69), some (.ref 87), some (.int z), a5, a6], [.int z55], (m + 0 + 0, k + 0 + 0), hp53) _ from ?_)
  refine Ev.step (j := 341) (s' := ([some (.retAddr 0), some (.ref 0), some (.ref 69), some (.ref 87), some (.int z), a5, a6], [], (m + 0 + 0, k + 0 + 0), hp53)) rfl rfl ?_
  refine Ev.step (j := 1440) (s' := ([some (.retAddr 0), some (.ref 0), some (.ref 69), some (.ref 87), some (.int z), a5, a6], [], (m + 0 + 0, k + 0 + 0), hp53)) rfl rfl ?_
  exact K _ _ _ _ _ _ Hhp53 E56 (by omega) (by omega)
set_option maxRecDepth 100000 in
set_option maxHeartbeats 4000000 in
theorem op_good {xs : Nat → Int32} {n : Nat} {z : Int32} {a5 a6 : Option Value} {m k : Nat} {hp : ab_H} {t : Nat → Nat} {Q : ab_O → Prop} (H : sf_h t hp) (hs : lw_eq hp) (hz0 : 0 ≤ z.toInt) (hz1 : z.toInt + 6 ≤ n) (hn : n ≤ 3072) (hm : m + 21 ≤ 601024) (hk : k + 410 ≤ 7293034) (K : lw_K xs n z m k Q) : Ev (LT xs n) 344 ([some (.retAddr 0), some (.ref 0), some (.ref 69), some (.ref 87), some (.int z), a5, a6], [], (m, k), hp) Q := by
  refine Ev.step (j := 345) (s' := ([some (.retAddr 0), some (.ref 0), some (.ref 69), some (.ref 87), some (.int z), a5, a6], [.ref 0], (m, k), hp)) rfl rfl ?_
  refine Ev.step (j := 346) (s' := ([some (.retAddr 0), some (.ref 0), some (.ref 69), some (.ref 87), some (.int z), a5, a6], [.retAddr 0, .ref 0], (m, k), hp)) rfl rfl ?_
  refine Ev.step (j := 348) (s' := ([some (.retAddr 0), some (.ref 0), some (.ref 69), some (.ref 87), some (.int z), a5, a6], [.int z, .retAddr 0, .ref 0], (m, k), hp)) rfl rfl ?_
  refine bs_lit (k := 1) rfl rfl fun z57 hz57 => ?_
  refine bs_add rfl (by omega) (by omega) fun z58 hz58 => ?_
  refine ls_sld rfl (by omega) (by omega) ?_
  refine (show Ev _ 351 ([some (.retAddr 0), some (.ref 0), some (.ref 69), some (.ref 87), some (.int z), a5, a6], [.int (xs z58.toNatClampNeg), .ref 0], (m, k), hp) _ from ?_)
  refine Ev.step (j := 352) (s' := ([some (.retAddr 0), some (.ref 0), some (.ref 69), some (.ref 87), some (.int z), a5, a6], [.retAddr 0, .int (xs z58.toNatClampNeg), .ref 0], (m, k), hp)) rfl rfl ?_
  refine Ev.step (j := 354) (s' := ([some (.retAddr 0), some (.ref 0), some (.ref 69), some (.ref 87), some (.int z), a5, a6], [.int z, .retAddr 0, .int (xs z58.toNatClampNeg), .ref 0], (m, k), hp)) rfl rfl ?_
  refine bs_lit (k := 2) rfl rfl fun z59 hz59 => ?_
  refine bs_add rfl (by omega) (by omega) fun z60 hz60 => ?_
  refine ls_sld rfl (by omega) (by omega) ?_
  refine (show Ev _ 357 ([some (.retAddr 0), some (.ref 0), some (.ref 69), some (.ref 87), some (.int z), a5, a6], [.int (xs z60.toNatClampNeg), .int (xs z58.toNatClampNeg), .ref 0], (m, k), hp) _ from ?_)
  refine Ev.step (j := 358) (s' := ([some (.retAddr 0), some (.ref 0), some (.ref 69), some (.ref 87), some (.int z), a5, a6], [.retAddr 0, .int (xs z60.toNatClampNeg), .int (xs z58.toNatClampNeg), .ref 0], (m, k), hp)) rfl rfl ?_
  refine Ev.step (j := 360) (s' := ([some (.retAddr 0), some (.ref 0), some (.ref 69), some (.ref 87), some (.int z), a5, a6], [.int z, .retAddr 0, .int (xs z60.toNatClampNeg), .int (xs z58.toNatClampNeg), .ref 0], (m, k), hp)) rfl rfl ?_
  refine bs_lit (k := 3) rfl rfl fun z61 hz61 => ?_
  refine bs_add rfl (by omega) (by omega) fun z62 hz62 => ?_
  refine ls_sld rfl (by omega) (by omega) ?_
  refine (show Ev _ 363 ([some (.retAddr 0), some (.ref 0), some (.ref 69), some (.ref 87), some (.int z), a5, a6], [.int (xs z62.toNatClampNeg), .int (xs z60.toNatClampNeg), .int (xs z58.toNatClampNeg), .ref 0], (m, k), hp) _ from ?_)
  refine bs_call (K := kq_X10_good_7e6f69) [.ref 0, .int (xs z58.toNatClampNeg), .int (xs z60.toNatClampNeg), .int (xs z62.toNatClampNeg)] [] rfl ct_X10_good_7e6f69 H rfl rfl rfl (bs_rcv (g := 10) H (bs_R.uq H (g := 10) rfl) (by decide) rfl) (ls_room (Nat.le_of_ble_eq_true rfl) (by omega) (by omega)) ?_ (sf_S_nil) fun r64 hp63 thp63 Hhp63 fhp63 ahp63 php63 => ?_
  · intro q k h
    match q, h with
    | 0, h => cases h; exact bs_jR (bs_R.uq H (g := 10) rfl)
    | 1, h => cases h; exact sf_j0
    | 2, h => cases h; exact sf_j0
    | 3, h => cases h; exact sf_j0
    | q + 4, h => cases h
  obtain ⟨z65, rfl⟩ := bs_anI ahp63
  have E66 := lw_keep H fhp63 rfl rfl hs
  refine (show Ev _ 366 ([some (.retAddr 0), some (.ref 0), some (.ref 69), some (.ref 87), some (.int z), a5, a6], [.int z65], (m + 0, k + 0), hp63) _ from ?_)
  refine Ev.step (j := 367) (s' := ([some (.retAddr 0), some (.ref 0), some (.ref 69), some (.ref 87), some (.int z), a5, a6], [], (m + 0, k + 0), hp63)) rfl rfl ?_
  refine Ev.step (j := 368) (s' := ([some (.retAddr 0), some (.ref 0), some (.ref 69), some (.ref 87), some (.int z), a5, a6], [.ref 69], (m + 0, k + 0), hp63)) rfl rfl ?_
  refine Ev.step (j := 369) (s' := ([some (.retAddr 0), some (.ref 0), some (.ref 69), some (.ref 87), some (.int z), a5, a6], [.retAddr 0, .ref 69], (m + 0, k + 0), hp63)) rfl rfl ?_
  refine Ev.step (j := 371) (s' := ([some (.retAddr 0), some (.ref 0), some (.ref 69), some (.ref 87), some (.int z), a5, a6], [.int z, .retAddr 0, .ref 69], (m + 0, k + 0), hp63)) rfl rfl ?_
  refine bs_lit (k := 1) rfl rfl fun z67 hz67 => ?_
  refine bs_add rfl (by omega) (by omega) fun z68 hz68 => ?_
  refine ls_sld rfl (by omega) (by omega) ?_
  refine (show Ev _ 374 ([some (.retAddr 0), some (.ref 0), some (.ref 69), some (.ref 87), some (.int z), a5, a6], [.int (xs z68.toNatClampNeg), .ref 69], (m + 0, k + 0), hp63) _ from ?_)
  refine Ev.step (j := 375) (s' := ([some (.retAddr 0), some (.ref 0), some (.ref 69), some (.ref 87), some (.int z), a5, a6], [.retAddr 0, .int (xs z68.toNatClampNeg), .ref 69], (m + 0, k + 0), hp63)) rfl rfl ?_
  refine Ev.step (j := 377) (s' := ([some (.retAddr 0), some (.ref 0), some (.ref 69), some (.ref 87), some (.int z), a5, a6], [.int z, .retAddr 0, .int (xs z68.toNatClampNeg), .ref 69], (m + 0, k + 0), hp63)) rfl rfl ?_
  refine bs_lit (k := 2) rfl rfl fun z69 hz69 => ?_
  refine bs_add rfl (by omega) (by omega) fun z70 hz70 => ?_
  refine ls_sld rfl (by omega) (by omega) ?_
  refine (show Ev _ 380 ([some (.retAddr 0), some (.ref 0), some (.ref 69), some (.ref 87), some (.int z), a5, a6], [.int (xs z70.toNatClampNeg), .int (xs z68.toNatClampNeg), .ref 69], (m + 0, k + 0), hp63) _ from ?_)
  refine Ev.step (j := 381) (s' := ([some (.retAddr 0), some (.ref 0), some (.ref 69), some (.ref 87), some (.int z), a5, a6], [.retAddr 0, .int (xs z70.toNatClampNeg), .int (xs z68.toNatClampNeg), .ref 69], (m + 0, k + 0), hp63)) rfl rfl ?_
  refine Ev.step (j := 383) (s' := ([some (.retAddr 0), some (.ref 0), some (.ref 69), some (.ref 87), some (.int z), a5, a6], [.int z, .retAddr 0, .int (xs z70.toNatClampNeg), .int (xs z68.toNatClampNeg), .ref 69], (m + 0, k + 0), hp63)) rfl rfl ?_
  refine bs_lit (k := 3) rfl rfl fun z71 hz71 => ?_
  refine bs_add rfl (by omega) (by omega) fun z72 hz72 => ?_
  refine ls_sld rfl (by omega) (by omega) ?_
  refine (show Ev _ 386 ([some (.retAddr 0), some (.ref 0), some (.ref 69), some (.ref 87), some (.int z), a5, a6], [.int (xs z72.toNatClampNeg), .int (xs z70.toNatClampNeg), .int (xs z68.toNatClampNeg), .ref 69], (m + 0, k + 0), hp63) _ from ?_)
  refine bs_call (K := kq_X11_good_3518ea) [.ref 69, .int (xs z68.toNatClampNeg), .int (xs z70.toNatClampNeg), .int (xs z72.toNatClampNeg)] [] rfl ct_X11_good_3518ea Hhp63 rfl rfl rfl (bs_rcv (g := 11) Hhp63 (bs_R.uq Hhp63 (g := 11) rfl) (by decide) rfl) (ls_room (Nat.le_of_ble_eq_true rfl) (by omega) (by omega)) ?_ (sf_S_nil) fun r74 hp73 thp73 Hhp73 fhp73 ahp73 php73 => ?_
  · intro q k h
    match q, h with
    | 0, h => cases h; exact bs_jR (bs_R.uq Hhp63 (g := 11) rfl)
    | 1, h => cases h; exact sf_j0
    | 2, h => cases h; exact sf_j0
    | 3, h => cases h; exact sf_j0
    | q + 4, h => cases h
  obtain ⟨z75, rfl⟩ := bs_anI ahp73
  have E76 := lw_keep Hhp63 fhp73 rfl rfl E66
  refine (show Ev _ 389 ([some (.retAddr 0), some (.ref 0), some (.ref 69), some (.ref 87), some (.int z), a5, a6], [.int z75], (m + 0 + 0, k + 0 + 0), hp73) _ from ?_)
  refine Ev.step (j := 390) (s' := ([some (.retAddr 0), some (.ref 0), some (.ref 69), some (.ref 87), some (.int z), a5, a6], [], (m + 0 + 0, k + 0 + 0), hp73)) rfl rfl ?_
  refine Ev.step (j := 1440) (s' := ([some (.retAddr 0), some (.ref 0), some (.ref 69), some (.ref 87), some (.int z), a5, a6], [], (m + 0 + 0, k + 0 + 0), hp73)) rfl rfl ?_
  exact K _ _ _ _ _ _ Hhp73 E76 (by omega) (by omega)
set_option maxRecDepth 100000 in
set_option maxHeartbeats 4000000 in
theorem op_crossed {xs : Nat → Int32} {n : Nat} {z : Int32} {a5 a6 : Option Value} {m k : Nat} {hp : ab_H} {t : Nat → Nat} {Q : ab_O → Prop} (H : sf_h t hp) (hs : lw_eq hp) (hz0 : 0 ≤ z.toInt) (hz1 : z.toInt + 6 ≤ n) (hn : n ≤ 3072) (hm : m + 21 ≤ 601024) (hk : k + 410 ≤ 7293034) (K : lw_K xs n z m k Q) : Ev (LT xs n) 393 ([some (.retAddr 0), some (.ref 0), some (.ref 69), some (.ref 87), some (.int z), a5, a6], [], (m, k), hp) Q := by
  refine Ev.step (j := 394) (s' := ([some (.retAddr 0), some (.ref 0), some (.ref 69), some (.ref 87), some (.int z), a5, a6], [.ref 0], (m, k), hp)) rfl rfl ?_
  refine Ev.step (j := 395) (s' := ([some (.retAddr 0), some (.ref 0), some (.ref 69), some (.ref 87), some (.int z), a5, a6], [.retAddr 0, .ref 0], (m, k), hp)) rfl rfl ?_
  refine Ev.step (j := 397) (s' := ([some (.retAddr 0), some (.ref 0), some (.ref 69), some (.ref 87), some (.int z), a5, a6], [.int z, .retAddr 0, .ref 0], (m, k), hp)) rfl rfl ?_
  refine bs_lit (k := 1) rfl rfl fun z77 hz77 => ?_
  refine bs_add rfl (by omega) (by omega) fun z78 hz78 => ?_
  refine ls_sld rfl (by omega) (by omega) ?_
  refine (show Ev _ 400 ([some (.retAddr 0), some (.ref 0), some (.ref 69), some (.ref 87), some (.int z), a5, a6], [.int (xs z78.toNatClampNeg), .ref 0], (m, k), hp) _ from ?_)
  refine Ev.step (j := 401) (s' := ([some (.retAddr 0), some (.ref 0), some (.ref 69), some (.ref 87), some (.int z), a5, a6], [.retAddr 0, .int (xs z78.toNatClampNeg), .ref 0], (m, k), hp)) rfl rfl ?_
  refine Ev.step (j := 403) (s' := ([some (.retAddr 0), some (.ref 0), some (.ref 69), some (.ref 87), some (.int z), a5, a6], [.int z, .retAddr 0, .int (xs z78.toNatClampNeg), .ref 0], (m, k), hp)) rfl rfl ?_
  refine bs_lit (k := 2) rfl rfl fun z79 hz79 => ?_
  refine bs_add rfl (by omega) (by omega) fun z80 hz80 => ?_
  refine ls_sld rfl (by omega) (by omega) ?_
  refine (show Ev _ 406 ([some (.retAddr 0), some (.ref 0), some (.ref 69), some (.ref 87), some (.int z), a5, a6], [.int (xs z80.toNatClampNeg), .int (xs z78.toNatClampNeg), .ref 0], (m, k), hp) _ from ?_)
  refine bs_call (K := kq_X10_crossed_57b5ea) [.ref 0, .int (xs z78.toNatClampNeg), .int (xs z80.toNatClampNeg)] [] rfl ct_X10_crossed_57b5ea H rfl rfl rfl (bs_rcv (g := 10) H (bs_R.uq H (g := 10) rfl) (by decide) rfl) (ls_room (Nat.le_of_ble_eq_true rfl) (by omega) (by omega)) ?_ (sf_S_nil) fun r82 hp81 thp81 Hhp81 fhp81 ahp81 php81 => ?_
  · intro q k h
    match q, h with
    | 0, h => cases h; exact bs_jR (bs_R.uq H (g := 10) rfl)
    | 1, h => cases h; exact sf_j0
    | 2, h => cases h; exact sf_j0
    | q + 3, h => cases h
  obtain ⟨z83, rfl⟩ := bs_anI ahp81
  have E84 := lw_keep H fhp81 rfl rfl hs
  refine (show Ev _ 409 ([some (.retAddr 0), some (.ref 0), some (.ref 69), some (.ref 87), some (.int z), a5, a6], [.int z83], (m + 0, k + 0), hp81) _ from ?_)
  refine Ev.step (j := 410) (s' := ([some (.retAddr 0), some (.ref 0), some (.ref 69), some (.ref 87), some (.int z), a5, a6], [], (m + 0, k + 0), hp81)) rfl rfl ?_
  refine Ev.step (j := 411) (s' := ([some (.retAddr 0), some (.ref 0), some (.ref 69), some (.ref 87), some (.int z), a5, a6], [.ref 69], (m + 0, k + 0), hp81)) rfl rfl ?_
  refine Ev.step (j := 412) (s' := ([some (.retAddr 0), some (.ref 0), some (.ref 69), some (.ref 87), some (.int z), a5, a6], [.retAddr 0, .ref 69], (m + 0, k + 0), hp81)) rfl rfl ?_
  refine Ev.step (j := 414) (s' := ([some (.retAddr 0), some (.ref 0), some (.ref 69), some (.ref 87), some (.int z), a5, a6], [.int z, .retAddr 0, .ref 69], (m + 0, k + 0), hp81)) rfl rfl ?_
  refine bs_lit (k := 1) rfl rfl fun z85 hz85 => ?_
  refine bs_add rfl (by omega) (by omega) fun z86 hz86 => ?_
  refine ls_sld rfl (by omega) (by omega) ?_
  refine (show Ev _ 417 ([some (.retAddr 0), some (.ref 0), some (.ref 69), some (.ref 87), some (.int z), a5, a6], [.int (xs z86.toNatClampNeg), .ref 69], (m + 0, k + 0), hp81) _ from ?_)
  refine Ev.step (j := 418) (s' := ([some (.retAddr 0), some (.ref 0), some (.ref 69), some (.ref 87), some (.int z), a5, a6], [.retAddr 0, .int (xs z86.toNatClampNeg), .ref 69], (m + 0, k + 0), hp81)) rfl rfl ?_
  refine Ev.step (j := 420) (s' := ([some (.retAddr 0), some (.ref 0), some (.ref 69), some (.ref 87), some (.int z), a5, a6], [.int z, .retAddr 0, .int (xs z86.toNatClampNeg), .ref 69], (m + 0, k + 0), hp81)) rfl rfl ?_
  refine bs_lit (k := 2) rfl rfl fun z87 hz87 => ?_
  refine bs_add rfl (by omega) (by omega) fun z88 hz88 => ?_
  refine ls_sld rfl (by omega) (by omega) ?_
  refine (show Ev _ 423 ([some (.retAddr 0), some (.ref 0), some (.ref 69), some (.ref 87), some (.int z), a5, a6], [.int (xs z88.toNatClampNeg), .int (xs z86.toNatClampNeg), .ref 69], (m + 0, k + 0), hp81) _ from ?_)
  refine bs_call (K := kq_X11_crossed_334faa) [.ref 69, .int (xs z86.toNatClampNeg), .int (xs z88.toNatClampNeg)] [] rfl ct_X11_crossed_334faa Hhp81 rfl rfl rfl (bs_rcv (g := 11) Hhp81 (bs_R.uq Hhp81 (g := 11) rfl) (by decide) rfl) (ls_room (Nat.le_of_ble_eq_true rfl) (by omega) (by omega)) ?_ (sf_S_nil) fun r90 hp89 thp89 Hhp89 fhp89 ahp89 php89 => ?_
  · intro q k h
    match q, h with
    | 0, h => cases h; exact bs_jR (bs_R.uq Hhp81 (g := 11) rfl)
    | 1, h => cases h; exact sf_j0
    | 2, h => cases h; exact sf_j0
    | q + 3, h => cases h
  obtain ⟨z91, rfl⟩ := bs_anI ahp89
  have E92 := lw_keep Hhp81 fhp89 rfl rfl E84
  refine (show Ev _ 426 ([some (.retAddr 0), some (.ref 0), some (.ref 69), some (.ref 87), some (.int z), a5, a6], [.int z91], (m + 0 + 0, k + 0 + 0), hp89) _ from ?_)
  refine Ev.step (j := 427) (s' := ([some (.retAddr 0), some (.ref 0), some (.ref 69), some (.ref 87), some (.int z), a5, a6], [], (m + 0 + 0, k + 0 + 0), hp89)) rfl rfl ?_
  refine Ev.step (j := 1440) (s' := ([some (.retAddr 0), some (.ref 0), some (.ref 69), some (.ref 87), some (.int z), a5, a6], [], (m + 0 + 0, k + 0 + 0), hp89)) rfl rfl ?_
  exact K _ _ _ _ _ _ Hhp89 E92 (by omega) (by omega)
set_option maxRecDepth 100000 in
set_option maxHeartbeats 4000000 in
theorem op_man {xs : Nat → Int32} {n : Nat} {z : Int32} {a5 a6 : Option Value} {m k : Nat} {hp : ab_H} {t : Nat → Nat} {Q : ab_O → Prop} (H : sf_h t hp) (hs : lw_eq hp) (hz0 : 0 ≤ z.toInt) (hz1 : z.toInt + 6 ≤ n) (hn : n ≤ 3072) (hm : m + 21 ≤ 601024) (hk : k + 410 ≤ 7293034) (K : lw_K xs n z m k Q) : Ev (LT xs n) 430 ([some (.retAddr 0), some (.ref 0), some (.ref 69), some (.ref 87), some (.int z), a5, a6], [], (m, k), hp) Q := by
  refine Ev.step (j := 431) (s' := ([some (.retAddr 0), some (.ref 0), some (.ref 69), some (.ref 87), some (.int z), a5, a6], [.ref 0], (m, k), hp)) rfl rfl ?_
  refine Ev.step (j := 432) (s' := ([some (.retAddr 0), some (.ref 0), some (.ref 69), some (.ref 87), some (.int z), a5, a6], [.retAddr 0, .ref 0], (m, k), hp)) rfl rfl ?_
  refine Ev.step (j := 434) (s' := ([some (.retAddr 0), some (.ref 0), some (.ref 69), some (.ref 87), some (.int z), a5, a6], [.int z, .retAddr 0, .ref 0], (m, k), hp)) rfl rfl ?_
  refine bs_lit (k := 1) rfl rfl fun z93 hz93 => ?_
  refine bs_add rfl (by omega) (by omega) fun z94 hz94 => ?_
  refine ls_sld rfl (by omega) (by omega) ?_
  refine (show Ev _ 437 ([some (.retAddr 0), some (.ref 0), some (.ref 69), some (.ref 87), some (.int z), a5, a6], [.int (xs z94.toNatClampNeg), .ref 0], (m, k), hp) _ from ?_)
  refine Ev.step (j := 438) (s' := ([some (.retAddr 0), some (.ref 0), some (.ref 69), some (.ref 87), some (.int z), a5, a6], [.retAddr 0, .int (xs z94.toNatClampNeg), .ref 0], (m, k), hp)) rfl rfl ?_
  refine Ev.step (j := 440) (s' := ([some (.retAddr 0), some (.ref 0), some (.ref 69), some (.ref 87), some (.int z), a5, a6], [.int z, .retAddr 0, .int (xs z94.toNatClampNeg), .ref 0], (m, k), hp)) rfl rfl ?_
  refine bs_lit (k := 2) rfl rfl fun z95 hz95 => ?_
  refine bs_add rfl (by omega) (by omega) fun z96 hz96 => ?_
  refine ls_sld rfl (by omega) (by omega) ?_
  refine (show Ev _ 443 ([some (.retAddr 0), some (.ref 0), some (.ref 69), some (.ref 87), some (.int z), a5, a6], [.int (xs z96.toNatClampNeg), .int (xs z94.toNatClampNeg), .ref 0], (m, k), hp) _ from ?_)
  refine Ev.step (j := 444) (s' := ([some (.retAddr 0), some (.ref 0), some (.ref 69), some (.ref 87), some (.int z), a5, a6], [.ref 87, .int (xs z96.toNatClampNeg), .int (xs z94.toNatClampNeg), .ref 0], (m, k), hp)) rfl rfl ?_
  refine bs_callS (K := kq_L_man) [.ref 0, .int (xs z94.toNatClampNeg), .int (xs z96.toNatClampNeg), .ref 87] [] rfl ct_L_man H rfl rfl rfl (ls_room (Nat.le_of_ble_eq_true rfl) (by omega) (by omega)) ?_ (sf_S_nil) fun r98 hp97 thp97 Hhp97 fhp97 ahp97 php97 => ?_
  · intro q k h
    match q, h with
    | 0, h => cases h; exact bs_jR (bs_R.uq H (g := 10) rfl)
    | 1, h => cases h; exact sf_j0
    | 2, h => cases h; exact sf_j0
    | 3, h => cases h; exact bs_jR (bs_R.uq H (g := 148) rfl)
    | q + 4, h => cases h
  obtain ⟨z99, rfl⟩ := bs_anI ahp97
  have E100 := lw_keep H fhp97 rfl rfl hs
  refine (show Ev _ 447 ([some (.retAddr 0), some (.ref 0), some (.ref 69), some (.ref 87), some (.int z), a5, a6], [.int z99], (m + 1, k + 6), hp97) _ from ?_)
  refine Ev.step (j := 449) (s' := ([some (.retAddr 0), some (.ref 0), some (.ref 69), some (.ref 87), some (.int z), (some (.int z99)), a6], [], (m + 1, k + 6), hp97)) rfl rfl ?_
  refine Ev.step (j := 450) (s' := ([some (.retAddr 0), some (.ref 0), some (.ref 69), some (.ref 87), some (.int z), (some (.int z99)), a6], [.ref 69], (m + 1, k + 6), hp97)) rfl rfl ?_
  refine Ev.step (j := 451) (s' := ([some (.retAddr 0), some (.ref 0), some (.ref 69), some (.ref 87), some (.int z), (some (.int z99)), a6], [.retAddr 0, .ref 69], (m + 1, k + 6), hp97)) rfl rfl ?_
  refine Ev.step (j := 453) (s' := ([some (.retAddr 0), some (.ref 0), some (.ref 69), some (.ref 87), some (.int z), (some (.int z99)), a6], [.int z, .retAddr 0, .ref 69], (m + 1, k + 6), hp97)) rfl rfl ?_
  refine bs_lit (k := 1) rfl rfl fun z101 hz101 => ?_
  refine bs_add rfl (by omega) (by omega) fun z102 hz102 => ?_
  refine ls_sld rfl (by omega) (by omega) ?_
  refine (show Ev _ 456 ([some (.retAddr 0), some (.ref 0), some (.ref 69), some (.ref 87), some (.int z), (some (.int z99)), a6], [.int (xs z102.toNatClampNeg), .ref 69], (m + 1, k + 6), hp97) _ from ?_)
  refine Ev.step (j := 457) (s' := ([some (.retAddr 0), some (.ref 0), some (.ref 69), some (.ref 87), some (.int z), (some (.int z99)), a6], [.retAddr 0, .int (xs z102.toNatClampNeg), .ref 69], (m + 1, k + 6), hp97)) rfl rfl ?_
  refine Ev.step (j := 459) (s' := ([some (.retAddr 0), some (.ref 0), some (.ref 69), some (.ref 87), some (.int z), (some (.int z99)), a6], [.int z, .retAddr 0, .int (xs z102.toNatClampNeg), .ref 69], (m + 1, k + 6), hp97)) rfl rfl ?_
  refine bs_lit (k := 2) rfl rfl fun z103 hz103 => ?_
  refine bs_add rfl (by omega) (by omega) fun z104 hz104 => ?_
  refine ls_sld rfl (by omega) (by omega) ?_
  refine (show Ev _ 462 ([some (.retAddr 0), some (.ref 0), some (.ref 69), some (.ref 87), some (.int z), (some (.int z99)), a6], [.int (xs z104.toNatClampNeg), .int (xs z102.toNatClampNeg), .ref 69], (m + 1, k + 6), hp97) _ from ?_)
  refine bs_call (K := kq_X11_man_h) [.ref 69, .int (xs z102.toNatClampNeg), .int (xs z104.toNatClampNeg)] [] rfl ct_X11_man_h Hhp97 rfl rfl rfl (bs_rcv (g := 11) Hhp97 (bs_R.uq Hhp97 (g := 11) rfl) (by decide) rfl) (ls_room (Nat.le_of_ble_eq_true rfl) (by omega) (by omega)) ?_ (sf_S_nil) fun r106 hp105 thp105 Hhp105 fhp105 ahp105 php105 => ?_
  · intro q k h
    match q, h with
    | 0, h => cases h; exact bs_jR (bs_R.uq Hhp97 (g := 11) rfl)
    | 1, h => cases h; exact sf_j0
    | 2, h => cases h; exact sf_j0
    | q + 3, h => cases h
  obtain ⟨z107, rfl⟩ := bs_anI ahp105
  have E108 := lw_keep Hhp97 fhp105 rfl rfl E100
  refine (show Ev _ 465 ([some (.retAddr 0), some (.ref 0), some (.ref 69), some (.ref 87), some (.int z), (some (.int z99)), a6], [.int z107], (m + 1 + 0, k + 6 + 0), hp105) _ from ?_)
  refine Ev.step (j := 467) (s' := ([some (.retAddr 0), some (.ref 0), some (.ref 69), some (.ref 87), some (.int z), (some (.int z99)), (some (.int z107))], [], (m + 1 + 0, k + 6 + 0), hp105)) rfl rfl ?_
  refine Ev.step (j := 1440) (s' := ([some (.retAddr 0), some (.ref 0), some (.ref 69), some (.ref 87), some (.int z), (some (.int z99)), (some (.int z107))], [], (m + 1 + 0, k + 6 + 0), hp105)) rfl rfl ?_
  exact K _ _ _ _ _ _ Hhp105 E108 (by omega) (by omega)
set_option maxRecDepth 100000 in
set_option maxHeartbeats 4000000 in
theorem op_apart {xs : Nat → Int32} {n : Nat} {z : Int32} {a5 a6 : Option Value} {m k : Nat} {hp : ab_H} {t : Nat → Nat} {Q : ab_O → Prop} (H : sf_h t hp) (hs : lw_eq hp) (hz0 : 0 ≤ z.toInt) (hz1 : z.toInt + 6 ≤ n) (hn : n ≤ 3072) (hm : m + 21 ≤ 601024) (hk : k + 410 ≤ 7293034) (K : lw_K xs n z m k Q) : Ev (LT xs n) 470 ([some (.retAddr 0), some (.ref 0), some (.ref 69), some (.ref 87), some (.int z), a5, a6], [], (m, k), hp) Q := by
  refine Ev.step (j := 471) (s' := ([some (.retAddr 0), some (.ref 0), some (.ref 69), some (.ref 87), some (.int z), a5, a6], [.ref 0], (m, k), hp)) rfl rfl ?_
  refine Ev.step (j := 472) (s' := ([some (.retAddr 0), some (.ref 0), some (.ref 69), some (.ref 87), some (.int z), a5, a6], [.retAddr 0, .ref 0], (m, k), hp)) rfl rfl ?_
  refine Ev.step (j := 474) (s' := ([some (.retAddr 0), some (.ref 0), some (.ref 69), some (.ref 87), some (.int z), a5, a6], [.int z, .retAddr 0, .ref 0], (m, k), hp)) rfl rfl ?_
  refine bs_lit (k := 1) rfl rfl fun z109 hz109 => ?_
  refine bs_add rfl (by omega) (by omega) fun z110 hz110 => ?_
  refine ls_sld rfl (by omega) (by omega) ?_
  refine (show Ev _ 477 ([some (.retAddr 0), some (.ref 0), some (.ref 69), some (.ref 87), some (.int z), a5, a6], [.int (xs z110.toNatClampNeg), .ref 0], (m, k), hp) _ from ?_)
  refine Ev.step (j := 478) (s' := ([some (.retAddr 0), some (.ref 0), some (.ref 69), some (.ref 87), some (.int z), a5, a6], [.retAddr 0, .int (xs z110.toNatClampNeg), .ref 0], (m, k), hp)) rfl rfl ?_
  refine Ev.step (j := 480) (s' := ([some (.retAddr 0), some (.ref 0), some (.ref 69), some (.ref 87), some (.int z), a5, a6], [.int z, .retAddr 0, .int (xs z110.toNatClampNeg), .ref 0], (m, k), hp)) rfl rfl ?_
  refine bs_lit (k := 2) rfl rfl fun z111 hz111 => ?_
  refine bs_add rfl (by omega) (by omega) fun z112 hz112 => ?_
  refine ls_sld rfl (by omega) (by omega) ?_
  refine (show Ev _ 483 ([some (.retAddr 0), some (.ref 0), some (.ref 69), some (.ref 87), some (.int z), a5, a6], [.int (xs z112.toNatClampNeg), .int (xs z110.toNatClampNeg), .ref 0], (m, k), hp) _ from ?_)
  refine bs_call (K := kq_X10_apart_57b5ea) [.ref 0, .int (xs z110.toNatClampNeg), .int (xs z112.toNatClampNeg)] [] rfl ct_X10_apart_57b5ea H rfl rfl rfl (bs_rcv (g := 10) H (bs_R.uq H (g := 10) rfl) (by decide) rfl) (ls_room (Nat.le_of_ble_eq_true rfl) (by omega) (by omega)) ?_ (sf_S_nil) fun r114 hp113 thp113 Hhp113 fhp113 ahp113 php113 => ?_
  · intro q k h
    match q, h with
    | 0, h => cases h; exact bs_jR (bs_R.uq H (g := 10) rfl)
    | 1, h => cases h; exact sf_j0
    | 2, h => cases h; exact sf_j0
    | q + 3, h => cases h
  obtain ⟨z115, rfl⟩ := bs_anI ahp113
  have E116 := lw_keep H fhp113 rfl rfl hs
  refine (show Ev _ 486 ([some (.retAddr 0), some (.ref 0), some (.ref 69), some (.ref 87), some (.int z), a5, a6], [.int z115], (m + 0, k + 0), hp113) _ from ?_)
  refine Ev.step (j := 487) (s' := ([some (.retAddr 0), some (.ref 0), some (.ref 69), some (.ref 87), some (.int z), a5, a6], [], (m + 0, k + 0), hp113)) rfl rfl ?_
  refine Ev.step (j := 488) (s' := ([some (.retAddr 0), some (.ref 0), some (.ref 69), some (.ref 87), some (.int z), a5, a6], [.ref 69], (m + 0, k + 0), hp113)) rfl rfl ?_
  refine Ev.step (j := 489) (s' := ([some (.retAddr 0), some (.ref 0), some (.ref 69), some (.ref 87), some (.int z), a5, a6], [.retAddr 0, .ref 69], (m + 0, k + 0), hp113)) rfl rfl ?_
  refine Ev.step (j := 491) (s' := ([some (.retAddr 0), some (.ref 0), some (.ref 69), some (.ref 87), some (.int z), a5, a6], [.int z, .retAddr 0, .ref 69], (m + 0, k + 0), hp113)) rfl rfl ?_
  refine bs_lit (k := 1) rfl rfl fun z117 hz117 => ?_
  refine bs_add rfl (by omega) (by omega) fun z118 hz118 => ?_
  refine ls_sld rfl (by omega) (by omega) ?_
  refine (show Ev _ 494 ([some (.retAddr 0), some (.ref 0), some (.ref 69), some (.ref 87), some (.int z), a5, a6], [.int (xs z118.toNatClampNeg), .ref 69], (m + 0, k + 0), hp113) _ from ?_)
  refine Ev.step (j := 495) (s' := ([some (.retAddr 0), some (.ref 0), some (.ref 69), some (.ref 87), some (.int z), a5, a6], [.retAddr 0, .int (xs z118.toNatClampNeg), .ref 69], (m + 0, k + 0), hp113)) rfl rfl ?_
  refine Ev.step (j := 497) (s' := ([some (.retAddr 0), some (.ref 0), some (.ref 69), some (.ref 87), some (.int z), a5, a6], [.int z, .retAddr 0, .int (xs z118.toNatClampNeg), .ref 69], (m + 0, k + 0), hp113)) rfl rfl ?_
  refine bs_lit (k := 2) rfl rfl fun z119 hz119 => ?_
  refine bs_add rfl (by omega) (by omega) fun z120 hz120 => ?_
  refine ls_sld rfl (by omega) (by omega) ?_
  refine (show Ev _ 500 ([some (.retAddr 0), some (.ref 0), some (.ref 69), some (.ref 87), some (.int z), a5, a6], [.int (xs z120.toNatClampNeg), .int (xs z118.toNatClampNeg), .ref 69], (m + 0, k + 0), hp113) _ from ?_)
  refine bs_call (K := kq_X11_apart_334faa) [.ref 69, .int (xs z118.toNatClampNeg), .int (xs z120.toNatClampNeg)] [] rfl ct_X11_apart_334faa Hhp113 rfl rfl rfl (bs_rcv (g := 11) Hhp113 (bs_R.uq Hhp113 (g := 11) rfl) (by decide) rfl) (ls_room (Nat.le_of_ble_eq_true rfl) (by omega) (by omega)) ?_ (sf_S_nil) fun r122 hp121 thp121 Hhp121 fhp121 ahp121 php121 => ?_
  · intro q k h
    match q, h with
    | 0, h => cases h; exact bs_jR (bs_R.uq Hhp113 (g := 11) rfl)
    | 1, h => cases h; exact sf_j0
    | 2, h => cases h; exact sf_j0
    | q + 3, h => cases h
  obtain ⟨z123, rfl⟩ := bs_anI ahp121
  have E124 := lw_keep Hhp113 fhp121 rfl rfl E116
  refine (show Ev _ 503 ([some (.retAddr 0), some (.ref 0), some (.ref 69), some (.ref 87), some (.int z), a5, a6], [.int z123], (m + 0 + 0, k + 0 + 0), hp121) _ from ?_)
  refine Ev.step (j := 504) (s' := ([some (.retAddr 0), some (.ref 0), some (.ref 69), some (.ref 87), some (.int z), a5, a6], [], (m + 0 + 0, k + 0 + 0), hp121)) rfl rfl ?_
  refine Ev.step (j := 1440) (s' := ([some (.retAddr 0), some (.ref 0), some (.ref 69), some (.ref 87), some (.int z), a5, a6], [], (m + 0 + 0, k + 0 + 0), hp121)) rfl rfl ?_
  exact K _ _ _ _ _ _ Hhp121 E124 (by omega) (by omega)
set_option maxRecDepth 100000 in
set_option maxHeartbeats 4000000 in
theorem op_now {xs : Nat → Int32} {n : Nat} {z : Int32} {a5 a6 : Option Value} {m k : Nat} {hp : ab_H} {t : Nat → Nat} {Q : ab_O → Prop} (H : sf_h t hp) (hs : lw_eq hp) (hz0 : 0 ≤ z.toInt) (hz1 : z.toInt + 6 ≤ n) (hn : n ≤ 3072) (hm : m + 21 ≤ 601024) (hk : k + 410 ≤ 7293034) (K : lw_K xs n z m k Q) : Ev (LT xs n) 507 ([some (.retAddr 0), some (.ref 0), some (.ref 69), some (.ref 87), some (.int z), a5, a6], [], (m, k), hp) Q := by
  refine Ev.step (j := 508) (s' := ([some (.retAddr 0), some (.ref 0), some (.ref 69), some (.ref 87), some (.int z), a5, a6], [.ref 0], (m, k), hp)) rfl rfl ?_
  refine Ev.step (j := 509) (s' := ([some (.retAddr 0), some (.ref 0), some (.ref 69), some (.ref 87), some (.int z), a5, a6], [.retAddr 0, .ref 0], (m, k), hp)) rfl rfl ?_
  refine Ev.step (j := 511) (s' := ([some (.retAddr 0), some (.ref 0), some (.ref 69), some (.ref 87), some (.int z), a5, a6], [.int z, .retAddr 0, .ref 0], (m, k), hp)) rfl rfl ?_
  refine bs_lit (k := 1) rfl rfl fun z125 hz125 => ?_
  refine bs_add rfl (by omega) (by omega) fun z126 hz126 => ?_
  refine ls_sld rfl (by omega) (by omega) ?_
  refine (show Ev _ 514 ([some (.retAddr 0), some (.ref 0), some (.ref 69), some (.ref 87), some (.int z), a5, a6], [.int (xs z126.toNatClampNeg), .ref 0], (m, k), hp) _ from ?_)
  refine bs_call (K := kq_X10_now_0df2a5) [.ref 0, .int (xs z126.toNatClampNeg)] [] rfl ct_X10_now_0df2a5 H rfl rfl rfl (bs_rcv (g := 10) H (bs_R.uq H (g := 10) rfl) (by decide) rfl) (ls_room (Nat.le_of_ble_eq_true rfl) (by omega) (by omega)) ?_ (sf_S_nil) fun r128 hp127 thp127 Hhp127 fhp127 ahp127 php127 => ?_
  · intro q k h
    match q, h with
    | 0, h => cases h; exact bs_jR (bs_R.uq H (g := 10) rfl)
    | 1, h => cases h; exact sf_j0
    | q + 2, h => cases h
  obtain ⟨z129, rfl⟩ := bs_anI ahp127
  have E130 := lw_keep H fhp127 rfl rfl hs
  refine (show Ev _ 517 ([some (.retAddr 0), some (.ref 0), some (.ref 69), some (.ref 87), some (.int z), a5, a6], [.int z129], (m + 0, k + 0), hp127) _ from ?_)
  refine Ev.step (j := 518) (s' := ([some (.retAddr 0), some (.ref 0), some (.ref 69), some (.ref 87), some (.int z), a5, a6], [], (m + 0, k + 0), hp127)) rfl rfl ?_
  refine Ev.step (j := 519) (s' := ([some (.retAddr 0), some (.ref 0), some (.ref 69), some (.ref 87), some (.int z), a5, a6], [.ref 69], (m + 0, k + 0), hp127)) rfl rfl ?_
  refine Ev.step (j := 520) (s' := ([some (.retAddr 0), some (.ref 0), some (.ref 69), some (.ref 87), some (.int z), a5, a6], [.retAddr 0, .ref 69], (m + 0, k + 0), hp127)) rfl rfl ?_
  refine Ev.step (j := 522) (s' := ([some (.retAddr 0), some (.ref 0), some (.ref 69), some (.ref 87), some (.int z), a5, a6], [.int z, .retAddr 0, .ref 69], (m + 0, k + 0), hp127)) rfl rfl ?_
  refine bs_lit (k := 1) rfl rfl fun z131 hz131 => ?_
  refine bs_add rfl (by omega) (by omega) fun z132 hz132 => ?_
  refine ls_sld rfl (by omega) (by omega) ?_
  refine (show Ev _ 525 ([some (.retAddr 0), some (.ref 0), some (.ref 69), some (.ref 87), some (.int z), a5, a6], [.int (xs z132.toNatClampNeg), .ref 69], (m + 0, k + 0), hp127) _ from ?_)
  refine bs_call (K := kq_X11_now_3d45d6) [.ref 69, .int (xs z132.toNatClampNeg)] [] rfl ct_X11_now_3d45d6 Hhp127 rfl rfl rfl (bs_rcv (g := 11) Hhp127 (bs_R.uq Hhp127 (g := 11) rfl) (by decide) rfl) (ls_room (Nat.le_of_ble_eq_true rfl) (by omega) (by omega)) ?_ (sf_S_nil) fun r134 hp133 thp133 Hhp133 fhp133 ahp133 php133 => ?_
  · intro q k h
    match q, h with
    | 0, h => cases h; exact bs_jR (bs_R.uq Hhp127 (g := 11) rfl)
    | 1, h => cases h; exact sf_j0
    | q + 2, h => cases h
  obtain ⟨z135, rfl⟩ := bs_anI ahp133
  have E136 := lw_keep Hhp127 fhp133 rfl rfl E130
  refine (show Ev _ 528 ([some (.retAddr 0), some (.ref 0), some (.ref 69), some (.ref 87), some (.int z), a5, a6], [.int z135], (m + 0 + 0, k + 0 + 0), hp133) _ from ?_)
  refine Ev.step (j := 529) (s' := ([some (.retAddr 0), some (.ref 0), some (.ref 69), some (.ref 87), some (.int z), a5, a6], [], (m + 0 + 0, k + 0 + 0), hp133)) rfl rfl ?_
  refine Ev.step (j := 1440) (s' := ([some (.retAddr 0), some (.ref 0), some (.ref 69), some (.ref 87), some (.int z), a5, a6], [], (m + 0 + 0, k + 0 + 0), hp133)) rfl rfl ?_
  exact K _ _ _ _ _ _ Hhp133 E136 (by omega) (by omega)
set_option maxRecDepth 100000 in
set_option maxHeartbeats 4000000 in
theorem op_hoard {xs : Nat → Int32} {n : Nat} {z : Int32} {a5 a6 : Option Value} {m k : Nat} {hp : ab_H} {t : Nat → Nat} {Q : ab_O → Prop} (H : sf_h t hp) (hs : lw_eq hp) (hz0 : 0 ≤ z.toInt) (hz1 : z.toInt + 6 ≤ n) (hn : n ≤ 3072) (hm : m + 21 ≤ 601024) (hk : k + 410 ≤ 7293034) (K : lw_K xs n z m k Q) : Ev (LT xs n) 532 ([some (.retAddr 0), some (.ref 0), some (.ref 69), some (.ref 87), some (.int z), a5, a6], [], (m, k), hp) Q := by
  refine Ev.step (j := 533) (s' := ([some (.retAddr 0), some (.ref 0), some (.ref 69), some (.ref 87), some (.int z), a5, a6], [.ref 0], (m, k), hp)) rfl rfl ?_
  refine Ev.step (j := 534) (s' := ([some (.retAddr 0), some (.ref 0), some (.ref 69), some (.ref 87), some (.int z), a5, a6], [.retAddr 0, .ref 0], (m, k), hp)) rfl rfl ?_
  refine Ev.step (j := 536) (s' := ([some (.retAddr 0), some (.ref 0), some (.ref 69), some (.ref 87), some (.int z), a5, a6], [.int z, .retAddr 0, .ref 0], (m, k), hp)) rfl rfl ?_
  refine bs_lit (k := 1) rfl rfl fun z137 hz137 => ?_
  refine bs_add rfl (by omega) (by omega) fun z138 hz138 => ?_
  refine ls_sld rfl (by omega) (by omega) ?_
  refine (show Ev _ 539 ([some (.retAddr 0), some (.ref 0), some (.ref 69), some (.ref 87), some (.int z), a5, a6], [.int (xs z138.toNatClampNeg), .ref 0], (m, k), hp) _ from ?_)
  refine Ev.step (j := 540) (s' := ([some (.retAddr 0), some (.ref 0), some (.ref 69), some (.ref 87), some (.int z), a5, a6], [.retAddr 0, .int (xs z138.toNatClampNeg), .ref 0], (m, k), hp)) rfl rfl ?_
  refine Ev.step (j := 542) (s' := ([some (.retAddr 0), some (.ref 0), some (.ref 69), some (.ref 87), some (.int z), a5, a6], [.int z, .retAddr 0, .int (xs z138.toNatClampNeg), .ref 0], (m, k), hp)) rfl rfl ?_
  refine bs_lit (k := 2) rfl rfl fun z139 hz139 => ?_
  refine bs_add rfl (by omega) (by omega) fun z140 hz140 => ?_
  refine ls_sld rfl (by omega) (by omega) ?_
  refine (show Ev _ 545 ([some (.retAddr 0), some (.ref 0), some (.ref 69), some (.ref 87), some (.int z), a5, a6], [.int (xs z140.toNatClampNeg), .int (xs z138.toNatClampNeg), .ref 0], (m, k), hp) _ from ?_)
  refine Ev.step (j := 546) (s' := ([some (.retAddr 0), some (.ref 0), some (.ref 69), some (.ref 87), some (.int z), a5, a6], [.retAddr 0, .int (xs z140.toNatClampNeg), .int (xs z138.toNatClampNeg), .ref 0], (m, k), hp)) rfl rfl ?_
  refine Ev.step (j := 548) (s' := ([some (.retAddr 0), some (.ref 0), some (.ref 69), some (.ref 87), some (.int z), a5, a6], [.int z, .retAddr 0, .int (xs z140.toNatClampNeg), .int (xs z138.toNatClampNeg), .ref 0], (m, k), hp)) rfl rfl ?_
  refine bs_lit (k := 3) rfl rfl fun z141 hz141 => ?_
  refine bs_add rfl (by omega) (by omega) fun z142 hz142 => ?_
  refine ls_sld rfl (by omega) (by omega) ?_
  refine (show Ev _ 551 ([some (.retAddr 0), some (.ref 0), some (.ref 69), some (.ref 87), some (.int z), a5, a6], [.int (xs z142.toNatClampNeg), .int (xs z140.toNatClampNeg), .int (xs z138.toNatClampNeg), .ref 0], (m, k), hp) _ from ?_)
  refine bs_call (K := kq_X10_hoard_7e6f69) [.ref 0, .int (xs z138.toNatClampNeg), .int (xs z140.toNatClampNeg), .int (xs z142.toNatClampNeg)] [] rfl ct_X10_hoard_7e6f69 H rfl rfl rfl (bs_rcv (g := 10) H (bs_R.uq H (g := 10) rfl) (by decide) rfl) (ls_room (Nat.le_of_ble_eq_true rfl) (by omega) (by omega)) ?_ (sf_S_nil) fun r144 hp143 thp143 Hhp143 fhp143 ahp143 php143 => ?_
  · intro q k h
    match q, h with
    | 0, h => cases h; exact bs_jR (bs_R.uq H (g := 10) rfl)
    | 1, h => cases h; exact sf_j0
    | 2, h => cases h; exact sf_j0
    | 3, h => cases h; exact sf_j0
    | q + 4, h => cases h
  obtain ⟨z145, rfl⟩ := bs_anI ahp143
  have E146 := lw_keep H fhp143 rfl rfl hs
  refine (show Ev _ 554 ([some (.retAddr 0), some (.ref 0), some (.ref 69), some (.ref 87), some (.int z), a5, a6], [.int z145], (m + 8, k + 138), hp143) _ from ?_)
  refine Ev.step (j := 555) (s' := ([some (.retAddr 0), some (.ref 0), some (.ref 69), some (.ref 87), some (.int z), a5, a6], [], (m + 8, k + 138), hp143)) rfl rfl ?_
  refine Ev.step (j := 556) (s' := ([some (.retAddr 0), some (.ref 0), some (.ref 69), some (.ref 87), some (.int z), a5, a6], [.ref 69], (m + 8, k + 138), hp143)) rfl rfl ?_
  refine Ev.step (j := 557) (s' := ([some (.retAddr 0), some (.ref 0), some (.ref 69), some (.ref 87), some (.int z), a5, a6], [.retAddr 0, .ref 69], (m + 8, k + 138), hp143)) rfl rfl ?_
  refine Ev.step (j := 559) (s' := ([some (.retAddr 0), some (.ref 0), some (.ref 69), some (.ref 87), some (.int z), a5, a6], [.int z, .retAddr 0, .ref 69], (m + 8, k + 138), hp143)) rfl rfl ?_
  refine bs_lit (k := 1) rfl rfl fun z147 hz147 => ?_
  refine bs_add rfl (by omega) (by omega) fun z148 hz148 => ?_
  refine ls_sld rfl (by omega) (by omega) ?_
  refine (show Ev _ 562 ([some (.retAddr 0), some (.ref 0), some (.ref 69), some (.ref 87), some (.int z), a5, a6], [.int (xs z148.toNatClampNeg), .ref 69], (m + 8, k + 138), hp143) _ from ?_)
  refine Ev.step (j := 563) (s' := ([some (.retAddr 0), some (.ref 0), some (.ref 69), some (.ref 87), some (.int z), a5, a6], [.retAddr 0, .int (xs z148.toNatClampNeg), .ref 69], (m + 8, k + 138), hp143)) rfl rfl ?_
  refine Ev.step (j := 565) (s' := ([some (.retAddr 0), some (.ref 0), some (.ref 69), some (.ref 87), some (.int z), a5, a6], [.int z, .retAddr 0, .int (xs z148.toNatClampNeg), .ref 69], (m + 8, k + 138), hp143)) rfl rfl ?_
  refine bs_lit (k := 2) rfl rfl fun z149 hz149 => ?_
  refine bs_add rfl (by omega) (by omega) fun z150 hz150 => ?_
  refine ls_sld rfl (by omega) (by omega) ?_
  refine (show Ev _ 568 ([some (.retAddr 0), some (.ref 0), some (.ref 69), some (.ref 87), some (.int z), a5, a6], [.int (xs z150.toNatClampNeg), .int (xs z148.toNatClampNeg), .ref 69], (m + 8, k + 138), hp143) _ from ?_)
  refine Ev.step (j := 569) (s' := ([some (.retAddr 0), some (.ref 0), some (.ref 69), some (.ref 87), some (.int z), a5, a6], [.retAddr 0, .int (xs z150.toNatClampNeg), .int (xs z148.toNatClampNeg), .ref 69], (m + 8, k + 138), hp143)) rfl rfl ?_
  refine Ev.step (j := 571) (s' := ([some (.retAddr 0), some (.ref 0), some (.ref 69), some (.ref 87), some (.int z), a5, a6], [.int z, .retAddr 0, .int (xs z150.toNatClampNeg), .int (xs z148.toNatClampNeg), .ref 69], (m + 8, k + 138), hp143)) rfl rfl ?_
  refine bs_lit (k := 3) rfl rfl fun z151 hz151 => ?_
  refine bs_add rfl (by omega) (by omega) fun z152 hz152 => ?_
  refine ls_sld rfl (by omega) (by omega) ?_
  refine (show Ev _ 574 ([some (.retAddr 0), some (.ref 0), some (.ref 69), some (.ref 87), some (.int z), a5, a6], [.int (xs z152.toNatClampNeg), .int (xs z150.toNatClampNeg), .int (xs z148.toNatClampNeg), .ref 69], (m + 8, k + 138), hp143) _ from ?_)
  refine bs_call (K := kq_X11_hoard_h) [.ref 69, .int (xs z148.toNatClampNeg), .int (xs z150.toNatClampNeg), .int (xs z152.toNatClampNeg)] [] rfl ct_X11_hoard_h Hhp143 rfl rfl rfl (bs_rcv (g := 11) Hhp143 (bs_R.uq Hhp143 (g := 11) rfl) (by decide) rfl) (ls_room (Nat.le_of_ble_eq_true rfl) (by omega) (by omega)) ?_ (sf_S_nil) fun r154 hp153 thp153 Hhp153 fhp153 ahp153 php153 => ?_
  · intro q k h
    match q, h with
    | 0, h => cases h; exact bs_jR (bs_R.uq Hhp143 (g := 11) rfl)
    | 1, h => cases h; exact sf_j0
    | 2, h => cases h; exact sf_j0
    | 3, h => cases h; exact sf_j0
    | q + 4, h => cases h
  obtain ⟨z155, rfl⟩ := bs_anI ahp153
  have E156 := lw_keep Hhp143 fhp153 rfl rfl E146
  refine (show Ev _ 577 ([some (.retAddr 0), some (.ref 0), some (.ref 69), some (.ref 87), some (.int z), a5, a6], [.int z155], (m + 8 + 0, k + 138 + 0), hp153) _ from ?_)
  refine Ev.step (j := 578) (s' := ([some (.retAddr 0), some (.ref 0), some (.ref 69), some (.ref 87), some (.int z), a5, a6], [], (m + 8 + 0, k + 138 + 0), hp153)) rfl rfl ?_
  refine Ev.step (j := 1440) (s' := ([some (.retAddr 0), some (.ref 0), some (.ref 69), some (.ref 87), some (.int z), a5, a6], [], (m + 8 + 0, k + 138 + 0), hp153)) rfl rfl ?_
  exact K _ _ _ _ _ _ Hhp153 E156 (by omega) (by omega)
set_option maxRecDepth 100000 in
set_option maxHeartbeats 4000000 in
theorem op_bare {xs : Nat → Int32} {n : Nat} {z : Int32} {a5 a6 : Option Value} {m k : Nat} {hp : ab_H} {t : Nat → Nat} {Q : ab_O → Prop} (H : sf_h t hp) (hs : lw_eq hp) (hz0 : 0 ≤ z.toInt) (hz1 : z.toInt + 6 ≤ n) (hn : n ≤ 3072) (hm : m + 21 ≤ 601024) (hk : k + 410 ≤ 7293034) (K : lw_K xs n z m k Q) : Ev (LT xs n) 581 ([some (.retAddr 0), some (.ref 0), some (.ref 69), some (.ref 87), some (.int z), a5, a6], [], (m, k), hp) Q := by
  refine Ev.step (j := 582) (s' := ([some (.retAddr 0), some (.ref 0), some (.ref 69), some (.ref 87), some (.int z), a5, a6], [.ref 0], (m, k), hp)) rfl rfl ?_
  refine Ev.step (j := 583) (s' := ([some (.retAddr 0), some (.ref 0), some (.ref 69), some (.ref 87), some (.int z), a5, a6], [.retAddr 0, .ref 0], (m, k), hp)) rfl rfl ?_
  refine Ev.step (j := 585) (s' := ([some (.retAddr 0), some (.ref 0), some (.ref 69), some (.ref 87), some (.int z), a5, a6], [.int z, .retAddr 0, .ref 0], (m, k), hp)) rfl rfl ?_
  refine bs_lit (k := 1) rfl rfl fun z157 hz157 => ?_
  refine bs_add rfl (by omega) (by omega) fun z158 hz158 => ?_
  refine ls_sld rfl (by omega) (by omega) ?_
  refine (show Ev _ 588 ([some (.retAddr 0), some (.ref 0), some (.ref 69), some (.ref 87), some (.int z), a5, a6], [.int (xs z158.toNatClampNeg), .ref 0], (m, k), hp) _ from ?_)
  refine Ev.step (j := 589) (s' := ([some (.retAddr 0), some (.ref 0), some (.ref 69), some (.ref 87), some (.int z), a5, a6], [.retAddr 0, .int (xs z158.toNatClampNeg), .ref 0], (m, k), hp)) rfl rfl ?_
  refine Ev.step (j := 591) (s' := ([some (.retAddr 0), some (.ref 0), some (.ref 69), some (.ref 87), some (.int z), a5, a6], [.int z, .retAddr 0, .int (xs z158.toNatClampNeg), .ref 0], (m, k), hp)) rfl rfl ?_
  refine bs_lit (k := 2) rfl rfl fun z159 hz159 => ?_
  refine bs_add rfl (by omega) (by omega) fun z160 hz160 => ?_
  refine ls_sld rfl (by omega) (by omega) ?_
  refine (show Ev _ 594 ([some (.retAddr 0), some (.ref 0), some (.ref 69), some (.ref 87), some (.int z), a5, a6], [.int (xs z160.toNatClampNeg), .int (xs z158.toNatClampNeg), .ref 0], (m, k), hp) _ from ?_)
  refine Ev.step (j := 595) (s' := ([some (.retAddr 0), some (.ref 0), some (.ref 69), some (.ref 87), some (.int z), a5, a6], [.retAddr 0, .int (xs z160.toNatClampNeg), .int (xs z158.toNatClampNeg), .ref 0], (m, k), hp)) rfl rfl ?_
  refine Ev.step (j := 597) (s' := ([some (.retAddr 0), some (.ref 0), some (.ref 69), some (.ref 87), some (.int z), a5, a6], [.int z, .retAddr 0, .int (xs z160.toNatClampNeg), .int (xs z158.toNatClampNeg), .ref 0], (m, k), hp)) rfl rfl ?_
  refine bs_lit (k := 3) rfl rfl fun z161 hz161 => ?_
  refine bs_add rfl (by omega) (by omega) fun z162 hz162 => ?_
  refine ls_sld rfl (by omega) (by omega) ?_
  refine (show Ev _ 600 ([some (.retAddr 0), some (.ref 0), some (.ref 69), some (.ref 87), some (.int z), a5, a6], [.int (xs z162.toNatClampNeg), .int (xs z160.toNatClampNeg), .int (xs z158.toNatClampNeg), .ref 0], (m, k), hp) _ from ?_)
  refine bs_call (K := kq_X10_bare_7e6f69) [.ref 0, .int (xs z158.toNatClampNeg), .int (xs z160.toNatClampNeg), .int (xs z162.toNatClampNeg)] [] rfl ct_X10_bare_7e6f69 H rfl rfl rfl (bs_rcv (g := 10) H (bs_R.uq H (g := 10) rfl) (by decide) rfl) (ls_room (Nat.le_of_ble_eq_true rfl) (by omega) (by omega)) ?_ (sf_S_nil) fun r164 hp163 thp163 Hhp163 fhp163 ahp163 php163 => ?_
  · intro q k h
    match q, h with
    | 0, h => cases h; exact bs_jR (bs_R.uq H (g := 10) rfl)
    | 1, h => cases h; exact sf_j0
    | 2, h => cases h; exact sf_j0
    | 3, h => cases h; exact sf_j0
    | q + 4, h => cases h
  obtain ⟨z165, rfl⟩ := bs_anI ahp163
  have E166 := lw_keep H fhp163 rfl rfl hs
  refine (show Ev _ 603 ([some (.retAddr 0), some (.ref 0), some (.ref 69), some (.ref 87), some (.int z), a5, a6], [.int z165], (m + 8, k + 138), hp163) _ from ?_)
  refine Ev.step (j := 604) (s' := ([some (.retAddr 0), some (.ref 0), some (.ref 69), some (.ref 87), some (.int z), a5, a6], [], (m + 8, k + 138), hp163)) rfl rfl ?_
  refine Ev.step (j := 605) (s' := ([some (.retAddr 0), some (.ref 0), some (.ref 69), some (.ref 87), some (.int z), a5, a6], [.ref 69], (m + 8, k + 138), hp163)) rfl rfl ?_
  refine Ev.step (j := 606) (s' := ([some (.retAddr 0), some (.ref 0), some (.ref 69), some (.ref 87), some (.int z), a5, a6], [.retAddr 0, .ref 69], (m + 8, k + 138), hp163)) rfl rfl ?_
  refine Ev.step (j := 608) (s' := ([some (.retAddr 0), some (.ref 0), some (.ref 69), some (.ref 87), some (.int z), a5, a6], [.int z, .retAddr 0, .ref 69], (m + 8, k + 138), hp163)) rfl rfl ?_
  refine bs_lit (k := 1) rfl rfl fun z167 hz167 => ?_
  refine bs_add rfl (by omega) (by omega) fun z168 hz168 => ?_
  refine ls_sld rfl (by omega) (by omega) ?_
  refine (show Ev _ 611 ([some (.retAddr 0), some (.ref 0), some (.ref 69), some (.ref 87), some (.int z), a5, a6], [.int (xs z168.toNatClampNeg), .ref 69], (m + 8, k + 138), hp163) _ from ?_)
  refine Ev.step (j := 612) (s' := ([some (.retAddr 0), some (.ref 0), some (.ref 69), some (.ref 87), some (.int z), a5, a6], [.retAddr 0, .int (xs z168.toNatClampNeg), .ref 69], (m + 8, k + 138), hp163)) rfl rfl ?_
  refine Ev.step (j := 614) (s' := ([some (.retAddr 0), some (.ref 0), some (.ref 69), some (.ref 87), some (.int z), a5, a6], [.int z, .retAddr 0, .int (xs z168.toNatClampNeg), .ref 69], (m + 8, k + 138), hp163)) rfl rfl ?_
  refine bs_lit (k := 2) rfl rfl fun z169 hz169 => ?_
  refine bs_add rfl (by omega) (by omega) fun z170 hz170 => ?_
  refine ls_sld rfl (by omega) (by omega) ?_
  refine (show Ev _ 617 ([some (.retAddr 0), some (.ref 0), some (.ref 69), some (.ref 87), some (.int z), a5, a6], [.int (xs z170.toNatClampNeg), .int (xs z168.toNatClampNeg), .ref 69], (m + 8, k + 138), hp163) _ from ?_)
  refine Ev.step (j := 618) (s' := ([some (.retAddr 0), some (.ref 0), some (.ref 69), some (.ref 87), some (.int z), a5, a6], [.retAddr 0, .int (xs z170.toNatClampNeg), .int (xs z168.toNatClampNeg), .ref 69], (m + 8, k + 138), hp163)) rfl rfl ?_
  refine Ev.step (j := 620) (s' := ([some (.retAddr 0), some (.ref 0), some (.ref 69), some (.ref 87), some (.int z), a5, a6], [.int z, .retAddr 0, .int (xs z170.toNatClampNeg), .int (xs z168.toNatClampNeg), .ref 69], (m + 8, k + 138), hp163)) rfl rfl ?_
  refine bs_lit (k := 3) rfl rfl fun z171 hz171 => ?_
  refine bs_add rfl (by omega) (by omega) fun z172 hz172 => ?_
  refine ls_sld rfl (by omega) (by omega) ?_
  refine (show Ev _ 623 ([some (.retAddr 0), some (.ref 0), some (.ref 69), some (.ref 87), some (.int z), a5, a6], [.int (xs z172.toNatClampNeg), .int (xs z170.toNatClampNeg), .int (xs z168.toNatClampNeg), .ref 69], (m + 8, k + 138), hp163) _ from ?_)
  refine bs_call (K := kq_X11_bare_h) [.ref 69, .int (xs z168.toNatClampNeg), .int (xs z170.toNatClampNeg), .int (xs z172.toNatClampNeg)] [] rfl ct_X11_bare_h Hhp163 rfl rfl rfl (bs_rcv (g := 11) Hhp163 (bs_R.uq Hhp163 (g := 11) rfl) (by decide) rfl) (ls_room (Nat.le_of_ble_eq_true rfl) (by omega) (by omega)) ?_ (sf_S_nil) fun r174 hp173 thp173 Hhp173 fhp173 ahp173 php173 => ?_
  · intro q k h
    match q, h with
    | 0, h => cases h; exact bs_jR (bs_R.uq Hhp163 (g := 11) rfl)
    | 1, h => cases h; exact sf_j0
    | 2, h => cases h; exact sf_j0
    | 3, h => cases h; exact sf_j0
    | q + 4, h => cases h
  obtain ⟨z175, rfl⟩ := bs_anI ahp173
  have E176 := lw_keep Hhp163 fhp173 rfl rfl E166
  refine (show Ev _ 626 ([some (.retAddr 0), some (.ref 0), some (.ref 69), some (.ref 87), some (.int z), a5, a6], [.int z175], (m + 8 + 0, k + 138 + 0), hp173) _ from ?_)
  refine Ev.step (j := 627) (s' := ([some (.retAddr 0), some (.ref 0), some (.ref 69), some (.ref 87), some (.int z), a5, a6], [], (m + 8 + 0, k + 138 + 0), hp173)) rfl rfl ?_
  refine Ev.step (j := 1440) (s' := ([some (.retAddr 0), some (.ref 0), some (.ref 69), some (.ref 87), some (.int z), a5, a6], [], (m + 8 + 0, k + 138 + 0), hp173)) rfl rfl ?_
  exact K _ _ _ _ _ _ Hhp173 E176 (by omega) (by omega)
set_option maxRecDepth 100000 in
set_option maxHeartbeats 4000000 in
theorem op_waste {xs : Nat → Int32} {n : Nat} {z : Int32} {a5 a6 : Option Value} {m k : Nat} {hp : ab_H} {t : Nat → Nat} {Q : ab_O → Prop} (H : sf_h t hp) (hs : lw_eq hp) (hz0 : 0 ≤ z.toInt) (hz1 : z.toInt + 6 ≤ n) (hn : n ≤ 3072) (hm : m + 21 ≤ 601024) (hk : k + 410 ≤ 7293034) (K : lw_K xs n z m k Q) : Ev (LT xs n) 630 ([some (.retAddr 0), some (.ref 0), some (.ref 69), some (.ref 87), some (.int z), a5, a6], [], (m, k), hp) Q := by
  refine Ev.step (j := 631) (s' := ([some (.retAddr 0), some (.ref 0), some (.ref 69), some (.ref 87), some (.int z), a5, a6], [.ref 0], (m, k), hp)) rfl rfl ?_
  refine Ev.step (j := 632) (s' := ([some (.retAddr 0), some (.ref 0), some (.ref 69), some (.ref 87), some (.int z), a5, a6], [.retAddr 0, .ref 0], (m, k), hp)) rfl rfl ?_
  refine Ev.step (j := 634) (s' := ([some (.retAddr 0), some (.ref 0), some (.ref 69), some (.ref 87), some (.int z), a5, a6], [.int z, .retAddr 0, .ref 0], (m, k), hp)) rfl rfl ?_
  refine bs_lit (k := 1) rfl rfl fun z177 hz177 => ?_
  refine bs_add rfl (by omega) (by omega) fun z178 hz178 => ?_
  refine ls_sld rfl (by omega) (by omega) ?_
  refine (show Ev _ 637 ([some (.retAddr 0), some (.ref 0), some (.ref 69), some (.ref 87), some (.int z), a5, a6], [.int (xs z178.toNatClampNeg), .ref 0], (m, k), hp) _ from ?_)
  refine Ev.step (j := 638) (s' := ([some (.retAddr 0), some (.ref 0), some (.ref 69), some (.ref 87), some (.int z), a5, a6], [.retAddr 0, .int (xs z178.toNatClampNeg), .ref 0], (m, k), hp)) rfl rfl ?_
  refine Ev.step (j := 640) (s' := ([some (.retAddr 0), some (.ref 0), some (.ref 69), some (.ref 87), some (.int z), a5, a6], [.int z, .retAddr 0, .int (xs z178.toNatClampNeg), .ref 0], (m, k), hp)) rfl rfl ?_
  refine bs_lit (k := 2) rfl rfl fun z179 hz179 => ?_
  refine bs_add rfl (by omega) (by omega) fun z180 hz180 => ?_
  refine ls_sld rfl (by omega) (by omega) ?_
  refine (show Ev _ 643 ([some (.retAddr 0), some (.ref 0), some (.ref 69), some (.ref 87), some (.int z), a5, a6], [.int (xs z180.toNatClampNeg), .int (xs z178.toNatClampNeg), .ref 0], (m, k), hp) _ from ?_)
  refine Ev.step (j := 644) (s' := ([some (.retAddr 0), some (.ref 0), some (.ref 69), some (.ref 87), some (.int z), a5, a6], [.retAddr 0, .int (xs z180.toNatClampNeg), .int (xs z178.toNatClampNeg), .ref 0], (m, k), hp)) rfl rfl ?_
  refine Ev.step (j := 646) (s' := ([some (.retAddr 0), some (.ref 0), some (.ref 69), some (.ref 87), some (.int z), a5, a6], [.int z, .retAddr 0, .int (xs z180.toNatClampNeg), .int (xs z178.toNatClampNeg), .ref 0], (m, k), hp)) rfl rfl ?_
  refine bs_lit (k := 3) rfl rfl fun z181 hz181 => ?_
  refine bs_add rfl (by omega) (by omega) fun z182 hz182 => ?_
  refine ls_sld rfl (by omega) (by omega) ?_
  refine (show Ev _ 649 ([some (.retAddr 0), some (.ref 0), some (.ref 69), some (.ref 87), some (.int z), a5, a6], [.int (xs z182.toNatClampNeg), .int (xs z180.toNatClampNeg), .int (xs z178.toNatClampNeg), .ref 0], (m, k), hp) _ from ?_)
  refine bs_call (K := kq_X10_waste_7e6f69) [.ref 0, .int (xs z178.toNatClampNeg), .int (xs z180.toNatClampNeg), .int (xs z182.toNatClampNeg)] [] rfl ct_X10_waste_7e6f69 H rfl rfl rfl (bs_rcv (g := 10) H (bs_R.uq H (g := 10) rfl) (by decide) rfl) (ls_room (Nat.le_of_ble_eq_true rfl) (by omega) (by omega)) ?_ (sf_S_nil) fun r184 hp183 thp183 Hhp183 fhp183 ahp183 php183 => ?_
  · intro q k h
    match q, h with
    | 0, h => cases h; exact bs_jR (bs_R.uq H (g := 10) rfl)
    | 1, h => cases h; exact sf_j0
    | 2, h => cases h; exact sf_j0
    | 3, h => cases h; exact sf_j0
    | q + 4, h => cases h
  obtain ⟨z185, rfl⟩ := bs_anI ahp183
  have E186 := lw_keep H fhp183 rfl rfl hs
  refine (show Ev _ 652 ([some (.retAddr 0), some (.ref 0), some (.ref 69), some (.ref 87), some (.int z), a5, a6], [.int z185], (m + 8, k + 138), hp183) _ from ?_)
  refine Ev.step (j := 653) (s' := ([some (.retAddr 0), some (.ref 0), some (.ref 69), some (.ref 87), some (.int z), a5, a6], [], (m + 8, k + 138), hp183)) rfl rfl ?_
  refine Ev.step (j := 654) (s' := ([some (.retAddr 0), some (.ref 0), some (.ref 69), some (.ref 87), some (.int z), a5, a6], [.ref 69], (m + 8, k + 138), hp183)) rfl rfl ?_
  refine Ev.step (j := 655) (s' := ([some (.retAddr 0), some (.ref 0), some (.ref 69), some (.ref 87), some (.int z), a5, a6], [.retAddr 0, .ref 69], (m + 8, k + 138), hp183)) rfl rfl ?_
  refine Ev.step (j := 657) (s' := ([some (.retAddr 0), some (.ref 0), some (.ref 69), some (.ref 87), some (.int z), a5, a6], [.int z, .retAddr 0, .ref 69], (m + 8, k + 138), hp183)) rfl rfl ?_
  refine bs_lit (k := 1) rfl rfl fun z187 hz187 => ?_
  refine bs_add rfl (by omega) (by omega) fun z188 hz188 => ?_
  refine ls_sld rfl (by omega) (by omega) ?_
  refine (show Ev _ 660 ([some (.retAddr 0), some (.ref 0), some (.ref 69), some (.ref 87), some (.int z), a5, a6], [.int (xs z188.toNatClampNeg), .ref 69], (m + 8, k + 138), hp183) _ from ?_)
  refine Ev.step (j := 661) (s' := ([some (.retAddr 0), some (.ref 0), some (.ref 69), some (.ref 87), some (.int z), a5, a6], [.retAddr 0, .int (xs z188.toNatClampNeg), .ref 69], (m + 8, k + 138), hp183)) rfl rfl ?_
  refine Ev.step (j := 663) (s' := ([some (.retAddr 0), some (.ref 0), some (.ref 69), some (.ref 87), some (.int z), a5, a6], [.int z, .retAddr 0, .int (xs z188.toNatClampNeg), .ref 69], (m + 8, k + 138), hp183)) rfl rfl ?_
  refine bs_lit (k := 2) rfl rfl fun z189 hz189 => ?_
  refine bs_add rfl (by omega) (by omega) fun z190 hz190 => ?_
  refine ls_sld rfl (by omega) (by omega) ?_
  refine (show Ev _ 666 ([some (.retAddr 0), some (.ref 0), some (.ref 69), some (.ref 87), some (.int z), a5, a6], [.int (xs z190.toNatClampNeg), .int (xs z188.toNatClampNeg), .ref 69], (m + 8, k + 138), hp183) _ from ?_)
  refine Ev.step (j := 667) (s' := ([some (.retAddr 0), some (.ref 0), some (.ref 69), some (.ref 87), some (.int z), a5, a6], [.retAddr 0, .int (xs z190.toNatClampNeg), .int (xs z188.toNatClampNeg), .ref 69], (m + 8, k + 138), hp183)) rfl rfl ?_
  refine Ev.step (j := 669) (s' := ([some (.retAddr 0), some (.ref 0), some (.ref 69), some (.ref 87), some (.int z), a5, a6], [.int z, .retAddr 0, .int (xs z190.toNatClampNeg), .int (xs z188.toNatClampNeg), .ref 69], (m + 8, k + 138), hp183)) rfl rfl ?_
  refine bs_lit (k := 3) rfl rfl fun z191 hz191 => ?_
  refine bs_add rfl (by omega) (by omega) fun z192 hz192 => ?_
  refine ls_sld rfl (by omega) (by omega) ?_
  refine (show Ev _ 672 ([some (.retAddr 0), some (.ref 0), some (.ref 69), some (.ref 87), some (.int z), a5, a6], [.int (xs z192.toNatClampNeg), .int (xs z190.toNatClampNeg), .int (xs z188.toNatClampNeg), .ref 69], (m + 8, k + 138), hp183) _ from ?_)
  refine bs_call (K := kq_X11_waste_h) [.ref 69, .int (xs z188.toNatClampNeg), .int (xs z190.toNatClampNeg), .int (xs z192.toNatClampNeg)] [] rfl ct_X11_waste_h Hhp183 rfl rfl rfl (bs_rcv (g := 11) Hhp183 (bs_R.uq Hhp183 (g := 11) rfl) (by decide) rfl) (ls_room (Nat.le_of_ble_eq_true rfl) (by omega) (by omega)) ?_ (sf_S_nil) fun r194 hp193 thp193 Hhp193 fhp193 ahp193 php193 => ?_
  · intro q k h
    match q, h with
    | 0, h => cases h; exact bs_jR (bs_R.uq Hhp183 (g := 11) rfl)
    | 1, h => cases h; exact sf_j0
    | 2, h => cases h; exact sf_j0
    | 3, h => cases h; exact sf_j0
    | q + 4, h => cases h
  obtain ⟨z195, rfl⟩ := bs_anI ahp193
  have E196 := lw_keep Hhp183 fhp193 rfl rfl E186
  refine (show Ev _ 675 ([some (.retAddr 0), some (.ref 0), some (.ref 69), some (.ref 87), some (.int z), a5, a6], [.int z195], (m + 8 + 0, k + 138 + 0), hp193) _ from ?_)
  refine Ev.step (j := 676) (s' := ([some (.retAddr 0), some (.ref 0), some (.ref 69), some (.ref 87), some (.int z), a5, a6], [], (m + 8 + 0, k + 138 + 0), hp193)) rfl rfl ?_
  refine Ev.step (j := 1440) (s' := ([some (.retAddr 0), some (.ref 0), some (.ref 69), some (.ref 87), some (.int z), a5, a6], [], (m + 8 + 0, k + 138 + 0), hp193)) rfl rfl ?_
  exact K _ _ _ _ _ _ Hhp193 E196 (by omega) (by omega)
set_option maxRecDepth 100000 in
set_option maxHeartbeats 4000000 in
theorem op_die {xs : Nat → Int32} {n : Nat} {z : Int32} {a5 a6 : Option Value} {m k : Nat} {hp : ab_H} {t : Nat → Nat} {Q : ab_O → Prop} (H : sf_h t hp) (hs : lw_eq hp) (hz0 : 0 ≤ z.toInt) (hz1 : z.toInt + 6 ≤ n) (hn : n ≤ 3072) (hm : m + 21 ≤ 601024) (hk : k + 410 ≤ 7293034) (K : lw_K xs n z m k Q) : Ev (LT xs n) 679 ([some (.retAddr 0), some (.ref 0), some (.ref 69), some (.ref 87), some (.int z), a5, a6], [], (m, k), hp) Q := by
  refine Ev.step (j := 680) (s' := ([some (.retAddr 0), some (.ref 0), some (.ref 69), some (.ref 87), some (.int z), a5, a6], [.ref 0], (m, k), hp)) rfl rfl ?_
  refine Ev.step (j := 681) (s' := ([some (.retAddr 0), some (.ref 0), some (.ref 69), some (.ref 87), some (.int z), a5, a6], [.retAddr 0, .ref 0], (m, k), hp)) rfl rfl ?_
  refine Ev.step (j := 683) (s' := ([some (.retAddr 0), some (.ref 0), some (.ref 69), some (.ref 87), some (.int z), a5, a6], [.int z, .retAddr 0, .ref 0], (m, k), hp)) rfl rfl ?_
  refine bs_lit (k := 1) rfl rfl fun z197 hz197 => ?_
  refine bs_add rfl (by omega) (by omega) fun z198 hz198 => ?_
  refine ls_sld rfl (by omega) (by omega) ?_
  refine (show Ev _ 686 ([some (.retAddr 0), some (.ref 0), some (.ref 69), some (.ref 87), some (.int z), a5, a6], [.int (xs z198.toNatClampNeg), .ref 0], (m, k), hp) _ from ?_)
  refine bs_call (K := kq_X10_die_0df2a5) [.ref 0, .int (xs z198.toNatClampNeg)] [] rfl ct_X10_die_0df2a5 H rfl rfl rfl (bs_rcv (g := 10) H (bs_R.uq H (g := 10) rfl) (by decide) rfl) (ls_room (Nat.le_of_ble_eq_true rfl) (by omega) (by omega)) ?_ (sf_S_nil) fun r200 hp199 thp199 Hhp199 fhp199 ahp199 php199 => ?_
  · intro q k h
    match q, h with
    | 0, h => cases h; exact bs_jR (bs_R.uq H (g := 10) rfl)
    | 1, h => cases h; exact sf_j0
    | q + 2, h => cases h
  obtain ⟨z201, rfl⟩ := bs_anI ahp199
  have E202 := lw_keep H fhp199 rfl rfl hs
  refine (show Ev _ 689 ([some (.retAddr 0), some (.ref 0), some (.ref 69), some (.ref 87), some (.int z), a5, a6], [.int z201], (m + 8, k + 138), hp199) _ from ?_)
  refine Ev.step (j := 690) (s' := ([some (.retAddr 0), some (.ref 0), some (.ref 69), some (.ref 87), some (.int z), a5, a6], [], (m + 8, k + 138), hp199)) rfl rfl ?_
  refine Ev.step (j := 691) (s' := ([some (.retAddr 0), some (.ref 0), some (.ref 69), some (.ref 87), some (.int z), a5, a6], [.ref 69], (m + 8, k + 138), hp199)) rfl rfl ?_
  refine Ev.step (j := 692) (s' := ([some (.retAddr 0), some (.ref 0), some (.ref 69), some (.ref 87), some (.int z), a5, a6], [.retAddr 0, .ref 69], (m + 8, k + 138), hp199)) rfl rfl ?_
  refine Ev.step (j := 694) (s' := ([some (.retAddr 0), some (.ref 0), some (.ref 69), some (.ref 87), some (.int z), a5, a6], [.int z, .retAddr 0, .ref 69], (m + 8, k + 138), hp199)) rfl rfl ?_
  refine bs_lit (k := 1) rfl rfl fun z203 hz203 => ?_
  refine bs_add rfl (by omega) (by omega) fun z204 hz204 => ?_
  refine ls_sld rfl (by omega) (by omega) ?_
  refine (show Ev _ 697 ([some (.retAddr 0), some (.ref 0), some (.ref 69), some (.ref 87), some (.int z), a5, a6], [.int (xs z204.toNatClampNeg), .ref 69], (m + 8, k + 138), hp199) _ from ?_)
  refine bs_call (K := kq_X11_die_3d45d6) [.ref 69, .int (xs z204.toNatClampNeg)] [] rfl ct_X11_die_3d45d6 Hhp199 rfl rfl rfl (bs_rcv (g := 11) Hhp199 (bs_R.uq Hhp199 (g := 11) rfl) (by decide) rfl) (ls_room (Nat.le_of_ble_eq_true rfl) (by omega) (by omega)) ?_ (sf_S_nil) fun r206 hp205 thp205 Hhp205 fhp205 ahp205 php205 => ?_
  · intro q k h
    match q, h with
    | 0, h => cases h; exact bs_jR (bs_R.uq Hhp199 (g := 11) rfl)
    | 1, h => cases h; exact sf_j0
    | q + 2, h => cases h
  obtain ⟨z207, rfl⟩ := bs_anI ahp205
  have E208 := lw_keep Hhp199 fhp205 rfl rfl E202
  refine (show Ev _ 700 ([some (.retAddr 0), some (.ref 0), some (.ref 69), some (.ref 87), some (.int z), a5, a6], [.int z207], (m + 8 + 0, k + 138 + 0), hp205) _ from ?_)
  refine Ev.step (j := 701) (s' := ([some (.retAddr 0), some (.ref 0), some (.ref 69), some (.ref 87), some (.int z), a5, a6], [], (m + 8 + 0, k + 138 + 0), hp205)) rfl rfl ?_
  refine Ev.step (j := 1440) (s' := ([some (.retAddr 0), some (.ref 0), some (.ref 69), some (.ref 87), some (.int z), a5, a6], [], (m + 8 + 0, k + 138 + 0), hp205)) rfl rfl ?_
  exact K _ _ _ _ _ _ Hhp205 E208 (by omega) (by omega)
set_option maxRecDepth 100000 in
set_option maxHeartbeats 4000000 in
theorem op_days {xs : Nat → Int32} {n : Nat} {z : Int32} {a5 a6 : Option Value} {m k : Nat} {hp : ab_H} {t : Nat → Nat} {Q : ab_O → Prop} (H : sf_h t hp) (hs : lw_eq hp) (hz0 : 0 ≤ z.toInt) (hz1 : z.toInt + 6 ≤ n) (hn : n ≤ 3072) (hm : m + 21 ≤ 601024) (hk : k + 410 ≤ 7293034) (K : lw_K xs n z m k Q) : Ev (LT xs n) 704 ([some (.retAddr 0), some (.ref 0), some (.ref 69), some (.ref 87), some (.int z), a5, a6], [], (m, k), hp) Q := by
  refine Ev.step (j := 705) (s' := ([some (.retAddr 0), some (.ref 0), some (.ref 69), some (.ref 87), some (.int z), a5, a6], [.ref 0], (m, k), hp)) rfl rfl ?_
  refine Ev.step (j := 706) (s' := ([some (.retAddr 0), some (.ref 0), some (.ref 69), some (.ref 87), some (.int z), a5, a6], [.retAddr 0, .ref 0], (m, k), hp)) rfl rfl ?_
  refine Ev.step (j := 708) (s' := ([some (.retAddr 0), some (.ref 0), some (.ref 69), some (.ref 87), some (.int z), a5, a6], [.int z, .retAddr 0, .ref 0], (m, k), hp)) rfl rfl ?_
  refine bs_lit (k := 1) rfl rfl fun z209 hz209 => ?_
  refine bs_add rfl (by omega) (by omega) fun z210 hz210 => ?_
  refine ls_sld rfl (by omega) (by omega) ?_
  refine (show Ev _ 711 ([some (.retAddr 0), some (.ref 0), some (.ref 69), some (.ref 87), some (.int z), a5, a6], [.int (xs z210.toNatClampNeg), .ref 0], (m, k), hp) _ from ?_)
  refine bs_call (K := kq_X10_days_0df2a5) [.ref 0, .int (xs z210.toNatClampNeg)] [] rfl ct_X10_days_0df2a5 H rfl rfl rfl (bs_rcv (g := 10) H (bs_R.uq H (g := 10) rfl) (by decide) rfl) (ls_room (Nat.le_of_ble_eq_true rfl) (by omega) (by omega)) ?_ (sf_S_nil) fun r212 hp211 thp211 Hhp211 fhp211 ahp211 php211 => ?_
  · intro q k h
    match q, h with
    | 0, h => cases h; exact bs_jR (bs_R.uq H (g := 10) rfl)
    | 1, h => cases h; exact sf_j0
    | q + 2, h => cases h
  obtain ⟨z213, rfl⟩ := bs_anI ahp211
  have E214 := lw_keep H fhp211 rfl rfl hs
  refine (show Ev _ 714 ([some (.retAddr 0), some (.ref 0), some (.ref 69), some (.ref 87), some (.int z), a5, a6], [.int z213], (m + 8, k + 138), hp211) _ from ?_)
  refine Ev.step (j := 715) (s' := ([some (.retAddr 0), some (.ref 0), some (.ref 69), some (.ref 87), some (.int z), a5, a6], [], (m + 8, k + 138), hp211)) rfl rfl ?_
  refine Ev.step (j := 716) (s' := ([some (.retAddr 0), some (.ref 0), some (.ref 69), some (.ref 87), some (.int z), a5, a6], [.ref 69], (m + 8, k + 138), hp211)) rfl rfl ?_
  refine Ev.step (j := 717) (s' := ([some (.retAddr 0), some (.ref 0), some (.ref 69), some (.ref 87), some (.int z), a5, a6], [.retAddr 0, .ref 69], (m + 8, k + 138), hp211)) rfl rfl ?_
  refine Ev.step (j := 719) (s' := ([some (.retAddr 0), some (.ref 0), some (.ref 69), some (.ref 87), some (.int z), a5, a6], [.int z, .retAddr 0, .ref 69], (m + 8, k + 138), hp211)) rfl rfl ?_
  refine bs_lit (k := 1) rfl rfl fun z215 hz215 => ?_
  refine bs_add rfl (by omega) (by omega) fun z216 hz216 => ?_
  refine ls_sld rfl (by omega) (by omega) ?_
  refine (show Ev _ 722 ([some (.retAddr 0), some (.ref 0), some (.ref 69), some (.ref 87), some (.int z), a5, a6], [.int (xs z216.toNatClampNeg), .ref 69], (m + 8, k + 138), hp211) _ from ?_)
  refine bs_call (K := kq_X11_days_3d45d6) [.ref 69, .int (xs z216.toNatClampNeg)] [] rfl ct_X11_days_3d45d6 Hhp211 rfl rfl rfl (bs_rcv (g := 11) Hhp211 (bs_R.uq Hhp211 (g := 11) rfl) (by decide) rfl) (ls_room (Nat.le_of_ble_eq_true rfl) (by omega) (by omega)) ?_ (sf_S_nil) fun r218 hp217 thp217 Hhp217 fhp217 ahp217 php217 => ?_
  · intro q k h
    match q, h with
    | 0, h => cases h; exact bs_jR (bs_R.uq Hhp211 (g := 11) rfl)
    | 1, h => cases h; exact sf_j0
    | q + 2, h => cases h
  obtain ⟨z219, rfl⟩ := bs_anI ahp217
  have E220 := lw_keep Hhp211 fhp217 rfl rfl E214
  refine (show Ev _ 725 ([some (.retAddr 0), some (.ref 0), some (.ref 69), some (.ref 87), some (.int z), a5, a6], [.int z219], (m + 8 + 0, k + 138 + 0), hp217) _ from ?_)
  refine Ev.step (j := 726) (s' := ([some (.retAddr 0), some (.ref 0), some (.ref 69), some (.ref 87), some (.int z), a5, a6], [], (m + 8 + 0, k + 138 + 0), hp217)) rfl rfl ?_
  refine Ev.step (j := 1440) (s' := ([some (.retAddr 0), some (.ref 0), some (.ref 69), some (.ref 87), some (.int z), a5, a6], [], (m + 8 + 0, k + 138 + 0), hp217)) rfl rfl ?_
  exact K _ _ _ _ _ _ Hhp217 E220 (by omega) (by omega)
