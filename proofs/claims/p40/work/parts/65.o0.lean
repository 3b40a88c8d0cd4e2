/-! ===== the law: one operation ===== -/
noncomputable def LT (xs : Nat → Int32) (n : Nat) : Nat → Option ab_A := ab_T (LZ_law xs n)
def lw_eq (_ : ab_H) : Prop := True
def lw_K (xs : Nat → Int32) (n : Nat) (z : Int32) (m k : Nat) (Q : ab_O → Prop) : Prop := ∀ (hp' : ab_H) (t' : Nat → Nat) (a5 a6 : Option Value) (m' k' : Nat), sf_h t' hp' → lw_eq hp' → m' ≤ m + 21 → k' ≤ k + 410 → Ev (LT xs n) 1440 ([some (.retAddr 0), some (.ref 0), some (.ref 69), some (.ref 87), some (.int z), a5, a6], [], (m', k'), hp') Q
theorem ls_room {m k mc ms MC MS : Nat} {rest : List Value} (h0 : ab_cats rest ≤ 8) (h1 : m + mc ≤ MC) (h2 : k + ms ≤ MS) : (decide (ab_cats rest ≤ 8) && decide ((m, k).1 + mc ≤ MC) && decide ((m, k).2 + ms ≤ MS)) = true := by
  rw [decide_eq_true h0, decide_eq_true (show (m, k).1 + mc ≤ MC from h1), decide_eq_true (show (m, k).2 + ms ≤ MS from h2)]
  rfl
theorem ls_sld {T : Nat → Option ab_A} {i j n : Nat} {xs : Nat → Int32} {x : Int32} {lo : List (Option Value)} {st : List Value} {u : Nat × Nat} {hp : ab_H} {Q : ab_O → Prop} (hT : T i = some (ab_nx j (ab_sld xs n))) (h0 : 0 ≤ x.toInt) (h1 : x.toInt < n) (h : Ev T j (lo, .int (xs x.toNatClampNeg) :: st, u, hp) Q) : Ev T i (lo, .int x :: .retAddr 0 :: st, u, hp) Q :=
  Ev.nx hT (by show cond (ab_in x n) (some (lo, Value.int (xs x.toNatClampNeg) :: st, u, hp)) none = _; rw [n_in h0 h1]; rfl) h
set_option maxRecDepth 100000 in
set_option maxHeartbeats 4000000 in
theorem op_feed {xs : Nat → Int32} {n : Nat} {z : Int32} {a5 a6 : Option Value} {m k : Nat} {hp : ab_H} {t : Nat → Nat} {Q : ab_O → Prop} (H : sf_h t hp) (hs : lw_eq hp) (hz0 : 0 ≤ z.toInt) (hz1 : z.toInt + 6 ≤ n) (hn : n ≤ 3072) (hm : m + 21 ≤ 601024) (hk : k + 410 ≤ 7293034) (K : lw_K xs n z m k Q) : Ev (LT xs n) 220 ([some (.retAddr 0), some (.ref 0), some (.ref 69), some (.ref 87), some (.int z), a5, a6], [], (m, k), hp) Q := by
  refine Ev.step (j := 221) (s' := ([some (.retAddr 0), some (.ref 0), some (.ref 69), some (.ref 87), some (.int z), a5, a6], [.ref 0], (m, k), hp)) rfl rfl ?_
  refine Ev.step (j := 222) (s' := ([some (.retAddr 0), some (.ref 0), some (.ref 69), some (.ref 87), some (.int z), a5, a6], [.retAddr 0, .ref 0], (m, k), hp)) rfl rfl ?_
  refine Ev.step (j := 224) (s' := ([some (.retAddr 0), some (.ref 0), some (.ref 69), some (.ref 87), some (.int z), a5, a6], [.int z, .retAddr 0, .ref 0], (m, k), hp)) rfl rfl ?_
  refine bs_lit (k := 1) rfl rfl fun z1 hz1 => ?_
  refine bs_add rfl (by omega) (by omega) fun z2 hz2 => ?_
  refine ls_sld rfl (by omega) (by omega) ?_
  refine (show Ev _ 227 ([some (.retAddr 0), some (.ref 0), some (.ref 69), some (.ref 87), some (.int z), a5, a6], [.int (xs z2.toNatClampNeg), .ref 0], (m, k), hp) _ from ?_)
  refine Ev.step (j := 228) (s' := ([some (.retAddr 0), some (.ref 0), some (.ref 69), some (.ref 87), some (.int z), a5, a6], [.retAddr 0, .int (xs z2.toNatClampNeg), .ref 0], (m, k), hp)) rfl rfl ?_
  refine Ev.step (j := 230) (s' := ([some (.retAddr 0), some (.ref 0), some (.ref 69), some (.ref 87), some (.int z), a5, a6], [.int z, .retAddr 0, .int (xs z2.toNatClampNeg), .ref 0], (m, k), hp)) rfl rfl ?_
  refine bs_lit (k := 2) rfl rfl fun z3 hz3 => ?_
  refine bs_add rfl (by omega) (by omega) fun z4 hz4 => ?_
  refine ls_sld rfl (by omega) (by omega) ?_
  refine (show Ev _ 233 ([some (.retAddr 0), some (.ref 0), some (.ref 69), some (.ref 87), some (.int z), a5, a6], [.int (xs z4.toNatClampNeg), .int (xs z2.toNatClampNeg), .ref 0], (m, k), hp) _ from ?_)
  refine Ev.step (j := 234) (s' := ([some (.retAddr 0), some (.ref 0), some (.ref 69), some (.ref 87), some (.int z), a5, a6], [.retAddr 0, .int (xs z4.toNatClampNeg), .int (xs z2.toNatClampNeg), .ref 0], (m, k), hp)) rfl rfl ?_
  refine Ev.step (j := 236) (s' := ([some (.retAddr 0), some (.ref 0), some (.ref 69), some (.ref 87), some (.int z), a5, a6], [.int z, .retAddr 0, .int (xs z4.toNatClampNeg), .int (xs z2.toNatClampNeg), .ref 0], (m, k), hp)) rfl rfl ?_
  refine bs_lit (k := 3) rfl rfl fun z5 hz5 => ?_
  refine bs_add rfl (by omega) (by omega) fun z6 hz6 => ?_
  refine ls_sld rfl (by omega) (by omega) ?_
  refine (show Ev _ 239 ([some (.retAddr 0), some (.ref 0), some (.ref 69), some (.ref 87), some (.int z), a5, a6], [.int (xs z6.toNatClampNeg), .int (xs z4.toNatClampNeg), .int (xs z2.toNatClampNeg), .ref 0], (m, k), hp) _ from ?_)
  refine Ev.step (j := 240) (s' := ([some (.retAddr 0), some (.ref 0), some (.ref 69), some (.ref 87), some (.int z), a5, a6], [.retAddr 0, .int (xs z6.toNatClampNeg), .int (xs z4.toNatClampNeg), .int (xs z2.toNatClampNeg), .ref 0], (m, k), hp)) rfl rfl ?_
  refine Ev.step (j := 242) (s' := ([some (.retAddr 0), some (.ref 0), some (.ref 69), some (.ref 87), some (.int z), a5, a6], [.int z, .retAddr 0, .int (xs z6.toNatClampNeg), .int (xs z4.toNatClampNeg), .int (xs z2.toNatClampNeg), .ref 0], (m, k), hp)) rfl rfl ?_
  refine bs_lit (k := 4) rfl rfl fun z7 hz7 => ?_
  refine bs_add rfl (by omega) (by omega) fun z8 hz8 => ?_
  refine ls_sld rfl (by omega) (by omega) ?_
  refine (show Ev _ 245 ([some (.retAddr 0), some (.ref 0), some (.ref 69), some (.ref 87), some (.int z), a5, a6], [.int (xs z8.toNatClampNeg), .int (xs z6.toNatClampNeg), .int (xs z4.toNatClampNeg), .int (xs z2.toNatClampNeg), .ref 0], (m, k), hp) _ from ?_)
  refine Ev.step (j := 246) (s' := ([some (.retAddr 0), some (.ref 0), some (.ref 69), some (.ref 87), some (.int z), a5, a6], [.retAddr 0, .int (xs z8.toNatClampNeg), .int (xs z6.toNatClampNeg), .int (xs z4.toNatClampNeg), .int (xs z2.toNatClampNeg), .ref 0], (m, k), hp)) rfl rfl ?_
  refine Ev.step (j := 248) (s' := ([some (.retAddr 0), some (.ref 0), some (.ref 69), some (.ref 87), some (.int z), a5, a6], [.int z, .retAddr 0, .int (xs z8.toNatClampNeg), .int (xs z6.toNatClampNeg), .int (xs z4.toNatClampNeg), .int (xs z2.toNatClampNeg), .ref 0], (m, k), hp)) rfl rfl ?_
  refine bs_lit (k := 5) rfl rfl fun z9 hz9 => ?_
  refine bs_add rfl (by omega) (by omega) fun z10 hz10 => ?_
  refine ls_sld rfl (by omega) (by omega) ?_
  refine (show Ev _ 251 ([some (.retAddr 0), some (.ref 0), some (.ref 69), some (.ref 87), some (.int z), a5, a6], [.int (xs z10.toNatClampNeg), .int (xs z8.toNatClampNeg), .int (xs z6.toNatClampNeg), .int (xs z4.toNatClampNeg), .int (xs z2.toNatClampNeg), .ref 0], (m, k), hp) _ from ?_)
  refine bs_call (K := kq_X10_feed_h) [.ref 0, .int (xs z2.toNatClampNeg), .int (xs z4.toNatClampNeg), .int (xs z6.toNatClampNeg), .int (xs z8.toNatClampNeg), .int (xs z10.toNatClampNeg)] [] rfl ct_X10_feed_h H rfl rfl rfl (bs_rcv (g := 10) H (bs_R.uq H (g := 10) rfl) (by decide) rfl) (ls_room (Nat.le_of_ble_eq_true rfl) (by omega) (by omega)) ?_ (sf_S_nil) fun r12 hp11 thp11 Hhp11 fhp11 ahp11 php11 => ?_
  · intro q k h
    match q, h with
    | 0, h => cases h; exact bs_jR (bs_R.uq H (g := 10) rfl)
    | 1, h => cases h; exact sf_j0
    | 2, h => cases h; exact sf_j0
    | 3, h => cases h; exact sf_j0
    | 4, h => cases h; exact sf_j0
    | 5, h => cases h; exact sf_j0
    | q + 6, h => cases h
  obtain ⟨z13, rfl⟩ := bs_anI ahp11
  refine (show Ev _ 254 ([some (.retAddr 0), some (.ref 0), some (.ref 69), some (.ref 87), some (.int z), a5, a6], [.int z13], (m + 0, k + 0), hp11) _ from ?_)
  refine Ev.step (j := 255) (s' := ([some (.retAddr 0), some (.ref 0), some (.ref 69), some (.ref 87), some (.int z), a5, a6], [], (m + 0, k + 0), hp11)) rfl rfl ?_
  refine Ev.step (j := 256) (s' := ([some (.retAddr 0), some (.ref 0), some (.ref 69), some (.ref 87), some (.int z), a5, a6], [.ref 69], (m + 0, k + 0), hp11)) rfl rfl ?_
  refine Ev.step (j := 257) (s' := ([some (.retAddr 0), some (.ref 0), some (.ref 69), some (.ref 87), some (.int z), a5, a6], [.retAddr 0, .ref 69], (m + 0, k + 0), hp11)) rfl rfl ?_
  refine Ev.step (j := 259) (s' := ([some (.retAddr 0), some (.ref 0), some (.ref 69), some (.ref 87), some (.int z), a5, a6], [.int z, .retAddr 0, .ref 69], (m + 0, k + 0), hp11)) rfl rfl ?_
  refine bs_lit (k := 1) rfl rfl fun z14 hz14 => ?_
  refine bs_add rfl (by omega) (by omega) fun z15 hz15 => ?_
  refine ls_sld rfl (by omega) (by omega) ?_
  refine (show Ev _ 262 ([some (.retAddr 0), some (.ref 0), some (.ref 69), some (.ref 87), some (.int z), a5, a6], [.int (xs z15.toNatClampNeg), .ref 69], (m + 0, k + 0), hp11) _ from ?_)
  refine Ev.step (j := 263) (s' := ([some (.retAddr 0), some (.ref 0), some (.ref 69), some (.ref 87), some (.int z), a5, a6], [.retAddr 0, .int (xs z15.toNatClampNeg), .ref 69], (m + 0, k + 0), hp11)) rfl rfl ?_
  refine Ev.step (j := 265) (s' := ([some (.retAddr 0), some (.ref 0), some (.ref 69), some (.ref 87), some (.int z), a5, a6], [.int z, .retAddr 0, .int (xs z15.toNatClampNeg), .ref 69], (m + 0, k + 0), hp11)) rfl rfl ?_
  refine bs_lit (k := 2) rfl rfl fun z16 hz16 => ?_
  refine bs_add rfl (by omega) (by omega) fun z17 hz17 => ?_
  refine ls_sld rfl (by omega) (by omega) ?_
  refine (show Ev _ 268 ([some (.retAddr 0), some (.ref 0), some (.ref 69), some (.ref 87), some (.int z), a5, a6], [.int (xs z17.toNatClampNeg), .int (xs z15.toNatClampNeg), .ref 69], (m + 0, k + 0), hp11) _ from ?_)
  refine Ev.step (j := 269) (s' := ([some (.retAddr 0), some (.ref 0), some (.ref 69), some (.ref 87), some (.int z), a5, a6], [.retAddr 0, .int (xs z17.toNatClampNeg), .int (xs z15.toNatClampNeg), .ref 69], (m + 0, k + 0), hp11)) rfl rfl ?_
  refine Ev.step (j := 271) (s' := ([some (.retAddr 0), some (.ref 0), some (.ref 69), some (.ref 87), some (.int z), a5, a6], [.int z, .retAddr 0, .int (xs z17.toNatClampNeg), .int (xs z15.toNatClampNeg), .ref 69], (m + 0, k + 0), hp11)) rfl rfl ?_
  refine bs_lit (k := 3) rfl rfl fun z18 hz18 => ?_
  refine bs_add rfl (by omega) (by omega) fun z19 hz19 => ?_
  refine ls_sld rfl (by omega) (by omega) ?_
  refine (show Ev _ 274 ([some (.retAddr 0), some (.ref 0), some (.ref 69), some (.ref 87), some (.int z), a5, a6], [.int (xs z19.toNatClampNeg), .int (xs z17.toNatClampNeg), .int (xs z15.toNatClampNeg), .ref 69], (m + 0, k + 0), hp11) _ from ?_)
  refine Ev.step (j := 275) (s' := ([some (.retAddr 0), some (.ref 0), some (.ref 69), some (.ref 87), some (.int z), a5, a6], [.retAddr 0, .int (xs z19.toNatClampNeg), .int (xs z17.toNatClampNeg), .int (xs z15.toNatClampNeg), .ref 69], (m + 0, k + 0), hp11)) rfl rfl ?_
  refine Ev.step (j := 277) (s' := ([some (.retAddr 0), some (.ref 0), some (.ref 69), some (.ref 87), some (.int z), a5, a6], [.int z, .retAddr 0, .int (xs z19.toNatClampNeg), .int (xs z17.toNatClampNeg), .int (xs z15.toNatClampNeg), .ref 69], (m + 0, k + 0), hp11)) rfl rfl ?_
  refine bs_lit (k := 4) rfl rfl fun z20 hz20 => ?_
  refine bs_add rfl (by omega) (by omega) fun z21 hz21 => ?_
  refine ls_sld rfl (by omega) (by omega) ?_
  refine (show Ev _ 280 ([some (.retAddr 0), some (.ref 0), some (.ref 69), some (.ref 87), some (.int z), a5, a6], [.int (xs z21.toNatClampNeg), .int (xs z19.toNatClampNeg), .int (xs z17.toNatClampNeg), .int (xs z15.toNatClampNeg), .ref 69], (m + 0, k + 0), hp11) _ from ?_)
  refine Ev.step (j := 281) (s' := ([some (.retAddr 0), some (.ref 0), some (.ref 69), some (.ref 87), some (.int z), a5, a6], [.retAddr 0, .int (xs z21.toNatClampNeg), .int (xs z19.toNatClampNeg), .int (xs z17.toNatClampNeg), .int (xs z15.toNatClampNeg), .ref 69], (m + 0, k + 0), hp11)) rfl rfl ?_
  refine Ev.step (j := 283) (s' := ([some (.retAddr 0), some (.ref 0), some (.ref 69), some (.ref 87), some (.int z), a5, a6], [.int z, .retAddr 0, .int (xs z21.toNatClampNeg), .int (xs z19.toNatClampNeg), .int (xs z17.toNatClampNeg), .int (xs z15.toNatClampNeg), .ref 69], (m + 0, k + 0), hp11)) rfl rfl ?_
  refine bs_lit (k := 5) rfl rfl fun z22 hz22 => ?_
  refine bs_add rfl (by omega) (by omega) fun z23 hz23 => ?_
  refine ls_sld rfl (by omega) (by omega) ?_
  refine (show Ev _ 286 ([some (.retAddr 0), some (.ref 0), some (.ref 69), some (.ref 87), some (.int z), a5, a6], [.int (xs z23.toNatClampNeg), .int (xs z21.toNatClampNeg), .int (xs z19.toNatClampNeg), .int (xs z17.toNatClampNeg), .int (xs z15.toNatClampNeg), .ref 69], (m + 0, k + 0), hp11) _ from ?_)
  refine bs_call (K := kq_X11_feed_h) [.ref 69, .int (xs z15.toNatClampNeg), .int (xs z17.toNatClampNeg), .int (xs z19.toNatClampNeg), .int (xs z21.toNatClampNeg), .int (xs z23.toNatClampNeg)] [] rfl ct_X11_feed_h Hhp11 rfl rfl rfl (bs_rcv (g := 11) Hhp11 (bs_R.uq Hhp11 (g := 11) rfl) (by decide) rfl) (ls_room (Nat.le_of_ble_eq_true rfl) (by omega) (by omega)) ?_ (sf_S_nil) fun r25 hp24 thp24 Hhp24 fhp24 ahp24 php24 => ?_
  · intro q k h
    match q, h with
    | 0, h => cases h; exact bs_jR (bs_R.uq Hhp11 (g := 11) rfl)
    | 1, h => cases h; exact sf_j0
    | 2, h => cases h; exact sf_j0
    | 3, h => cases h; exact sf_j0
    | 4, h => cases h; exact sf_j0
    | 5, h => cases h; exact sf_j0
    | q + 6, h => cases h
  obtain ⟨z26, rfl⟩ := bs_anI ahp24
  refine (show Ev _ 289 ([some (.retAddr 0), some (.ref 0), some (.ref 69), some (.ref 87), some (.int z), a5, a6], [.int z26], (m + 0 + 0, k + 0 + 0), hp24) _ from ?_)
  refine Ev.step (j := 290) (s' := ([some (.retAddr 0), some (.ref 0), some (.ref 69), some (.ref 87), some (.int z), a5, a6], [], (m + 0 + 0, k + 0 + 0), hp24)) rfl rfl ?_
  refine Ev.step (j := 1440) (s' := ([some (.retAddr 0), some (.ref 0), some (.ref 69), some (.ref 87), some (.int z), a5, a6], [], (m + 0 + 0, k + 0 + 0), hp24)) rfl rfl ?_
  exact K _ _ _ _ _ _ Hhp24 True.intro (by omega) (by omega)
set_option maxRecDepth 100000 in
set_option maxHeartbeats 4000000 in
theorem op_end {xs : Nat → Int32} {n : Nat} {z : Int32} {a5 a6 : Option Value} {m k : Nat} {hp : ab_H} {t : Nat → Nat} {Q : ab_O → Prop} (H : sf_h t hp) (hs : lw_eq hp) (hz0 : 0 ≤ z.toInt) (hz1 : z.toInt + 6 ≤ n) (hn : n ≤ 3072) (hm : m + 21 ≤ 601024) (hk : k + 410 ≤ 7293034) (K : lw_K xs n z m k Q) : Ev (LT xs n) 293 ([some (.retAddr 0), some (.ref 0), some (.ref 69), some (.ref 87), some (.int z), a5, a6], [], (m, k), hp) Q := by
  refine Ev.step (j := 294) (s' := ([some (.retAddr 0), some (.ref 0), some (.ref 69), some (.ref 87), some (.int z), a5, a6], [.ref 0], (m, k), hp)) rfl rfl ?_
  refine Ev.step (j := 295) (s' := ([some (.retAddr 0), some (.ref 0), some (.ref 69), some (.ref 87), some (.int z), a5, a6], [.retAddr 0, .ref 0], (m, k), hp)) rfl rfl ?_
  refine Ev.step (j := 297) (s' := ([some (.retAddr 0), some (.ref 0), some (.ref 69), some (.ref 87), some (.int z), a5, a6], [.int z, .retAddr 0, .ref 0], (m, k), hp)) rfl rfl ?_
  refine bs_lit (k := 1) rfl rfl fun z27 hz27 => ?_
  refine bs_add rfl (by omega) (by omega) fun z28 hz28 => ?_
  refine ls_sld rfl (by omega) (by omega) ?_
  refine (show Ev _ 300 ([some (.retAddr 0), some (.ref 0), some (.ref 69), some (.ref 87), some (.int z), a5, a6], [.int (xs z28.toNatClampNeg), .ref 0], (m, k), hp) _ from ?_)
  refine bs_call (K := kq_X10_end_h) [.ref 0, .int (xs z28.toNatClampNeg)] [] rfl ct_X10_end_h H rfl rfl rfl (bs_rcv (g := 10) H (bs_R.uq H (g := 10) rfl) (by decide) rfl) (ls_room (Nat.le_of_ble_eq_true rfl) (by omega) (by omega)) ?_ (sf_S_nil) fun r30 hp29 thp29 Hhp29 fhp29 ahp29 php29 => ?_
  · intro q k h
    match q, h with
    | 0, h => cases h; exact bs_jR (bs_R.uq H (g := 10) rfl)
    | 1, h => cases h; exact sf_j0
    | q + 2, h => cases h
  obtain ⟨z31, rfl⟩ := bs_anI ahp29
  refine (show Ev _ 303 ([some (.retAddr 0), some (.ref 0), some (.ref 69), some (.ref 87), some (.int z), a5, a6], [.int z31], (m + 0, k + 0), hp29) _ from ?_)
  refine Ev.step (j := 304) (s' := ([some (.retAddr 0), some (.ref 0), some (.ref 69), some (.ref 87), some (.int z), a5, a6], [], (m + 0, k + 0), hp29)) rfl rfl ?_
  refine Ev.step (j := 305) (s' := ([some (.retAddr 0), some (.ref 0), some (.ref 69), some (.ref 87), some (.int z), a5, a6], [.ref 69], (m + 0, k + 0), hp29)) rfl rfl ?_
  refine Ev.step (j := 306) (s' := ([some (.retAddr 0), some (.ref 0), some (.ref 69), some (.ref 87), some (.int z), a5, a6], [.retAddr 0, .ref 69], (m + 0, k + 0), hp29)) rfl rfl ?_
  refine Ev.step (j := 308) (s' := ([some (.retAddr 0), some (.ref 0), some (.ref 69), some (.ref 87), some (.int z), a5, a6], [.int z, .retAddr 0, .ref 69], (m + 0, k + 0), hp29)) rfl rfl ?_
  refine bs_lit (k := 1) rfl rfl fun z32 hz32 => ?_
  refine bs_add rfl (by omega) (by omega) fun z33 hz33 => ?_
  refine ls_sld rfl (by omega) (by omega) ?_
  refine (show Ev _ 311 ([some (.retAddr 0), some (.ref 0), some (.ref 69), some (.ref 87), some (.int z), a5, a6], [.int (xs z33.toNatClampNeg), .ref 69], (m + 0, k + 0), hp29) _ from ?_)
  refine bs_call (K := kq_X11_end_h) [.ref 69, .int (xs z33.toNatClampNeg)] [] rfl ct_X11_end_h Hhp29 rfl rfl rfl (bs_rcv (g := 11) Hhp29 (bs_R.uq Hhp29 (g := 11) rfl) (by decide) rfl) (ls_room (Nat.le_of_ble_eq_true rfl) (by omega) (by omega)) ?_ (sf_S_nil) fun r35 hp34 thp34 Hhp34 fhp34 ahp34 php34 => ?_
  · intro q k h
    match q, h with
    | 0, h => cases h; exact bs_jR (bs_R.uq Hhp29 (g := 11) rfl)
    | 1, h => cases h; exact sf_j0
    | q + 2, h => cases h
  obtain ⟨z36, rfl⟩ := bs_anI ahp34
  refine (show Ev _ 314 ([some (.retAddr 0), some (.ref 0), some (.ref 69), some (.ref 87), some (.int z), a5, a6], [.int z36], (m + 0 + 0, k + 0 + 0), hp34) _ from ?_)
  refine Ev.step (j := 315) (s' := ([some (.retAddr 0), some (.ref 0), some (.ref 69), some (.ref 87), some (.int z), a5, a6], [], (m + 0 + 0, k + 0 + 0), hp34)) rfl rfl ?_
  refine Ev.step (j := 1440) (s' := ([some (.retAddr 0), some (.ref 0), some (.ref 69), some (.ref 87), some (.int z), a5, a6], [], (m + 0 + 0, k + 0 + 0), hp34)) rfl rfl ?_
  exact K _ _ _ _ _ _ Hhp34 True.intro (by omega) (by omega)
set_option maxRecDepth 100000 in
set_option maxHeartbeats 4000000 in
theorem op_strait {xs : Nat → Int32} {n : Nat} {z : Int32} {a5 a6 : Option Value} {m k : Nat} {hp : ab_H} {t : Nat → Nat} {Q : ab_O → Prop} (H : sf_h t hp) (hs : lw_eq hp) (hz0 : 0 ≤ z.toInt) (hz1 : z.toInt + 6 ≤ n) (hn : n ≤ 3072) (hm : m + 21 ≤ 601024) (hk : k + 410 ≤ 7293034) (K : lw_K xs n z m k Q) : Ev (LT xs n) 318 ([some (.retAddr 0), some (.ref 0), some (.ref 69), some (.ref 87), some (.int z), a5, a6], [], (m, k), hp) Q := by
  refine Ev.step (j := 319) (s' := ([some (.retAddr 0), some (.ref 0), some (.ref 69), some (.ref 87), some (.int z), a5, a6], [.ref 0], (m, k), hp)) rfl rfl ?_
  refine bs_call (K := kq_X10_strait_4c18a7) [.ref 0] [] rfl ct_X10_strait_4c18a7 H rfl rfl rfl (bs_rcv (g := 10) H (bs_R.uq H (g := 10) rfl) (by decide) rfl) (ls_room (Nat.le_of_ble_eq_true rfl) (by omega) (by omega)) ?_ (sf_S_nil) fun r38 hp37 thp37 Hhp37 fhp37 ahp37 php37 => ?_
  · intro q k h
    match q, h with
    | 0, h => cases h; exact bs_jR (bs_R.uq H (g := 10) rfl)
    | q + 1, h => cases h
  obtain ⟨z39, rfl⟩ := bs_anI ahp37
  refine (show Ev _ 322 ([some (.retAddr 0), some (.ref 0), some (.ref 69), some (.ref 87), some (.int z), a5, a6], [.int z39], (m + 0, k + 0), hp37) _ from ?_)
  refine Ev.step (j := 323) (s' := ([some (.retAddr 0), some (.ref 0), some (.ref 69), some (.ref 87), some (.int z), a5, a6], [], (m + 0, k + 0), hp37)) rfl rfl ?_
  refine Ev.step (j := 324) (s' := ([some (.retAddr 0), some (.ref 0), some (.ref 69), some (.ref 87), some (.int z), a5, a6], [.ref 69], (m + 0, k + 0), hp37)) rfl rfl ?_
  refine bs_call (K := kq_X11_strait_h) [.ref 69] [] rfl ct_X11_strait_h Hhp37 rfl rfl rfl (bs_rcv (g := 11) Hhp37 (bs_R.uq Hhp37 (g := 11) rfl) (by decide) rfl) (ls_room (Nat.le_of_ble_eq_true rfl) (by omega) (by omega)) ?_ (sf_S_nil) fun r41 hp40 thp40 Hhp40 fhp40 ahp40 php40 => ?_
  · intro q k h
    match q, h with
    | 0, h => cases h; exact bs_jR (bs_R.uq Hhp37 (g := 11) rfl)
    | q + 1, h => cases h
  obtain ⟨z42, rfl⟩ := bs_anI ahp40
  refine (show Ev _ 327 ([some (.retAddr 0), some (.ref 0), some (.ref 69), some (.ref 87), some (.int z), a5, a6], [.int z42], (m + 0 + 0, k + 0 + 0), hp40) _ from ?_)
  refine Ev.step (j := 328) (s' := ([some (.retAddr 0), some (.ref 0), some (.ref 69), some (.ref 87), some (.int z), a5, a6], [], (m + 0 + 0, k + 0 + 0), hp40)) rfl rfl ?_
  refine Ev.step (j := 1440) (s' := ([some (.retAddr 0), some (.ref 0), some (.ref 69), some (.ref 87), some (.int z), a5, a6], [], (m + 0 + 0, k + 0 + 0), hp40)) rfl rfl ?_
  exact K _ _ _ _ _ _ Hhp40 True.intro (by omega) (by omega)
set_option maxRecDepth 100000 in
set_option maxHeartbeats 4000000 in
theorem op_fault {xs : Nat → Int32} {n : Nat} {z : Int32} {a5 a6 : Option Value} {m k : Nat} {hp : ab_H} {t : Nat → Nat} {Q : ab_O → Prop} (H : sf_h t hp) (hs : lw_eq hp) (hz0 : 0 ≤ z.toInt) (hz1 : z.toInt + 6 ≤ n) (hn : n ≤ 3072) (hm : m + 21 ≤ 601024) (hk : k + 410 ≤ 7293034) (K : lw_K xs n z m k Q) : Ev (LT xs n) 331 ([some (.retAddr 0), some (.ref 0), some (.ref 69), some (.ref 87), some (.int z), a5, a6], [], (m, k), hp) Q := by
  refine Ev.step (j := 332) (s' := ([some (.retAddr 0), some (.ref 0), some (.ref 69), some (.ref 87), some (.int z), a5, a6], [.ref 0], (m, k), hp)) rfl rfl ?_
  refine bs_call (K := kq_X10_fault_4c18a7) [.ref 0] [] rfl ct_X10_fault_4c18a7 H rfl rfl rfl (bs_rcv (g := 10) H (bs_R.uq H (g := 10) rfl) (by decide) rfl) (ls_room (Nat.le_of_ble_eq_true rfl) (by omega) (by omega)) ?_ (sf_S_nil) fun r44 hp43 thp43 Hhp43 fhp43 ahp43 php43 => ?_
  · intro q k h
    match q, h with
    | 0, h => cases h; exact bs_jR (bs_R.uq H (g := 10) rfl)
    | q + 1, h => cases h
  obtain ⟨z45, rfl⟩ := bs_anI ahp43
  refine (show Ev _ 335 ([some (.retAddr 0), some (.ref 0), some (.ref 69), some (.ref 87), some (.int z), a5, a6], [.int z45], (m + 0, k + 0), hp43) _ from ?_)
  refine Ev.step (j := 336) (s' := ([some (.retAddr 0), some (.ref 0), some (.ref 69), some (.ref 87), some (.int z), a5, a6], [], (m + 0, k + 0), hp43)) rfl rfl ?_
  refine Ev.step (j := 337) (s' := ([some (.retAddr 0), some (.ref 0), some (.ref 69), some (.ref 87), some (.int z), a5, a6], [.ref 69], (m + 0, k + 0), hp43)) rfl rfl ?_
  refine bs_call (K := kq_X11_fault_6afe8b) [.ref 69] [] rfl ct_X11_fault_6afe8b Hhp43 rfl rfl rfl (bs_rcv (g := 11) Hhp43 (bs_R.uq Hhp43 (g := 11) rfl) (by decide) rfl) (ls_room (Nat.le_of_ble_eq_true rfl) (by omega) (by omega)) ?_ (sf_S_nil) fun r47 hp46 thp46 Hhp46 fhp46 ahp46 php46 => ?_
  · intro q k h
    match q, h with
    | 0, h => cases h; exact bs_jR (bs_R.uq Hhp43 (g := 11) rfl)
    | q + 1, h => cases h
  obtain ⟨z48, rfl⟩ := bs_anI ahp46
  refine (show Ev _ 340 ([some (.retAddr 0), some (.ref 0), some (.ref 69), some (.ref 87), some (.int z), a5, a6], [.int z48], (m + 0 + 0, k + 0 + 0), hp46) _ from ?_)
  refine Ev.step (j := 341) (s' := ([some (.retAddr 0), some (.ref 0), some (.ref 69), some (.ref 87), some (.int z), a5, a6], [], (m + 0 + 0, k + 0 + 0), hp46)) rfl rfl ?_
  refine Ev.step (j := 1440) (s' := ([some (.retAddr 0), some (.ref 0), some (.ref 69), some (.ref 87), some (.int z), a5, a6], [], (m + 0 + 0, k + 0 + 0), hp46)) rfl rfl ?_
  exact K _ _ _ _ _ _ Hhp46 True.intro (by omega) (by omega)
set_option maxRecDepth 100000 in
set_option maxHeartbeats 4000000 in
theorem op_good {xs : Nat → Int32} {n : Nat} {z : Int32} {a5 a6 : Option Value} {m k : Nat} {hp : ab_H} {t : Nat → Nat} {Q : ab_O → Prop} (H : sf_h t hp) (hs : lw_eq hp) (hz0 : 0 ≤ z.toInt) (hz1 : z.toInt + 6 ≤ n) (hn : n ≤ 3072) (hm : m + 21 ≤ 601024) (hk : k + 410 ≤ 7293034) (K : lw_K xs n z m k Q) : Ev (LT xs n) 344 ([some (.retAddr 0), some (.ref 0), some (.ref 69), some (.ref 87), some (.int z), a5, a6], [], (m, k), hp) Q := by
  refine Ev.step (j := 345) (s' := ([some (.retAddr 0), some (.ref 0), some (.ref 69), some (.ref 87), some (.int z), a5, a6], [.ref 0], (m, k), hp)) rfl rfl ?_
  refine Ev.step (j := 346) (s' := ([some (.retAddr 0), some (.ref 0), some (.ref 69), some (.ref 87), some (.int z), a5, a6], [.retAddr 0, .ref 0], (m, k), hp)) rfl rfl ?_
  refine Ev.step (j := 348) (s' := ([some (.retAddr 0), some (.ref 0), some (.ref 69), some (.ref 87), some (.int z), a5, a6], [.int z, .retAddr 0, .ref 0], (m, k), hp)) rfl rfl ?_
  refine bs_lit (k := 1) rfl rfl fun z49 hz49 => ?_
  refine bs_add rfl (by omega) (by omega) fun z50 hz50 => ?_
  refine ls_sld rfl (by omega) (by omega) ?_
  refine (show Ev _ 351 ([some (.retAddr 0), some (.ref 0), some (.ref 69), some (.ref 87), some (.int z), a5, a6], [.int (xs z50.toNatClampNeg), .ref 0], (m, k), hp) _ from ?_)
  refine Ev.step (j := 352) (s' := ([some (.retAddr 0), some (.ref 0), some (.ref 69), some (.ref 87), some (.int z), a5, a6], [.retAddr 0, .int (xs z50.toNatClampNeg), .ref 0], (m, k), hp)) rfl rfl ?_
  refine Ev.step (j := 354) (s' := ([some (.retAddr 0), some (.ref 0), some (.ref 69), some (.ref 87), some (.int z), a5, a6], [.int z, .retAddr 0, .int (xs z50.toNatClampNeg), .ref 0], (m, k), hp)) rfl rfl ?_
  refine bs_lit (k := 2) rfl rfl fun z51 hz51 => ?_
  refine bs_add rfl (by omega) (by omega) fun z52 hz52 => ?_
  refine ls_sld rfl (by omega) (by omega) ?_
  refine (show Ev _ 357 ([some (.retAddr 0), some (.ref 0), some (.ref 69), some (.ref 87), some (.int z), a5, a6], [.int (xs z52.toNatClampNeg), .int (xs z50.toNatClampNeg), .ref 0], (m, k), hp) _ from ?_)
  refine Ev.step (j := 358) (s' := ([some (.retAddr 0), some (.ref 0), some (.ref 69), some (.ref 87), some (.int z), a5, a6], [.retAddr 0, .int (xs z52.toNatClampNeg), .int (xs z50.toNatClampNeg), .ref 0], (m, k), hp)) rfl rfl ?_
  refine Ev.step (j := 360) (s' := ([some (.retAddr 0), some (.ref 0), some (.ref 69), some (.ref 87), some (.int z), a5, a6], [.int z, .retAddr 0, .int (xs z52.toNatClampNeg), .int (xs z50.toNatClampNeg), .ref 0], (m, k), hp)) rfl rfl ?_
  refine bs_lit (k := 3) rfl rfl fun z53 hz53 => ?_
  refine bs_add rfl (by omega) (by omega) fun z54 hz54 => ?_
  refine ls_sld rfl (by omega) (by omega) ?_
  refine (show Ev _ 363 ([some (.retAddr 0), some (.ref 0), some (.ref 69), some (.ref 87), some (.int z), a5, a6], [.int (xs z54.toNatClampNeg), .int (xs z52.toNatClampNeg), .int (xs z50.toNatClampNeg), .ref 0], (m, k), hp) _ from ?_)
  refine bs_call (K := kq_X10_good_7e6f69) [.ref 0, .int (xs z50.toNatClampNeg), .int (xs z52.toNatClampNeg), .int (xs z54.toNatClampNeg)] [] rfl ct_X10_good_7e6f69 H rfl rfl rfl (bs_rcv (g := 10) H (bs_R.uq H (g := 10) rfl) (by decide) rfl) (ls_room (Nat.le_of_ble_eq_true rfl) (by omega) (by omega)) ?_ (sf_S_nil) fun r56 hp55 thp55 Hhp55 fhp55 ahp55 php55 => ?_
  · intro q k h
    match q, h with
    | 0, h => cases h; exact bs_jR (bs_R.uq H (g := 10) rfl)
    | 1, h => cases h; exact sf_j0
    | 2, h => cases h; exact sf_j0
    | 3, h => cases h; exact sf_j0
    | q + 4, h => cases h
  obtain ⟨z57, rfl⟩ := bs_anI ahp55
  refine (show Ev _ 366 ([some (.retAddr 0), some (.ref 0), some (.ref 69), some (.ref 87), some (.int z), a5, a6], [.int z57], (m + 0, k + 0), hp55) _ from ?_)
  refine Ev.step (j := 367) (s' := ([some (.retAddr 0), some (.ref 0), some (.ref 69), some (.ref 87), some (.int z), a5, a6], [], (m + 0, k + 0), hp55)) rfl rfl ?_
  refine Ev.step (j := 368) (s' := ([some (.retAddr 0), some (.ref 0), some (.ref 69), some (.ref 87), some (.int z), a5, a6], [.ref 69], (m + 0, k + 0), hp55)) rfl rfl ?_
  refine Ev.step (j := 369) (s' := ([some (.retAddr 0), some (.ref 0), some (.ref 69), some (.ref 87), some (.int z), a5, a6], [.retAddr 0, .ref 69], (m + 0, k + 0), hp55)) rfl rfl ?_
  refine Ev.step (j := 371) (s' := ([some (.retAddr 0), some (.ref 0), some (.ref 69), some (.ref 87), some (.int z), a5, a6], [.int z, .retAddr 0, .ref 69], (m + 0, k + 0), hp55)) rfl rfl ?_
  refine bs_lit (k := 1) rfl rfl fun z58 hz58 => ?_
  refine bs_add rfl (by omega) (by omega) fun z59 hz59 => ?_
  refine ls_sld rfl (by omega) (by omega) ?_
  refine (show Ev _ 374 ([some (.retAddr 0), some (.ref 0), some (.ref 69), some (.ref 87), some (.int z), a5, a6], [.int (xs z59.toNatClampNeg), .ref 69], (m + 0, k + 0), hp55) _ from ?_)
  refine Ev.step (j := 375) (s' := ([some (.retAddr 0), some (.ref 0), some (.ref 69), some (.ref 87), some (.int z), a5, a6], [.retAddr 0, .int (xs z59.toNatClampNeg), .ref 69], (m + 0, k + 0), hp55)) rfl rfl ?_
  refine Ev.step (j := 377) (s' := ([some (.retAddr 0), some (.ref 0), some (.ref 69), some (.ref 87), some (.int z), a5, a6], [.int z, .retAddr 0, .int (xs z59.toNatClampNeg), .ref 69], (m + 0, k + 0), hp55)) rfl rfl ?_
  refine bs_lit (k := 2) rfl rfl fun z60 hz60 => ?_
  refine bs_add rfl (by omega) (by omega) fun z61 hz61 => ?_
  refine ls_sld rfl (by omega) (by omega) ?_
  refine (show Ev _ 380 ([some (.retAddr 0), some (.ref 0), some (.ref 69), some (.ref 87), some (.int z), a5, a6], [.int (xs z61.toNatClampNeg), .int (xs z59.toNatClampNeg), .ref 69], (m + 0, k + 0), hp55) _ from ?_)
  refine Ev.step (j := 381) (s' := ([some (.retAddr 0), some (.ref 0), some (.ref 69), some (.ref 87), some (.int z), a5, a6], [.retAddr 0, .int (xs z61.toNatClampNeg), .int (xs z59.toNatClampNeg), .ref 69], (m + 0, k + 0), hp55)) rfl rfl ?_
  refine Ev.step (j := 383) (s' := ([some (.retAddr 0), some (.ref 0), some (.ref 69), some (.ref 87), some (.int z), a5, a6], [.int z, .retAddr 0, .int (xs z61.toNatClampNeg), .int (xs z59.toNatClampNeg), .ref 69], (m + 0, k + 0), hp55)) rfl rfl ?_
  refine bs_lit (k := 3) rfl rfl fun z62 hz62 => ?_
  refine bs_add rfl (by omega) (by omega) fun z63 hz63 => ?_
  refine ls_sld rfl (by omega) (by omega) ?_
  refine (show Ev _ 386 ([some (.retAddr 0), some (.ref 0), some (.ref 69), some (.ref 87), some (.int z), a5, a6], [.int (xs z63.toNatClampNeg), .int (xs z61.toNatClampNeg), .int (xs z59.toNatClampNeg), .ref 69], (m + 0, k + 0), hp55) _ from ?_)
  refine bs_call (K := kq_X11_good_3518ea) [.ref 69, .int (xs z59.toNatClampNeg), .int (xs z61.toNatClampNeg), .int (xs z63.toNatClampNeg)] [] rfl ct_X11_good_3518ea Hhp55 rfl rfl rfl (bs_rcv (g := 11) Hhp55 (bs_R.uq Hhp55 (g := 11) rfl) (by decide) rfl) (ls_room (Nat.le_of_ble_eq_true rfl) (by omega) (by omega)) ?_ (sf_S_nil) fun r65 hp64 thp64 Hhp64 fhp64 ahp64 php64 => ?_
  · intro q k h
    match q, h with
    | 0, h => cases h; exact bs_jR (bs_R.uq Hhp55 (g := 11) rfl)
    | 1, h => cases h; exact sf_j0
    | 2, h => cases h; exact sf_j0
    | 3, h => cases h; exact sf_j0
    | q + 4, h => cases h
  obtain ⟨z66, rfl⟩ := bs_anI ahp64
  refine (show Ev _ 389 ([some (.retAddr 0), some (.ref 0), some (.ref 69), some (.ref 87), some (.int z), a5, a6], [.int z66], (m + 0 + 0, k + 0 + 0), hp64) _ from ?_)
  refine Ev.step (j := 390) (s' := ([some (.retAddr 0), some (.ref 0), some (.ref 69), some (.ref 87), some (.int z), a5, a6], [], (m + 0 + 0, k + 0 + 0), hp64)) rfl rfl ?_
  refine Ev.step (j := 1440) (s' := ([some (.retAddr 0), some (.ref 0), some (.ref 69), some (.ref 87), some (.int z), a5, a6], [], (m + 0 + 0, k + 0 + 0), hp64)) rfl rfl ?_
  exact K _ _ _ _ _ _ Hhp64 True.intro (by omega) (by omega)
set_option maxRecDepth 100000 in
set_option maxHeartbeats 4000000 in
theorem op_crossed {xs : Nat → Int32} {n : Nat} {z : Int32} {a5 a6 : Option Value} {m k : Nat} {hp : ab_H} {t : Nat → Nat} {Q : ab_O → Prop} (H : sf_h t hp) (hs : lw_eq hp) (hz0 : 0 ≤ z.toInt) (hz1 : z.toInt + 6 ≤ n) (hn : n ≤ 3072) (hm : m + 21 ≤ 601024) (hk : k + 410 ≤ 7293034) (K : lw_K xs n z m k Q) : Ev (LT xs n) 393 ([some (.retAddr 0), some (.ref 0), some (.ref 69), some (.ref 87), some (.int z), a5, a6], [], (m, k), hp) Q := by
  refine Ev.step (j := 394) (s' := ([some (.retAddr 0), some (.ref 0), some (.ref 69), some (.ref 87), some (.int z), a5, a6], [.ref 0], (m, k), hp)) rfl rfl ?_
  refine Ev.step (j := 395) (s' := ([some (.retAddr 0), some (.ref 0), some (.ref 69), some (.ref 87), some (.int z), a5, a6], [.retAddr 0, .ref 0], (m, k), hp)) rfl rfl ?_
  refine Ev.step (j := 397) (s' := ([some (.retAddr 0), some (.ref 0), some (.ref 69), some (.ref 87), some (.int z), a5, a6], [.int z, .retAddr 0, .ref 0], (m, k), hp)) rfl rfl ?_
  refine bs_lit (k := 1) rfl rfl fun z67 hz67 => ?_
  refine bs_add rfl (by omega) (by omega) fun z68 hz68 => ?_
  refine ls_sld rfl (by omega) (by omega) ?_
  refine (show Ev _ 400 ([some (.retAddr 0), some (.ref 0), some (.ref 69), some (.ref 87), some (.int z), a5, a6], [.int (xs z68.toNatClampNeg), .ref 0], (m, k), hp) _ from ?_)
  refine Ev.step (j := 401) (s' := ([some (.retAddr 0), some (.ref 0), some (.ref 69), some (.ref 87), some (.int z), a5, a6], [.retAddr 0, .int (xs z68.toNatClampNeg), .ref 0], (m, k), hp)) rfl rfl ?_
  refine Ev.step (j := 403) (s' := ([some (.retAddr 0), some (.ref 0), some (.ref 69), some (.ref 87), some (.int z), a5, a6], [.int z, .retAddr 0, .int (xs z68.toNatClampNeg), .ref 0], (m, k), hp)) rfl rfl ?_
  refine bs_lit (k := 2) rfl rfl fun z69 hz69 => ?_
  refine bs_add rfl (by omega) (by omega) fun z70 hz70 => ?_
  refine ls_sld rfl (by omega) (by omega) ?_
  refine (show Ev _ 406 ([some (.retAddr 0), some (.ref 0), some (.ref 69), some (.ref 87), some (.int z), a5, a6], [.int (xs z70.toNatClampNeg), .int (xs z68.toNatClampNeg), .ref 0], (m, k), hp) _ from ?_)
  refine bs_call (K := kq_X10_crossed_57b5ea) [.ref 0, .int (xs z68.toNatClampNeg), .int (xs z70.toNatClampNeg)] [] rfl ct_X10_crossed_57b5ea H rfl rfl rfl (bs_rcv (g := 10) H (bs_R.uq H (g := 10) rfl) (by decide) rfl) (ls_room (Nat.le_of_ble_eq_true rfl) (by omega) (by omega)) ?_ (sf_S_nil) fun r72 hp71 thp71 Hhp71 fhp71 ahp71 php71 => ?_
  · intro q k h
    match q, h with
    | 0, h => cases h; exact bs_jR (bs_R.uq H (g := 10) rfl)
    | 1, h => cases h; exact sf_j0
    | 2, h => cases h; exact sf_j0
    | q + 3, h => cases h
  obtain ⟨z73, rfl⟩ := bs_anI ahp71
  refine (show Ev _ 409 ([some (.retAddr 0), some (.ref 0), some (.ref 69), some (.ref 87), some (.int z), a5, a6], [.int z73], (m + 0, k + 0), hp71) _ from ?_)
  refine Ev.step (j := 410) (s' := ([some (.retAddr 0), some (.ref 0), some (.ref 69), some (.ref 87), some (.int z), a5, a6], [], (m + 0, k + 0), hp71)) rfl rfl ?_
  refine Ev.step (j := 411) (s' := ([some (.retAddr 0), some (.ref 0), some (.ref 69), some (.ref 87), some (.int z), a5, a6], [.ref 69], (m + 0, k + 0), hp71)) rfl rfl ?_
  refine Ev.step (j := 412) (s' := ([some (.retAddr 0), some (.ref 0), some (.ref 69), some (.ref 87), some (.int z), a5, a6], [.retAddr 0, .ref 69], (m + 0, k + 0), hp71)) rfl rfl ?_
  refine Ev.step (j := 414) (s' := ([some (.retAddr 0), some (.ref 0), some (.ref 69), some (.ref 87), some (.int z), a5, a6], [.int z, .retAddr 0, .ref 69], (m + 0, k + 0), hp71)) rfl rfl ?_
  refine bs_lit (k := 1) rfl rfl fun z74 hz74 => ?_
  refine bs_add rfl (by omega) (by omega) fun z75 hz75 => ?_
  refine ls_sld rfl (by omega) (by omega) ?_
  refine (show Ev _ 417 ([some (.retAddr 0), some (.ref 0), some (.ref 69), some (.ref 87), some (.int z), a5, a6], [.int (xs z75.toNatClampNeg), .ref 69], (m + 0, k + 0), hp71) _ from ?_)
  refine Ev.step (j := 418) (s' := ([some (.retAddr 0), some (.ref 0), some (.ref 69), some (.ref 87), some (.int z), a5, a6], [.retAddr 0, .int (xs z75.toNatClampNeg), .ref 69], (m + 0, k + 0), hp71)) rfl rfl ?_
  refine Ev.step (j := 420) (s' := ([some (.retAddr 0), some (.ref 0), some (.ref 69), some (.ref 87), some (.int z), a5, a6], [.int z, .retAddr 0, .int (xs z75.toNatClampNeg), .ref 69], (m + 0, k + 0), hp71)) rfl rfl ?_
  refine bs_lit (k := 2) rfl rfl fun z76 hz76 => ?_
  refine bs_add rfl (by omega) (by omega) fun z77 hz77 => ?_
  refine ls_sld rfl (by omega) (by omega) ?_
  refine (show Ev _ 423 ([some (.retAddr 0), some (.ref 0), some (.ref 69), some (.ref 87), some (.int z), a5, a6], [.int (xs z77.toNatClampNeg), .int (xs z75.toNatClampNeg), .ref 69], (m + 0, k + 0), hp71) _ from ?_)
  refine bs_call (K := kq_X11_crossed_334faa) [.ref 69, .int (xs z75.toNatClampNeg), .int (xs z77.toNatClampNeg)] [] rfl ct_X11_crossed_334faa Hhp71 rfl rfl rfl (bs_rcv (g := 11) Hhp71 (bs_R.uq Hhp71 (g := 11) rfl) (by decide) rfl) (ls_room (Nat.le_of_ble_eq_true rfl) (by omega) (by omega)) ?_ (sf_S_nil) fun r79 hp78 thp78 Hhp78 fhp78 ahp78 php78 => ?_
  · intro q k h
    match q, h with
    | 0, h => cases h; exact bs_jR (bs_R.uq Hhp71 (g := 11) rfl)
    | 1, h => cases h; exact sf_j0
    | 2, h => cases h; exact sf_j0
    | q + 3, h => cases h
  obtain ⟨z80, rfl⟩ := bs_anI ahp78
  refine (show Ev _ 426 ([some (.retAddr 0), some (.ref 0), some (.ref 69), some (.ref 87), some (.int z), a5, a6], [.int z80], (m + 0 + 0, k + 0 + 0), hp78) _ from ?_)
  refine Ev.step (j := 427) (s' := ([some (.retAddr 0), some (.ref 0), some (.ref 69), some (.ref 87), some (.int z), a5, a6], [], (m + 0 + 0, k + 0 + 0), hp78)) rfl rfl ?_
  refine Ev.step (j := 1440) (s' := ([some (.retAddr 0), some (.ref 0), some (.ref 69), some (.ref 87), some (.int z), a5, a6], [], (m + 0 + 0, k + 0 + 0), hp78)) rfl rfl ?_
  exact K _ _ _ _ _ _ Hhp78 True.intro (by omega) (by omega)
set_option maxRecDepth 100000 in
set_option maxHeartbeats 4000000 in
theorem op_man {xs : Nat → Int32} {n : Nat} {z : Int32} {a5 a6 : Option Value} {m k : Nat} {hp : ab_H} {t : Nat → Nat} {Q : ab_O → Prop} (H : sf_h t hp) (hs : lw_eq hp) (hz0 : 0 ≤ z.toInt) (hz1 : z.toInt + 6 ≤ n) (hn : n ≤ 3072) (hm : m + 21 ≤ 601024) (hk : k + 410 ≤ 7293034) (K : lw_K xs n z m k Q) : Ev (LT xs n) 430 ([some (.retAddr 0), some (.ref 0), some (.ref 69), some (.ref 87), some (.int z), a5, a6], [], (m, k), hp) Q := by
  refine Ev.step (j := 431) (s' := ([some (.retAddr 0), some (.ref 0), some (.ref 69), some (.ref 87), some (.int z), a5, a6], [.ref 0], (m, k), hp)) rfl rfl ?_
  refine Ev.step (j := 432) (s' := ([some (.retAddr 0), some (.ref 0), some (.ref 69), some (.ref 87), some (.int z), a5, a6], [.retAddr 0, .ref 0], (m, k), hp)) rfl rfl ?_
  refine Ev.step (j := 434) (s' := ([some (.retAddr 0), some (.ref 0), some (.ref 69), some (.ref 87), some (.int z), a5, a6], [.int z, .retAddr 0, .ref 0], (m, k), hp)) rfl rfl ?_
  refine bs_lit (k := 1) rfl rfl fun z81 hz81 => ?_
  refine bs_add rfl (by omega) (by omega) fun z82 hz82 => ?_
  refine ls_sld rfl (by omega) (by omega) ?_
  refine (show Ev _ 437 ([some (.retAddr 0), some (.ref 0), some (.ref 69), some (.ref 87), some (.int z), a5, a6], [.int (xs z82.toNatClampNeg), .ref 0], (m, k), hp) _ from ?_)
  refine Ev.step (j := 438) (s' := ([some (.retAddr 0), some (.ref 0), some (.ref 69), some (.ref 87), some (.int z), a5, a6], [.retAddr 0, .int (xs z82.toNatClampNeg), .ref 0], (m, k), hp)) rfl rfl ?_
  refine Ev.step (j := 440) (s' := ([some (.retAddr 0), some (.ref 0), some (.ref 69), some (.ref 87), some (.int z), a5, a6], [.int z, .retAddr 0, .int (xs z82.toNatClampNeg), .ref 0], (m, k), hp)) rfl rfl ?_
  refine bs_lit (k := 2) rfl rfl fun z83 hz83 => ?_
  refine bs_add rfl (by omega) (by omega) fun z84 hz84 => ?_
  refine ls_sld rfl (by omega) (by omega) ?_
  refine (show Ev _ 443 ([some (.retAddr 0), some (.ref 0), some (.ref 69), some (.ref 87), some (.int z), a5, a6], [.int (xs z84.toNatClampNeg), .int (xs z82.toNatClampNeg), .ref 0], (m, k), hp) _ from ?_)
  refine Ev.step (j := 444) (s' := ([some (.retAddr 0), some (.ref 0), some (.ref 69), some (.ref 87), some (.int z), a5, a6], [.ref 87, .int (xs z84.toNatClampNeg), .int (xs z82.toNatClampNeg), .ref 0], (m, k), hp)) rfl rfl ?_
  refine bs_callS (K := kq_L_man) [.ref 0, .int (xs z82.toNatClampNeg), .int (xs z84.toNatClampNeg), .ref 87] [] rfl ct_L_man H rfl rfl rfl (ls_room (Nat.le_of_ble_eq_true rfl) (by omega) (by omega)) ?_ (sf_S_nil) fun r86 hp85 thp85 Hhp85 fhp85 ahp85 php85 => ?_
  · intro q k h
    match q, h with
    | 0, h => cases h; exact bs_jR (bs_R.uq H (g := 10) rfl)
    | 1, h => cases h; exact sf_j0
    | 2, h => cases h; exact sf_j0
    | 3, h => cases h; exact bs_jR (bs_R.uq H (g := 148) rfl)
    | q + 4, h => cases h
  obtain ⟨z87, rfl⟩ := bs_anI ahp85
  refine (show Ev _ 447 ([some (.retAddr 0), some (.ref 0), some (.ref 69), some (.ref 87), some (.int z), a5, a6], [.int z87], (m + 1, k + 6), hp85) _ from ?_)
  refine Ev.step (j := 449) (s' := ([some (.retAddr 0), some (.ref 0), some (.ref 69), some (.ref 87), some (.int z), (some (.int z87)), a6], [], (m + 1, k + 6), hp85)) rfl rfl ?_
  refine Ev.step (j := 450) (s' := ([some (.retAddr 0), some (.ref 0), some (.ref 69), some (.ref 87), some (.int z), (some (.int z87)), a6], [.ref 69], (m + 1, k + 6), hp85)) rfl rfl ?_
  refine Ev.step (j := 451) (s' := ([some (.retAddr 0), some (.ref 0), some (.ref 69), some (.ref 87), some (.int z), (some (.int z87)), a6], [.retAddr 0, .ref 69], (m + 1, k + 6), hp85)) rfl rfl ?_
  refine Ev.step (j := 453) (s' := ([some (.retAddr 0), some (.ref 0), some (.ref 69), some (.ref 87), some (.int z), (some (.int z87)), a6], [.int z, .retAddr 0, .ref 69], (m + 1, k + 6), hp85)) rfl rfl ?_
  refine bs_lit (k := 1) rfl rfl fun z88 hz88 => ?_
  refine bs_add rfl (by omega) (by omega) fun z89 hz89 => ?_
  refine ls_sld rfl (by omega) (by omega) ?_
  refine (show Ev _ 456 ([some (.retAddr 0), some (.ref 0), some (.ref 69), some (.ref 87), some (.int z), (some (.int z87)), a6], [.int (xs z89.toNatClampNeg), .ref 69], (m + 1, k + 6), hp85) _ from ?_)
  refine Ev.step (j := 457) (s' := ([some (.retAddr 0), some (.ref 0), some (.ref 69), some (.ref 87), some (.int z), (some (.int z87)), a6], [.retAddr 0, .int (xs z89.toNatClampNeg), .ref 69], (m + 1, k + 6), hp85)) rfl rfl ?_
  refine Ev.step (j := 459) (s' := ([some (.retAddr 0), some (.ref 0), some (.ref 69), some (.ref 87), some (.int z), (some (.int z87)), a6], [.int z, .retAddr 0, .int (xs z89.toNatClampNeg), .ref 69], (m + 1, k + 6), hp85)) rfl rfl ?_
  refine bs_lit (k := 2) rfl rfl fun z90 hz90 => ?_
  refine bs_add rfl (by omega) (by omega) fun z91 hz91 => ?_
  refine ls_sld rfl (by omega) (by omega) ?_
  refine (show Ev _ 462 ([some (.retAddr 0), some (.ref 0), some (.ref 69), some (.ref 87), some (.int z), (some (.int z87)), a6], [.int (xs z91.toNatClampNeg), .int (xs z89.toNatClampNeg), .ref 69], (m + 1, k + 6), hp85) _ from ?_)
  refine bs_call (K := kq_X11_man_h) [.ref 69, .int (xs z89.toNatClampNeg), .int (xs z91.toNatClampNeg)] [] rfl ct_X11_man_h Hhp85 rfl rfl rfl (bs_rcv (g := 11) Hhp85 (bs_R.uq Hhp85 (g := 11) rfl) (by decide) rfl) (ls_room (Nat.le_of_ble_eq_true rfl) (by omega) (by omega)) ?_ (sf_S_nil) fun r93 hp92 thp92 Hhp92 fhp92 ahp92 php92 => ?_
  · intro q k h
    match q, h with
    | 0, h => cases h; exact bs_jR (bs_R.uq Hhp85 (g := 11) rfl)
    | 1, h => cases h; exact sf_j0
    | 2, h => cases h; exact sf_j0
    | q + 3, h => cases h
  obtain ⟨z94, rfl⟩ := bs_anI ahp92
  refine (show Ev _ 465 ([some (.retAddr 0), some (.ref 0), some (.ref 69), some (.ref 87), some (.int z), (some (.int z87)), a6], [.int z94], (m + 1 + 0, k + 6 + 0), hp92) _ from ?_)
  refine Ev.step (j := 467) (s' := ([some (.retAddr 0), some (.ref 0), some (.ref 69), some (.ref 87), some (.int z), (some (.int z87)), (some (.int z94))], [], (m + 1 + 0, k + 6 + 0), hp92)) rfl rfl ?_
  refine Ev.step (j := 1440) (s' := ([some (.retAddr 0), some (.ref 0), some (.ref 69), some (.ref 87), some (.int z), (some (.int z87)), (some (.int z94))], [], (m + 1 + 0, k + 6 + 0), hp92)) rfl rfl ?_
  exact K _ _ _ _ _ _ Hhp92 True.intro (by omega) (by omega)
set_option maxRecDepth 100000 in
set_option maxHeartbeats 4000000 in
theorem op_apart {xs : Nat → Int32} {n : Nat} {z : Int32} {a5 a6 : Option Value} {m k : Nat} {hp : ab_H} {t : Nat → Nat} {Q : ab_O → Prop} (H : sf_h t hp) (hs : lw_eq hp) (hz0 : 0 ≤ z.toInt) (hz1 : z.toInt + 6 ≤ n) (hn : n ≤ 3072) (hm : m + 21 ≤ 601024) (hk : k + 410 ≤ 7293034) (K : lw_K xs n z m k Q) : Ev (LT xs n) 470 ([some (.retAddr 0), some (.ref 0), some (.ref 69), some (.ref 87), some (.int z), a5, a6], [], (m, k), hp) Q := by
  refine Ev.step (j := 471) (s' := ([some (.retAddr 0), some (.ref 0), some (.ref 69), some (.ref 87), some (.int z), a5, a6], [.ref 0], (m, k), hp)) rfl rfl ?_
  refine Ev.step (j := 472) (s' := ([some (.retAddr 0), some (.ref 0), some (.ref 69), some (.ref 87), some (.int z), a5, a6], [.retAddr 0, .ref 0], (m, k), hp)) rfl rfl ?_
  refine Ev.step (j := 474) (s' := ([some (.retAddr 0), some (.ref 0), some (.ref 69), some (.ref 87), some (.int z), a5, a6], [.int z, .retAddr 0, .ref 0], (m, k), hp)) rfl rfl ?_
  refine bs_lit (k := 1) rfl rfl fun z95 hz95 => ?_
  refine bs_add rfl (by omega) (by omega) fun z96 hz96 => ?_
  refine ls_sld rfl (by omega) (by omega) ?_
  refine (show Ev _ 477 ([some (.retAddr 0), some (.ref 0), some (.ref 69), some (.ref 87), some (.int z), a5, a6], [.int (xs z96.toNatClampNeg), .ref 0], (m, k), hp) _ from ?_)
  refine Ev.step (j := 478) (s' := ([some (.retAddr 0), some (.ref 0), some (.ref 69), some (.ref 87), some (.int z), a5, a6], [.retAddr 0, .int (xs z96.toNatClampNeg), .ref 0], (m, k), hp)) rfl rfl ?_
  refine Ev.step (j := 480) (s' := ([some (.retAddr 0), some (.ref 0), some (.ref 69), some (.ref 87), some (.int z), a5, a6], [.int z, .retAddr 0, .int (xs z96.toNatClampNeg), .ref 0], (m, k), hp)) rfl rfl ?_
  refine bs_lit (k := 2) rfl rfl fun z97 hz97 => ?_
  refine bs_add rfl (by omega) (by omega) fun z98 hz98 => ?_
  refine ls_sld rfl (by omega) (by omega) ?_
  refine (show Ev _ 483 ([some (.retAddr 0), some (.ref 0), some (.ref 69), some (.ref 87), some (.int z), a5, a6], [.int (xs z98.toNatClampNeg), .int (xs z96.toNatClampNeg), .ref 0], (m, k), hp) _ from ?_)
  refine bs_call (K := kq_X10_apart_57b5ea) [.ref 0, .int (xs z96.toNatClampNeg), .int (xs z98.toNatClampNeg)] [] rfl ct_X10_apart_57b5ea H rfl rfl rfl (bs_rcv (g := 10) H (bs_R.uq H (g := 10) rfl) (by decide) rfl) (ls_room (Nat.le_of_ble_eq_true rfl) (by omega) (by omega)) ?_ (sf_S_nil) fun r100 hp99 thp99 Hhp99 fhp99 ahp99 php99 => ?_
  · intro q k h
    match q, h with
    | 0, h => cases h; exact bs_jR (bs_R.uq H (g := 10) rfl)
    | 1, h => cases h; exact sf_j0
    | 2, h => cases h; exact sf_j0
    | q + 3, h => cases h
  obtain ⟨z101, rfl⟩ := bs_anI ahp99
  refine (show Ev _ 486 ([some (.retAddr 0), some (.ref 0), some (.ref 69), some (.ref 87), some (.int z), a5, a6], [.int z101], (m + 0, k + 0), hp99) _ from ?_)
  refine Ev.step (j := 487) (s' := ([some (.retAddr 0), some (.ref 0), some (.ref 69), some (.ref 87), some (.int z), a5, a6], [], (m + 0, k + 0), hp99)) rfl rfl ?_
  refine Ev.step (j := 488) (s' := ([some (.retAddr 0), some (.ref 0), some (.ref 69), some (.ref 87), some (.int z), a5, a6], [.ref 69], (m + 0, k + 0), hp99)) rfl rfl ?_
  refine Ev.step (j := 489) (s' := ([some (.retAddr 0), some (.ref 0), some (.ref 69), some (.ref 87), some (.int z), a5, a6], [.retAddr 0, .ref 69], (m + 0, k + 0), hp99)) rfl rfl ?_
  refine Ev.step (j := 491) (s' := ([some (.retAddr 0), some (.ref 0), some (.ref 69), some (.ref 87), some (.int z), a5, a6], [.int z, .retAddr 0, .ref 69], (m + 0, k + 0), hp99)) rfl rfl ?_
  refine bs_lit (k := 1) rfl rfl fun z102 hz102 => ?_
  refine bs_add rfl (by omega) (by omega) fun z103 hz103 => ?_
  refine ls_sld rfl (by omega) (by omega) ?_
  refine (show Ev _ 494 ([some (.retAddr 0), some (.ref 0), some (.ref 69), some (.ref 87), some (.int z), a5, a6], [.int (xs z103.toNatClampNeg), .ref 69], (m + 0, k + 0), hp99) _ from ?_)
  refine Ev.step (j := 495) (s' := ([some (.retAddr 0), some (.ref 0), some (.ref 69), some (.ref 87), some (.int z), a5, a6], [.retAddr 0, .int (xs z103.toNatClampNeg), .ref 69], (m + 0, k + 0), hp99)) rfl rfl ?_
  refine Ev.step (j := 497) (s' := ([some (.retAddr 0), some (.ref 0), some (.ref 69), some (.ref 87), some (.int z), a5, a6], [.int z, .retAddr 0, .int (xs z103.toNatClampNeg), .ref 69], (m + 0, k + 0), hp99)) rfl rfl ?_
  refine bs_lit (k := 2) rfl rfl fun z104 hz104 => ?_
  refine bs_add rfl (by omega) (by omega) fun z105 hz105 => ?_
  refine ls_sld rfl (by omega) (by omega) ?_
  refine (show Ev _ 500 ([some (.retAddr 0), some (.ref 0), some (.ref 69), some (.ref 87), some (.int z), a5, a6], [.int (xs z105.toNatClampNeg), .int (xs z103.toNatClampNeg), .ref 69], (m + 0, k + 0), hp99) _ from ?_)
  refine bs_call (K := kq_X11_apart_334faa) [.ref 69, .int (xs z103.toNatClampNeg), .int (xs z105.toNatClampNeg)] [] rfl ct_X11_apart_334faa Hhp99 rfl rfl rfl (bs_rcv (g := 11) Hhp99 (bs_R.uq Hhp99 (g := 11) rfl) (by decide) rfl) (ls_room (Nat.le_of_ble_eq_true rfl) (by omega) (by omega)) ?_ (sf_S_nil) fun r107 hp106 thp106 Hhp106 fhp106 ahp106 php106 => ?_
  · intro q k h
    match q, h with
    | 0, h => cases h; exact bs_jR (bs_R.uq Hhp99 (g := 11) rfl)
    | 1, h => cases h; exact sf_j0
    | 2, h => cases h; exact sf_j0
    | q + 3, h => cases h
  obtain ⟨z108, rfl⟩ := bs_anI ahp106
  refine (show Ev _ 503 ([some (.retAddr 0), some (.ref 0), some (.ref 69), some (.ref 87), some (.int z), a5, a6], [.int z108], (m + 0 + 0, k + 0 + 0), hp106) _ from ?_)
  refine Ev.step (j := 504) (s' := ([some (.retAddr 0), some (.ref 0), some (.ref 69), some (.ref 87), some (.int z), a5, a6], [], (m + 0 + 0, k + 0 + 0), hp106)) rfl rfl ?_
  refine Ev.step (j := 1440) (s' := ([some (.retAddr 0), some (.ref 0), some (.ref 69), some (.ref 87), some (.int z), a5, a6], [], (m + 0 + 0, k + 0 + 0), hp106)) rfl rfl ?_
  exact K _ _ _ _ _ _ Hhp106 True.intro (by omega) (by omega)
set_option maxRecDepth 100000 in
set_option maxHeartbeats 4000000 in
theorem op_now {xs : Nat → Int32} {n : Nat} {z : Int32} {a5 a6 : Option Value} {m k : Nat} {hp : ab_H} {t : Nat → Nat} {Q : ab_O → Prop} (H : sf_h t hp) (hs : lw_eq hp) (hz0 : 0 ≤ z.toInt) (hz1 : z.toInt + 6 ≤ n) (hn : n ≤ 3072) (hm : m + 21 ≤ 601024) (hk : k + 410 ≤ 7293034) (K : lw_K xs n z m k Q) : Ev (LT xs n) 507 ([some (.retAddr 0), some (.ref 0), some (.ref 69), some (.ref 87), some (.int z), a5, a6], [], (m, k), hp) Q := by
  refine Ev.step (j := 508) (s' := ([some (.retAddr 0), some (.ref 0), some (.ref 69), some (.ref 87), some (.int z), a5, a6], [.ref 0], (m, k), hp)) rfl rfl ?_
  refine Ev.step (j := 509) (s' := ([some (.retAddr 0), some (.ref 0), some (.ref 69), some (.ref 87), some (.int z), a5, a6], [.retAddr 0, .ref 0], (m, k), hp)) rfl rfl ?_
  refine Ev.step (j := 511) (s' := ([some (.retAddr 0), some (.ref 0), some (.ref 69), some (.ref 87), some (.int z), a5, a6], [.int z, .retAddr 0, .ref 0], (m, k), hp)) rfl rfl ?_
  refine bs_lit (k := 1) rfl rfl fun z109 hz109 => ?_
  refine bs_add rfl (by omega) (by omega) fun z110 hz110 => ?_
  refine ls_sld rfl (by omega) (by omega) ?_
  refine (show Ev _ 514 ([some (.retAddr 0), some (.ref 0), some (.ref 69), some (.ref 87), some (.int z), a5, a6], [.int (xs z110.toNatClampNeg), .ref 0], (m, k), hp) _ from ?_)
  refine bs_call (K := kq_X10_now_0df2a5) [.ref 0, .int (xs z110.toNatClampNeg)] [] rfl ct_X10_now_0df2a5 H rfl rfl rfl (bs_rcv (g := 10) H (bs_R.uq H (g := 10) rfl) (by decide) rfl) (ls_room (Nat.le_of_ble_eq_true rfl) (by omega) (by omega)) ?_ (sf_S_nil) fun r112 hp111 thp111 Hhp111 fhp111 ahp111 php111 => ?_
  · intro q k h
    match q, h with
    | 0, h => cases h; exact bs_jR (bs_R.uq H (g := 10) rfl)
    | 1, h => cases h; exact sf_j0
    | q + 2, h => cases h
  obtain ⟨z113, rfl⟩ := bs_anI ahp111
  refine (show Ev _ 517 ([some (.retAddr 0), some (.ref 0), some (.ref 69), some (.ref 87), some (.int z), a5, a6], [.int z113], (m + 0, k + 0), hp111) _ from ?_)
  refine Ev.step (j := 518) (s' := ([some (.retAddr 0), some (.ref 0), some (.ref 69), some (.ref 87), some (.int z), a5, a6], [], (m + 0, k + 0), hp111)) rfl rfl ?_
  refine Ev.step (j := 519) (s' := ([some (.retAddr 0), some (.ref 0), some (.ref 69), some (.ref 87), some (.int z), a5, a6], [.ref 69], (m + 0, k + 0), hp111)) rfl rfl ?_
  refine Ev.step (j := 520) (s' := ([some (.retAddr 0), some (.ref 0), some (.ref 69), some (.ref 87), some (.int z), a5, a6], [.retAddr 0, .ref 69], (m + 0, k + 0), hp111)) rfl rfl ?_
  refine Ev.step (j := 522) (s' := ([some (.retAddr 0), some (.ref 0), some (.ref 69), some (.ref 87), some (.int z), a5, a6], [.int z, .retAddr 0, .ref 69], (m + 0, k + 0), hp111)) rfl rfl ?_
  refine bs_lit (k := 1) rfl rfl fun z114 hz114 => ?_
  refine bs_add rfl (by omega) (by omega) fun z115 hz115 => ?_
  refine ls_sld rfl (by omega) (by omega) ?_
  refine (show Ev _ 525 ([some (.retAddr 0), some (.ref 0), some (.ref 69), some (.ref 87), some (.int z), a5, a6], [.int (xs z115.toNatClampNeg), .ref 69], (m + 0, k + 0), hp111) _ from ?_)
  refine bs_call (K := kq_X11_now_3d45d6) [.ref 69, .int (xs z115.toNatClampNeg)] [] rfl ct_X11_now_3d45d6 Hhp111 rfl rfl rfl (bs_rcv (g := 11) Hhp111 (bs_R.uq Hhp111 (g := 11) rfl) (by decide) rfl) (ls_room (Nat.le_of_ble_eq_true rfl) (by omega) (by omega)) ?_ (sf_S_nil) fun r117 hp116 thp116 Hhp116 fhp116 ahp116 php116 => ?_
  · intro q k h
    match q, h with
    | 0, h => cases h; exact bs_jR (bs_R.uq Hhp111 (g := 11) rfl)
    | 1, h => cases h; exact sf_j0
    | q + 2, h => cases h
  obtain ⟨z118, rfl⟩ := bs_anI ahp116
  refine (show Ev _ 528 ([some (.retAddr 0), some (.ref 0), some (.ref 69), some (.ref 87), some (.int z), a5, a6], [.int z118], (m + 0 + 0, k + 0 + 0), hp116) _ from ?_)
  refine Ev.step (j := 529) (s' := ([some (.retAddr 0), some (.ref 0), some (.ref 69), some (.ref 87), some (.int z), a5, a6], [], (m + 0 + 0, k + 0 + 0), hp116)) rfl rfl ?_
  refine Ev.step (j := 1440) (s' := ([some (.retAddr 0), some (.ref 0), some (.ref 69), some (.ref 87), some (.int z), a5, a6], [], (m + 0 + 0, k + 0 + 0), hp116)) rfl rfl ?_
  exact K _ _ _ _ _ _ Hhp116 True.intro (by omega) (by omega)
set_option maxRecDepth 100000 in
set_option maxHeartbeats 4000000 in
theorem op_hoard {xs : Nat → Int32} {n : Nat} {z : Int32} {a5 a6 : Option Value} {m k : Nat} {hp : ab_H} {t : Nat → Nat} {Q : ab_O → Prop} (H : sf_h t hp) (hs : lw_eq hp) (hz0 : 0 ≤ z.toInt) (hz1 : z.toInt + 6 ≤ n) (hn : n ≤ 3072) (hm : m + 21 ≤ 601024) (hk : k + 410 ≤ 7293034) (K : lw_K xs n z m k Q) : Ev (LT xs n) 532 ([some (.retAddr 0), some (.ref 0), some (.ref 69), some (.ref 87), some (.int z), a5, a6], [], (m, k), hp) Q := by
  refine Ev.step (j := 533) (s' := ([some (.retAddr 0), some (.ref 0), some (.ref 69), some (.ref 87), some (.int z), a5, a6], [.ref 0], (m, k), hp)) rfl rfl ?_
  refine Ev.step (j := 534) (s' := ([some (.retAddr 0), some (.ref 0), some (.ref 69), some (.ref 87), some (.int z), a5, a6], [.retAddr 0, .ref 0], (m, k), hp)) rfl rfl ?_
  refine Ev.step (j := 536) (s' := ([some (.retAddr 0), some (.ref 0), some (.ref 69), some (.ref 87), some (.int z), a5, a6], [.int z, .retAddr 0, .ref 0], (m, k), hp)) rfl rfl ?_
  refine bs_lit (k := 1) rfl rfl fun z119 hz119 => ?_
  refine bs_add rfl (by omega) (by omega) fun z120 hz120 => ?_
  refine ls_sld rfl (by omega) (by omega) ?_
  refine (show Ev _ 539 ([some (.retAddr 0), some (.ref 0), some (.ref 69), some (.ref 87), some (.int z), a5, a6], [.int (xs z120.toNatClampNeg), .ref 0], (m, k), hp) _ from ?_)
  refine Ev.step (j := 540) (s' := ([some (.retAddr 0), some (.ref 0), some (.ref 69), some (.ref 87), some (.int z), a5, a6], [.retAddr 0, .int (xs z120.toNatClampNeg), .ref 0], (m, k), hp)) rfl rfl ?_
  refine Ev.step (j := 542) (s' := ([some (.retAddr 0), some (.ref 0), some (.ref 69), some (.ref 87), some (.int z), a5, a6], [.int z, .retAddr 0, .int (xs z120.toNatClampNeg), .ref 0], (m, k), hp)) rfl rfl ?_
  refine bs_lit (k := 2) rfl rfl fun z121 hz121 => ?_
  refine bs_add rfl (by omega) (by omega) fun z122 hz122 => ?_
  refine ls_sld rfl (by omega) (by omega) ?_
  refine (show Ev _ 545 ([some (.retAddr 0), some (.ref 0), some (.ref 69), some (.ref 87), some (.int z), a5, a6], [.int (xs z122.toNatClampNeg), .int (xs z120.toNatClampNeg), .ref 0], (m, k), hp) _ from ?_)
  refine Ev.step (j := 546) (s' := ([some (.retAddr 0), some (.ref 0), some (.ref 69), some (.ref 87), some (.int z), a5, a6], [.retAddr 0, .int (xs z122.toNatClampNeg), .int (xs z120.toNatClampNeg), .ref 0], (m, k), hp)) rfl rfl ?_
  refine Ev.step (j := 548) (s' := ([some (.retAddr 0), some (.ref 0), some (.ref 69), some (.ref 87), some (.int z), a5, a6], [.int z, .retAddr 0, .int (xs z122.toNatClampNeg), .int (xs z120.toNatClampNeg), .ref 0], (m, k), hp)) rfl rfl ?_
  refine bs_lit (k := 3) rfl rfl fun z123 hz123 => ?_
  refine bs_add rfl (by omega) (by omega) fun z124 hz124 => ?_
  refine ls_sld rfl (by omega) (by omega) ?_
  refine (show Ev _ 551 ([some (.retAddr 0), some (.ref 0), some (.ref 69), some (.ref 87), some (.int z), a5, a6], [.int (xs z124.toNatClampNeg), .int (xs z122.toNatClampNeg), .int (xs z120.toNatClampNeg), .ref 0], (m, k), hp) _ from ?_)
  refine bs_call (K := kq_X10_hoard_7e6f69) [.ref 0, .int (xs z120.toNatClampNeg), .int (xs z122.toNatClampNeg), .int (xs z124.toNatClampNeg)] [] rfl ct_X10_hoard_7e6f69 H rfl rfl rfl (bs_rcv (g := 10) H (bs_R.uq H (g := 10) rfl) (by decide) rfl) (ls_room (Nat.le_of_ble_eq_true rfl) (by omega) (by omega)) ?_ (sf_S_nil) fun r126 hp125 thp125 Hhp125 fhp125 ahp125 php125 => ?_
  · intro q k h
    match q, h with
    | 0, h => cases h; exact bs_jR (bs_R.uq H (g := 10) rfl)
    | 1, h => cases h; exact sf_j0
    | 2, h => cases h; exact sf_j0
    | 3, h => cases h; exact sf_j0
    | q + 4, h => cases h
  obtain ⟨z127, rfl⟩ := bs_anI ahp125
  refine (show Ev _ 554 ([some (.retAddr 0), some (.ref 0), some (.ref 69), some (.ref 87), some (.int z), a5, a6], [.int z127], (m + 8, k + 138), hp125) _ from ?_)
  refine Ev.step (j := 555) (s' := ([some (.retAddr 0), some (.ref 0), some (.ref 69), some (.ref 87), some (.int z), a5, a6], [], (m + 8, k + 138), hp125)) rfl rfl ?_
  refine Ev.step (j := 556) (s' := ([some (.retAddr 0), some (.ref 0), some (.ref 69), some (.ref 87), some (.int z), a5, a6], [.ref 69], (m + 8, k + 138), hp125)) rfl rfl ?_
  refine Ev.step (j := 557) (s' := ([some (.retAddr 0), some (.ref 0), some (.ref 69), some (.ref 87), some (.int z), a5, a6], [.retAddr 0, .ref 69], (m + 8, k + 138), hp125)) rfl rfl ?_
  refine Ev.step (j := 559) (s' := ([some (.retAddr 0), some (.ref 0), some (.ref 69), some (.ref 87), some (.int z), a5, a6], [.int z, .retAddr 0, .ref 69], (m + 8, k + 138), hp125)) rfl rfl ?_
  refine bs_lit (k := 1) rfl rfl fun z128 hz128 => ?_
  refine bs_add rfl (by omega) (by omega) fun z129 hz129 => ?_
  refine ls_sld rfl (by omega) (by omega) ?_
  refine (show Ev _ 562 ([some (.retAddr 0), some (.ref 0), some (.ref 69), some (.ref 87), some (.int z), a5, a6], [.int (xs z129.toNatClampNeg), .ref 69], (m + 8, k + 138), hp125) _ from ?_)
  refine Ev.step (j := 563) (s' := ([some (.retAddr 0), some (.ref 0), some (.ref 69), some (.ref 87), some (.int z), a5, a6], [.retAddr 0, .int (xs z129.toNatClampNeg), .ref 69], (m + 8, k + 138), hp125)) rfl rfl ?_
  refine Ev.step (j := 565) (s' := ([some (.retAddr 0), some (.ref 0), some (.ref 69), some (.ref 87), some (.int z), a5, a6], [.int z, .retAddr 0, .int (xs z129.toNatClampNeg), .ref 69], (m + 8, k + 138), hp125)) rfl rfl ?_
  refine bs_lit (k := 2) rfl rfl fun z130 hz130 => ?_
  refine bs_add rfl (by omega) (by omega) fun z131 hz131 => ?_
  refine ls_sld rfl (by omega) (by omega) ?_
  refine (show Ev _ 568 ([some (.retAddr 0), some (.ref 0), some (.ref 69), some (.ref 87), some (.int z), a5, a6], [.int (xs z131.toNatClampNeg), .int (xs z129.toNatClampNeg), .ref 69], (m + 8, k + 138), hp125) _ from ?_)
  refine Ev.step (j := 569) (s' := ([some (.retAddr 0), some (.ref 0), some (.ref 69), some (.ref 87), some (.int z), a5, a6], [.retAddr 0, .int (xs z131.toNatClampNeg), .int (xs z129.toNatClampNeg), .ref 69], (m + 8, k + 138), hp125)) rfl rfl ?_
  refine Ev.step (j := 571) (s' := ([some (.retAddr 0), some (.ref 0), some (.ref 69), some (.ref 87), some (.int z), a5, a6], [.int z, .retAddr 0, .int (xs z131.toNatClampNeg), .int (xs z129.toNatClampNeg), .ref 69], (m + 8, k + 138), hp125)) rfl rfl ?_
  refine bs_lit (k := 3) rfl rfl fun z132 hz132 => ?_
  refine bs_add rfl (by omega) (by omega) fun z133 hz133 => ?_
  refine ls_sld rfl (by omega) (by omega) ?_
  refine (show Ev _ 574 ([some (.retAddr 0), some (.ref 0), some (.ref 69), some (.ref 87), some (.int z), a5, a6], [.int (xs z133.toNatClampNeg), .int (xs z131.toNatClampNeg), .int (xs z129.toNatClampNeg), .ref 69], (m + 8, k + 138), hp125) _ from ?_)
  refine bs_call (K := kq_X11_hoard_h) [.ref 69, .int (xs z129.toNatClampNeg), .int (xs z131.toNatClampNeg), .int (xs z133.toNatClampNeg)] [] rfl ct_X11_hoard_h Hhp125 rfl rfl rfl (bs_rcv (g := 11) Hhp125 (bs_R.uq Hhp125 (g := 11) rfl) (by decide) rfl) (ls_room (Nat.le_of_ble_eq_true rfl) (by omega) (by omega)) ?_ (sf_S_nil) fun r135 hp134 thp134 Hhp134 fhp134 ahp134 php134 => ?_
  · intro q k h
    match q, h with
    | 0, h => cases h; exact bs_jR (bs_R.uq Hhp125 (g := 11) rfl)
    | 1, h => cases h; exact sf_j0
    | 2, h => cases h; exact sf_j0
    | 3, h => cases h; exact sf_j0
    | q + 4, h => cases h
  obtain ⟨z136, rfl⟩ := bs_anI ahp134
  refine (show Ev _ 577 ([some (.retAddr 0), some (.ref 0), some (.ref 69), some (.ref 87), some (.int z), a5, a6], [.int z136], (m + 8 + 0, k + 138 + 0), hp134) _ from ?_)
  refine Ev.step (j := 578) (s' := ([some (.retAddr 0), some (.ref 0), some (.ref 69), some (.ref 87), some (.int z), a5, a6], [], (m + 8 + 0, k + 138 + 0), hp134)) rfl rfl ?_
  refine Ev.step (j := 1440) (s' := ([some (.retAddr 0), some (.ref 0), some (.ref 69), some (.ref 87), some (.int z), a5, a6], [], (m + 8 + 0, k + 138 + 0), hp134)) rfl rfl ?_
  exact K _ _ _ _ _ _ Hhp134 True.intro (by omega) (by omega)
set_option maxRecDepth 100000 in
set_option maxHeartbeats 4000000 in
theorem op_bare {xs : Nat → Int32} {n : Nat} {z : Int32} {a5 a6 : Option Value} {m k : Nat} {hp : ab_H} {t : Nat → Nat} {Q : ab_O → Prop} (H : sf_h t hp) (hs : lw_eq hp) (hz0 : 0 ≤ z.toInt) (hz1 : z.toInt + 6 ≤ n) (hn : n ≤ 3072) (hm : m + 21 ≤ 601024) (hk : k + 410 ≤ 7293034) (K : lw_K xs n z m k Q) : Ev (LT xs n) 581 ([some (.retAddr 0), some (.ref 0), some (.ref 69), some (.ref 87), some (.int z), a5, a6], [], (m, k), hp) Q := by
  refine Ev.step (j := 582) (s' := ([some (.retAddr 0), some (.ref 0), some (.ref 69), some (.ref 87), some (.int z), a5, a6], [.ref 0], (m, k), hp)) rfl rfl ?_
  refine Ev.step (j := 583) (s' := ([some (.retAddr 0), some (.ref 0), some (.ref 69), some (.ref 87), some (.int z), a5, a6], [.retAddr 0, .ref 0], (m, k), hp)) rfl rfl ?_
  refine Ev.step (j := 585) (s' := ([some (.retAddr 0), some (.ref 0), some (.ref 69), some (.ref 87), some (.int z), a5, a6], [.int z, .retAddr 0, .ref 0], (m, k), hp)) rfl rfl ?_
  refine bs_lit (k := 1) rfl rfl fun z137 hz137 => ?_
  refine bs_add rfl (by omega) (by omega) fun z138 hz138 => ?_
  refine ls_sld rfl (by omega) (by omega) ?_
  refine (show Ev _ 588 ([some (.retAddr 0), some (.ref 0), some (.ref 69), some (.ref 87), some (.int z), a5, a6], [.int (xs z138.toNatClampNeg), .ref 0], (m, k), hp) _ from ?_)
  refine Ev.step (j := 589) (s' := ([some (.retAddr 0), some (.ref 0), some (.ref 69), some (.ref 87), some (.int z), a5, a6], [.retAddr 0, .int (xs z138.toNatClampNeg), .ref 0], (m, k), hp)) rfl rfl ?_
  refine Ev.step (j := 591) (s' := ([some (.retAddr 0), some (.ref 0), some (.ref 69), some (.ref 87), some (.int z), a5, a6], [.int z, .retAddr 0, .int (xs z138.toNatClampNeg), .ref 0], (m, k), hp)) rfl rfl ?_
  refine bs_lit (k := 2) rfl rfl fun z139 hz139 => ?_
  refine bs_add rfl (by omega) (by omega) fun z140 hz140 => ?_
  refine ls_sld rfl (by omega) (by omega) ?_
  refine (show Ev _ 594 ([some (.retAddr 0), some (.ref 0), some (.ref 69), some (.ref 87), some (.int z), a5, a6], [.int (xs z140.toNatClampNeg), .int (xs z138.toNatClampNeg), .ref 0], (m, k), hp) _ from ?_)
  refine Ev.step (j := 595) (s' := ([some (.retAddr 0), some (.ref 0), some (.ref 69), some (.ref 87), some (.int z), a5, a6], [.retAddr 0, .int (xs z140.toNatClampNeg), .int (xs z138.toNatClampNeg), .ref 0], (m, k), hp)) rfl rfl ?_
  refine Ev.step (j := 597) (s' := ([some (.retAddr 0), some (.ref 0), some (.ref 69), some (.ref 87), some (.int z), a5, a6], [.int z, .retAddr 0, .int (xs z140.toNatClampNeg), .int (xs z138.toNatClampNeg), .ref 0], (m, k), hp)) rfl rfl ?_
  refine bs_lit (k := 3) rfl rfl fun z141 hz141 => ?_
  refine bs_add rfl (by omega) (by omega) fun z142 hz142 => ?_
  refine ls_sld rfl (by omega) (by omega) ?_
  refine (show Ev _ 600 ([some (.retAddr 0), some (.ref 0), some (.ref 69), some (.ref 87), some (.int z), a5, a6], [.int (xs z142.toNatClampNeg), .int (xs z140.toNatClampNeg), .int (xs z138.toNatClampNeg), .ref 0], (m, k), hp) _ from ?_)
  refine bs_call (K := kq_X10_bare_7e6f69) [.ref 0, .int (xs z138.toNatClampNeg), .int (xs z140.toNatClampNeg), .int (xs z142.toNatClampNeg)] [] rfl ct_X10_bare_7e6f69 H rfl rfl rfl (bs_rcv (g := 10) H (bs_R.uq H (g := 10) rfl) (by decide) rfl) (ls_room (Nat.le_of_ble_eq_true rfl) (by omega) (by omega)) ?_ (sf_S_nil) fun r144 hp143 thp143 Hhp143 fhp143 ahp143 php143 => ?_
  · intro q k h
    match q, h with
    | 0, h => cases h; exact bs_jR (bs_R.uq H (g := 10) rfl)
    | 1, h => cases h; exact sf_j0
    | 2, h => cases h; exact sf_j0
    | 3, h => cases h; exact sf_j0
    | q + 4, h => cases h
  obtain ⟨z145, rfl⟩ := bs_anI ahp143
  refine (show Ev _ 603 ([some (.retAddr 0), some (.ref 0), some (.ref 69), some (.ref 87), some (.int z), a5, a6], [.int z145], (m + 8, k + 138), hp143) _ from ?_)
  refine Ev.step (j := 604) (s' := ([some (.retAddr 0), some (.ref 0), some (.ref 69), some (.ref 87), some (.int z), a5, a6], [], (m + 8, k + 138), hp143)) rfl rfl ?_
  refine Ev.step (j := 605) (s' := ([some (.retAddr 0), some (.ref 0), some (.ref 69), some (.ref 87), some (.int z), a5, a6], [.ref 69], (m + 8, k + 138), hp143)) rfl rfl ?_
  refine Ev.step (j := 606) (s' := ([some (.retAddr 0), some (.ref 0), some (.ref 69), some (.ref 87), some (.int z), a5, a6], [.retAddr 0, .ref 69], (m + 8, k + 138), hp143)) rfl rfl ?_
  refine Ev.step (j := 608) (s' := ([some (.retAddr 0), some (.ref 0), some (.ref 69), some (.ref 87), some (.int z), a5, a6], [.int z, .retAddr 0, .ref 69], (m + 8, k + 138), hp143)) rfl rfl ?_
  refine bs_lit (k := 1) rfl rfl fun z146 hz146 => ?_
  refine bs_add rfl (by omega) (by omega) fun z147 hz147 => ?_
  refine ls_sld rfl (by omega) (by omega) ?_
  refine (show Ev _ 611 ([some (.retAddr 0), some (.ref 0), some (.ref 69), some (.ref 87), some (.int z), a5, a6], [.int (xs z147.toNatClampNeg), .ref 69], (m + 8, k + 138), hp143) _ from ?_)
  refine Ev.step (j := 612) (s' := ([some (.retAddr 0), some (.ref 0), some (.ref 69), some (.ref 87), some (.int z), a5, a6], [.retAddr 0, .int (xs z147.toNatClampNeg), .ref 69], (m + 8, k + 138), hp143)) rfl rfl ?_
  refine Ev.step (j := 614) (s' := ([some (.retAddr 0), some (.ref 0), some (.ref 69), some (.ref 87), some (.int z), a5, a6], [.int z, .retAddr 0, .int (xs z147.toNatClampNeg), .ref 69], (m + 8, k + 138), hp143)) rfl rfl ?_
  refine bs_lit (k := 2) rfl rfl fun z148 hz148 => ?_
  refine bs_add rfl (by omega) (by omega) fun z149 hz149 => ?_
  refine ls_sld rfl (by omega) (by omega) ?_
  refine (show Ev _ 617 ([some (.retAddr 0), some (.ref 0), some (.ref 69), some (.ref 87), some (.int z), a5, a6], [.int (xs z149.toNatClampNeg), .int (xs z147.toNatClampNeg), .ref 69], (m + 8, k + 138), hp143) _ from ?_)
  refine Ev.step (j := 618) (s' := ([some (.retAddr 0), some (.ref 0), some (.ref 69), some (.ref 87), some (.int z), a5, a6], [.retAddr 0, .int (xs z149.toNatClampNeg), .int (xs z147.toNatClampNeg), .ref 69], (m + 8, k + 138), hp143)) rfl rfl ?_
  refine Ev.step (j := 620) (s' := ([some (.retAddr 0), some (.ref 0), some (.ref 69), some (.ref 87), some (.int z), a5, a6], [.int z, .retAddr 0, .int (xs z149.toNatClampNeg), .int (xs z147.toNatClampNeg), .ref 69], (m + 8, k + 138), hp143)) rfl rfl ?_
  refine bs_lit (k := 3) rfl rfl fun z150 hz150 => ?_
  refine bs_add rfl (by omega) (by omega) fun z151 hz151 => ?_
  refine ls_sld rfl (by omega) (by omega) ?_
  refine (show Ev _ 623 ([some (.retAddr 0), some (.ref 0), some (.ref 69), some (.ref 87), some (.int z), a5, a6], [.int (xs z151.toNatClampNeg), .int (xs z149.toNatClampNeg), .int (xs z147.toNatClampNeg), .ref 69], (m + 8, k + 138), hp143) _ from ?_)
  refine bs_call (K := kq_X11_bare_h) [.ref 69, .int (xs z147.toNatClampNeg), .int (xs z149.toNatClampNeg), .int (xs z151.toNatClampNeg)] [] rfl ct_X11_bare_h Hhp143 rfl rfl rfl (bs_rcv (g := 11) Hhp143 (bs_R.uq Hhp143 (g := 11) rfl) (by decide) rfl) (ls_room (Nat.le_of_ble_eq_true rfl) (by omega) (by omega)) ?_ (sf_S_nil) fun r153 hp152 thp152 Hhp152 fhp152 ahp152 php152 => ?_
  · intro q k h
    match q, h with
    | 0, h => cases h; exact bs_jR (bs_R.uq Hhp143 (g := 11) rfl)
    | 1, h => cases h; exact sf_j0
    | 2, h => cases h; exact sf_j0
    | 3, h => cases h; exact sf_j0
    | q + 4, h => cases h
  obtain ⟨z154, rfl⟩ := bs_anI ahp152
  refine (show Ev _ 626 ([some (.retAddr 0), some (.ref 0), some (.ref 69), some (.ref 87), some (.int z), a5, a6], [.int z154], (m + 8 + 0, k + 138 + 0), hp152) _ from ?_)
  refine Ev.step (j := 627) (s' := ([some (.retAddr 0), some (.ref 0), some (.ref 69), some (.ref 87), some (.int z), a5, a6], [], (m + 8 + 0, k + 138 + 0), hp152)) rfl rfl ?_
  refine Ev.step (j := 1440) (s' := ([some (.retAddr 0), some (.ref 0), some (.ref 69), some (.ref 87), some (.int z), a5, a6], [], (m + 8 + 0, k + 138 + 0), hp152)) rfl rfl ?_
  exact K _ _ _ _ _ _ Hhp152 True.intro (by omega) (by omega)
set_option maxRecDepth 100000 in
set_option maxHeartbeats 4000000 in
theorem op_waste {xs : Nat → Int32} {n : Nat} {z : Int32} {a5 a6 : Option Value} {m k : Nat} {hp : ab_H} {t : Nat → Nat} {Q : ab_O → Prop} (H : sf_h t hp) (hs : lw_eq hp) (hz0 : 0 ≤ z.toInt) (hz1 : z.toInt + 6 ≤ n) (hn : n ≤ 3072) (hm : m + 21 ≤ 601024) (hk : k + 410 ≤ 7293034) (K : lw_K xs n z m k Q) : Ev (LT xs n) 630 ([some (.retAddr 0), some (.ref 0), some (.ref 69), some (.ref 87), some (.int z), a5, a6], [], (m, k), hp) Q := by
  refine Ev.step (j := 631) (s' := ([some (.retAddr 0), some (.ref 0), some (.ref 69), some (.ref 87), some (.int z), a5, a6], [.ref 0], (m, k), hp)) rfl rfl ?_
  refine Ev.step (j := 632) (s' := ([some (.retAddr 0), some (.ref 0), some (.ref 69), some (.ref 87), some (.int z), a5, a6], [.retAddr 0, .ref 0], (m, k), hp)) rfl rfl ?_
  refine Ev.step (j := 634) (s' := ([some (.retAddr 0), some (.ref 0), some (.ref 69), some (.ref 87), some (.int z), a5, a6], [.int z, .retAddr 0, .ref 0], (m, k), hp)) rfl rfl ?_
  refine bs_lit (k := 1) rfl rfl fun z155 hz155 => ?_
  refine bs_add rfl (by omega) (by omega) fun z156 hz156 => ?_
  refine ls_sld rfl (by omega) (by omega) ?_
  refine (show Ev _ 637 ([some (.retAddr 0), some (.ref 0), some (.ref 69), some (.ref 87), some (.int z), a5, a6], [.int (xs z156.toNatClampNeg), .ref 0], (m, k), hp) _ from ?_)
  refine Ev.step (j := 638) (s' := ([some (.retAddr 0), some (.ref 0), some (.ref 69), some (.ref 87), some (.int z), a5, a6], [.retAddr 0, .int (xs z156.toNatClampNeg), .ref 0], (m, k), hp)) rfl rfl ?_
  refine Ev.step (j := 640) (s' := ([some (.retAddr 0), some (.ref 0), some (.ref 69), some (.ref 87), some (.int z), a5, a6], [.int z, .retAddr 0, .int (xs z156.toNatClampNeg), .ref 0], (m, k), hp)) rfl rfl ?_
  refine bs_lit (k := 2) rfl rfl fun z157 hz157 => ?_
  refine bs_add rfl (by omega) (by omega) fun z158 hz158 => ?_
  refine ls_sld rfl (by omega) (by omega) ?_
  refine (show Ev _ 643 ([some (.retAddr 0), some (.ref 0), some (.ref 69), some (.ref 87), some (.int z), a5, a6], [.int (xs z158.toNatClampNeg), .int (xs z156.toNatClampNeg), .ref 0], (m, k), hp) _ from ?_)
  refine Ev.step (j := 644) (s' := ([some (.retAddr 0), some (.ref 0), some (.ref 69), some (.ref 87), some (.int z), a5, a6], [.retAddr 0, .int (xs z158.toNatClampNeg), .int (xs z156.toNatClampNeg), .ref 0], (m, k), hp)) rfl rfl ?_
  refine Ev.step (j := 646) (s' := ([some (.retAddr 0), some (.ref 0), some (.ref 69), some (.ref 87), some (.int z), a5, a6], [.int z, .retAddr 0, .int (xs z158.toNatClampNeg), .int (xs z156.toNatClampNeg), .ref 0], (m, k), hp)) rfl rfl ?_
  refine bs_lit (k := 3) rfl rfl fun z159 hz159 => ?_
  refine bs_add rfl (by omega) (by omega) fun z160 hz160 => ?_
  refine ls_sld rfl (by omega) (by omega) ?_
  refine (show Ev _ 649 ([some (.retAddr 0), some (.ref 0), some (.ref 69), some (.ref 87), some (.int z), a5, a6], [.int (xs z160.toNatClampNeg), .int (xs z158.toNatClampNeg), .int (xs z156.toNatClampNeg), .ref 0], (m, k), hp) _ from ?_)
  refine bs_call (K := kq_X10_waste_7e6f69) [.ref 0, .int (xs z156.toNatClampNeg), .int (xs z158.toNatClampNeg), .int (xs z160.toNatClampNeg)] [] rfl ct_X10_waste_7e6f69 H rfl rfl rfl (bs_rcv (g := 10) H (bs_R.uq H (g := 10) rfl) (by decide) rfl) (ls_room (Nat.le_of_ble_eq_true rfl) (by omega) (by omega)) ?_ (sf_S_nil) fun r162 hp161 thp161 Hhp161 fhp161 ahp161 php161 => ?_
  · intro q k h
    match q, h with
    | 0, h => cases h; exact bs_jR (bs_R.uq H (g := 10) rfl)
    | 1, h => cases h; exact sf_j0
    | 2, h => cases h; exact sf_j0
    | 3, h => cases h; exact sf_j0
    | q + 4, h => cases h
  obtain ⟨z163, rfl⟩ := bs_anI ahp161
  refine (show Ev _ 652 ([some (.retAddr 0), some (.ref 0), some (.ref 69), some (.ref 87), some (.int z), a5, a6], [.int z163], (m + 8, k + 138), hp161) _ from ?_)
  refine Ev.step (j := 653) (s' := ([some (.retAddr 0), some (.ref 0), some (.ref 69), some (.ref 87), some (.int z), a5, a6], [], (m + 8, k + 138), hp161)) rfl rfl ?_
  refine Ev.step (j := 654) (s' := ([some (.retAddr 0), some (.ref 0), some (.ref 69), some (.ref 87), some (.int z), a5, a6], [.ref 69], (m + 8, k + 138), hp161)) rfl rfl ?_
  refine Ev.step (j := 655) (s' := ([some (.retAddr 0), some (.ref 0), some (.ref 69), some (.ref 87), some (.int z), a5, a6], [.retAddr 0, .ref 69], (m + 8, k + 138), hp161)) rfl rfl ?_
  refine Ev.step (j := 657) (s' := ([some (.retAddr 0), some (.ref 0), some (.ref 69), some (.ref 87), some (.int z), a5, a6], [.int z, .retAddr 0, .ref 69], (m + 8, k + 138), hp161)) rfl rfl ?_
  refine bs_lit (k := 1) rfl rfl fun z164 hz164 => ?_
  refine bs_add rfl (by omega) (by omega) fun z165 hz165 => ?_
  refine ls_sld rfl (by omega) (by omega) ?_
  refine (show Ev _ 660 ([some (.retAddr 0), some (.ref 0), some (.ref 69), some (.ref 87), some (.int z), a5, a6], [.int (xs z165.toNatClampNeg), .ref 69], (m + 8, k + 138), hp161) _ from ?_)
  refine Ev.step (j := 661) (s' := ([some (.retAddr 0), some (.ref 0), some (.ref 69), some (.ref 87), some (.int z), a5, a6], [.retAddr 0, .int (xs z165.toNatClampNeg), .ref 69], (m + 8, k + 138), hp161)) rfl rfl ?_
  refine Ev.step (j := 663) (s' := ([some (.retAddr 0), some (.ref 0), some (.ref 69), some (.ref 87), some (.int z), a5, a6], [.int z, .retAddr 0, .int (xs z165.toNatClampNeg), .ref 69], (m + 8, k + 138), hp161)) rfl rfl ?_
  refine bs_lit (k := 2) rfl rfl fun z166 hz166 => ?_
  refine bs_add rfl (by omega) (by omega) fun z167 hz167 => ?_
  refine ls_sld rfl (by omega) (by omega) ?_
  refine (show Ev _ 666 ([some (.retAddr 0), some (.ref 0), some (.ref 69), some (.ref 87), some (.int z), a5, a6], [.int (xs z167.toNatClampNeg), .int (xs z165.toNatClampNeg), .ref 69], (m + 8, k + 138), hp161) _ from ?_)
  refine Ev.step (j := 667) (s' := ([some (.retAddr 0), some (.ref 0), some (.ref 69), some (.ref 87), some (.int z), a5, a6], [.retAddr 0, .int (xs z167.toNatClampNeg), .int (xs z165.toNatClampNeg), .ref 69], (m + 8, k + 138), hp161)) rfl rfl ?_
  refine Ev.step (j := 669) (s' := ([some (.retAddr 0), some (.ref 0), some (.ref 69), some (.ref 87), some (.int z), a5, a6], [.int z, .retAddr 0, .int (xs z167.toNatClampNeg), .int (xs z165.toNatClampNeg), .ref 69], (m + 8, k + 138), hp161)) rfl rfl ?_
  refine bs_lit (k := 3) rfl rfl fun z168 hz168 => ?_
  refine bs_add rfl (by omega) (by omega) fun z169 hz169 => ?_
  refine ls_sld rfl (by omega) (by omega) ?_
  refine (show Ev _ 672 ([some (.retAddr 0), some (.ref 0), some (.ref 69), some (.ref 87), some (.int z), a5, a6], [.int (xs z169.toNatClampNeg), .int (xs z167.toNatClampNeg), .int (xs z165.toNatClampNeg), .ref 69], (m + 8, k + 138), hp161) _ from ?_)
  refine bs_call (K := kq_X11_waste_h) [.ref 69, .int (xs z165.toNatClampNeg), .int (xs z167.toNatClampNeg), .int (xs z169.toNatClampNeg)] [] rfl ct_X11_waste_h Hhp161 rfl rfl rfl (bs_rcv (g := 11) Hhp161 (bs_R.uq Hhp161 (g := 11) rfl) (by decide) rfl) (ls_room (Nat.le_of_ble_eq_true rfl) (by omega) (by omega)) ?_ (sf_S_nil) fun r171 hp170 thp170 Hhp170 fhp170 ahp170 php170 => ?_
  · intro q k h
    match q, h with
    | 0, h => cases h; exact bs_jR (bs_R.uq Hhp161 (g := 11) rfl)
    | 1, h => cases h; exact sf_j0
    | 2, h => cases h; exact sf_j0
    | 3, h => cases h; exact sf_j0
    | q + 4, h => cases h
  obtain ⟨z172, rfl⟩ := bs_anI ahp170
  refine (show Ev _ 675 ([some (.retAddr 0), some (.ref 0), some (.ref 69), some (.ref 87), some (.int z), a5, a6], [.int z172], (m + 8 + 0, k + 138 + 0), hp170) _ from ?_)
  refine Ev.step (j := 676) (s' := ([some (.retAddr 0), some (.ref 0), some (.ref 69), some (.ref 87), some (.int z), a5, a6], [], (m + 8 + 0, k + 138 + 0), hp170)) rfl rfl ?_
  refine Ev.step (j := 1440) (s' := ([some (.retAddr 0), some (.ref 0), some (.ref 69), some (.ref 87), some (.int z), a5, a6], [], (m + 8 + 0, k + 138 + 0), hp170)) rfl rfl ?_
  exact K _ _ _ _ _ _ Hhp170 True.intro (by omega) (by omega)
set_option maxRecDepth 100000 in
set_option maxHeartbeats 4000000 in
theorem op_die {xs : Nat → Int32} {n : Nat} {z : Int32} {a5 a6 : Option Value} {m k : Nat} {hp : ab_H} {t : Nat → Nat} {Q : ab_O → Prop} (H : sf_h t hp) (hs : lw_eq hp) (hz0 : 0 ≤ z.toInt) (hz1 : z.toInt + 6 ≤ n) (hn : n ≤ 3072) (hm : m + 21 ≤ 601024) (hk : k + 410 ≤ 7293034) (K : lw_K xs n z m k Q) : Ev (LT xs n) 679 ([some (.retAddr 0), some (.ref 0), some (.ref 69), some (.ref 87), some (.int z), a5, a6], [], (m, k), hp) Q := by
  refine Ev.step (j := 680) (s' := ([some (.retAddr 0), some (.ref 0), some (.ref 69), some (.ref 87), some (.int z), a5, a6], [.ref 0], (m, k), hp)) rfl rfl ?_
  refine Ev.step (j := 681) (s' := ([some (.retAddr 0), some (.ref 0), some (.ref 69), some (.ref 87), some (.int z), a5, a6], [.retAddr 0, .ref 0], (m, k), hp)) rfl rfl ?_
  refine Ev.step (j := 683) (s' := ([some (.retAddr 0), some (.ref 0), some (.ref 69), some (.ref 87), some (.int z), a5, a6], [.int z, .retAddr 0, .ref 0], (m, k), hp)) rfl rfl ?_
  refine bs_lit (k := 1) rfl rfl fun z173 hz173 => ?_
  refine bs_add rfl (by omega) (by omega) fun z174 hz174 => ?_
  refine ls_sld rfl (by omega) (by omega) ?_
  refine (show Ev _ 686 ([some (.retAddr 0), some (.ref 0), some (.ref 69), some (.ref 87), some (.int z), a5, a6], [.int (xs z174.toNatClampNeg), .ref 0], (m, k), hp) _ from ?_)
  refine bs_call (K := kq_X10_die_0df2a5) [.ref 0, .int (xs z174.toNatClampNeg)] [] rfl ct_X10_die_0df2a5 H rfl rfl rfl (bs_rcv (g := 10) H (bs_R.uq H (g := 10) rfl) (by decide) rfl) (ls_room (Nat.le_of_ble_eq_true rfl) (by omega) (by omega)) ?_ (sf_S_nil) fun r176 hp175 thp175 Hhp175 fhp175 ahp175 php175 => ?_
  · intro q k h
    match q, h with
    | 0, h => cases h; exact bs_jR (bs_R.uq H (g := 10) rfl)
    | 1, h => cases h; exact sf_j0
    | q + 2, h => cases h
  obtain ⟨z177, rfl⟩ := bs_anI ahp175
  refine (show Ev _ 689 ([some (.retAddr 0), some (.ref 0), some (.ref 69), some (.ref 87), some (.int z), a5, a6], [.int z177], (m + 8, k + 138), hp175) _ from ?_)
  refine Ev.step (j := 690) (s' := ([some (.retAddr 0), some (.ref 0), some (.ref 69), some (.ref 87), some (.int z), a5, a6], [], (m + 8, k + 138), hp175)) rfl rfl ?_
  refine Ev.step (j := 691) (s' := ([some (.retAddr 0), some (.ref 0), some (.ref 69), some (.ref 87), some (.int z), a5, a6], [.ref 69], (m + 8, k + 138), hp175)) rfl rfl ?_
  refine Ev.step (j := 692) (s' := ([some (.retAddr 0), some (.ref 0), some (.ref 69), some (.ref 87), some (.int z), a5, a6], [.retAddr 0, .ref 69], (m + 8, k + 138), hp175)) rfl rfl ?_
  refine Ev.step (j := 694) (s' := ([some (.retAddr 0), some (.ref 0), some (.ref 69), some (.ref 87), some (.int z), a5, a6], [.int z, .retAddr 0, .ref 69], (m + 8, k + 138), hp175)) rfl rfl ?_
  refine bs_lit (k := 1) rfl rfl fun z178 hz178 => ?_
  refine bs_add rfl (by omega) (by omega) fun z179 hz179 => ?_
  refine ls_sld rfl (by omega) (by omega) ?_
  refine (show Ev _ 697 ([some (.retAddr 0), some (.ref 0), some (.ref 69), some (.ref 87), some (.int z), a5, a6], [.int (xs z179.toNatClampNeg), .ref 69], (m + 8, k + 138), hp175) _ from ?_)
  refine bs_call (K := kq_X11_die_3d45d6) [.ref 69, .int (xs z179.toNatClampNeg)] [] rfl ct_X11_die_3d45d6 Hhp175 rfl rfl rfl (bs_rcv (g := 11) Hhp175 (bs_R.uq Hhp175 (g := 11) rfl) (by decide) rfl) (ls_room (Nat.le_of_ble_eq_true rfl) (by omega) (by omega)) ?_ (sf_S_nil) fun r181 hp180 thp180 Hhp180 fhp180 ahp180 php180 => ?_
  · intro q k h
    match q, h with
    | 0, h => cases h; exact bs_jR (bs_R.uq Hhp175 (g := 11) rfl)
    | 1, h => cases h; exact sf_j0
    | q + 2, h => cases h
  obtain ⟨z182, rfl⟩ := bs_anI ahp180
  refine (show Ev _ 700 ([some (.retAddr 0), some (.ref 0), some (.ref 69), some (.ref 87), some (.int z), a5, a6], [.int z182], (m + 8 + 0, k + 138 + 0), hp180) _ from ?_)
  refine Ev.step (j := 701) (s' := ([some (.retAddr 0), some (.ref 0), some (.ref 69), some (.ref 87), some (.int z), a5, a6], [], (m + 8 + 0, k + 138 + 0), hp180)) rfl rfl ?_
  refine Ev.step (j := 1440) (s' := ([some (.retAddr 0), some (.ref 0), some (.ref 69), some (.ref 87), some (.int z), a5, a6], [], (m + 8 + 0, k + 138 + 0), hp180)) rfl rfl ?_
  exact K _ _ _ _ _ _ Hhp180 True.intro (by omega) (by omega)
set_option maxRecDepth 100000 in
set_option maxHeartbeats 4000000 in
theorem op_days {xs : Nat → Int32} {n : Nat} {z : Int32} {a5 a6 : Option Value} {m k : Nat} {hp : ab_H} {t : Nat → Nat} {Q : ab_O → Prop} (H : sf_h t hp) (hs : lw_eq hp) (hz0 : 0 ≤ z.toInt) (hz1 : z.toInt + 6 ≤ n) (hn : n ≤ 3072) (hm : m + 21 ≤ 601024) (hk : k + 410 ≤ 7293034) (K : lw_K xs n z m k Q) : Ev (LT xs n) 704 ([some (.retAddr 0), some (.ref 0), some (.ref 69), some (.ref 87), some (.int z), a5, a6], [], (m, k), hp) Q := by
  refine Ev.step (j := 705) (s' := ([some (.retAddr 0), some (.ref 0), some (.ref 69), some (.ref 87), some (.int z), a5, a6], [.ref 0], (m, k), hp)) rfl rfl ?_
  refine Ev.step (j := 706) (s' := ([some (.retAddr 0), some (.ref 0), some (.ref 69), some (.ref 87), some (.int z), a5, a6], [.retAddr 0, .ref 0], (m, k), hp)) rfl rfl ?_
  refine Ev.step (j := 708) (s' := ([some (.retAddr 0), some (.ref 0), some (.ref 69), some (.ref 87), some (.int z), a5, a6], [.int z, .retAddr 0, .ref 0], (m, k), hp)) rfl rfl ?_
  refine bs_lit (k := 1) rfl rfl fun z183 hz183 => ?_
  refine bs_add rfl (by omega) (by omega) fun z184 hz184 => ?_
  refine ls_sld rfl (by omega) (by omega) ?_
  refine (show Ev _ 711 ([some (.retAddr 0), some (.ref 0), some (.ref 69), some (.ref 87), some (.int z), a5, a6], [.int (xs z184.toNatClampNeg), .ref 0], (m, k), hp) _ from ?_)
  refine bs_call (K := kq_X10_days_0df2a5) [.ref 0, .int (xs z184.toNatClampNeg)] [] rfl ct_X10_days_0df2a5 H rfl rfl rfl (bs_rcv (g := 10) H (bs_R.uq H (g := 10) rfl) (by decide) rfl) (ls_room (Nat.le_of_ble_eq_true rfl) (by omega) (by omega)) ?_ (sf_S_nil) fun r186 hp185 thp185 Hhp185 fhp185 ahp185 php185 => ?_
  · intro q k h
    match q, h with
    | 0, h => cases h; exact bs_jR (bs_R.uq H (g := 10) rfl)
    | 1, h => cases h; exact sf_j0
    | q + 2, h => cases h
  obtain ⟨z187, rfl⟩ := bs_anI ahp185
  refine (show Ev _ 714 ([some (.retAddr 0), some (.ref 0), some (.ref 69), some (.ref 87), some (.int z), a5, a6], [.int z187], (m + 8, k + 138), hp185) _ from ?_)
  refine Ev.step (j := 715) (s' := ([some (.retAddr 0), some (.ref 0), some (.ref 69), some (.ref 87), some (.int z), a5, a6], [], (m + 8, k + 138), hp185)) rfl rfl ?_
  refine Ev.step (j := 716) (s' := ([some (.retAddr 0), some (.ref 0), some (.ref 69), some (.ref 87), some (.int z), a5, a6], [.ref 69], (m + 8, k + 138), hp185)) rfl rfl ?_
  refine Ev.step (j := 717) (s' := ([some (.retAddr 0), some (.ref 0), some (.ref 69), some (.ref 87), some (.int z), a5, a6], [.retAddr 0, .ref 69], (m + 8, k + 138), hp185)) rfl rfl ?_
  refine Ev.step (j := 719) (s' := ([some (.retAddr 0), some (.ref 0), some (.ref 69), some (.ref 87), some (.int z), a5, a6], [.int z, .retAddr 0, .ref 69], (m + 8, k + 138), hp185)) rfl rfl ?_
  refine bs_lit (k := 1) rfl rfl fun z188 hz188 => ?_
  refine bs_add rfl (by omega) (by omega) fun z189 hz189 => ?_
  refine ls_sld rfl (by omega) (by omega) ?_
  refine (show Ev _ 722 ([some (.retAddr 0), some (.ref 0), some (.ref 69), some (.ref 87), some (.int z), a5, a6], [.int (xs z189.toNatClampNeg), .ref 69], (m + 8, k + 138), hp185) _ from ?_)
  refine bs_call (K := kq_X11_days_3d45d6) [.ref 69, .int (xs z189.toNatClampNeg)] [] rfl ct_X11_days_3d45d6 Hhp185 rfl rfl rfl (bs_rcv (g := 11) Hhp185 (bs_R.uq Hhp185 (g := 11) rfl) (by decide) rfl) (ls_room (Nat.le_of_ble_eq_true rfl) (by omega) (by omega)) ?_ (sf_S_nil) fun r191 hp190 thp190 Hhp190 fhp190 ahp190 php190 => ?_
  · intro q k h
    match q, h with
    | 0, h => cases h; exact bs_jR (bs_R.uq Hhp185 (g := 11) rfl)
    | 1, h => cases h; exact sf_j0
    | q + 2, h => cases h
  obtain ⟨z192, rfl⟩ := bs_anI ahp190
  refine (show Ev _ 725 ([some (.retAddr 0), some (.ref 0), some (.ref 69), some (.ref 87), some (.int z), a5, a6], [.int z192], (m + 8 + 0, k + 138 + 0), hp190) _ from ?_)
  refine Ev.step (j := 726) (s' := ([some (.retAddr 0), some (.ref 0), some (.ref 69), some (.ref 87), some (.int z), a5, a6], [], (m + 8 + 0, k + 138 + 0), hp190)) rfl rfl ?_
  refine Ev.step (j := 1440) (s' := ([some (.retAddr 0), some (.ref 0), some (.ref 69), some (.ref 87), some (.int z), a5, a6], [], (m + 8 + 0, k + 138 + 0), hp190)) rfl rfl ?_
  exact K _ _ _ _ _ _ Hhp190 True.intro (by omega) (by omega)
