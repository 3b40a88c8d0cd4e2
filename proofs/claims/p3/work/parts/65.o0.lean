/-! ===== the law: one operation ===== -/
noncomputable def LT (xs : Nat → Int32) (n : Nat) : Nat → Option ab_A := ab_T (LZ_law xs n)
/-- the two tapes are as long as each other -/
def lw_eq (hp : ab_H) : Prop := ∃ v : Int, sf_rd hp 1 1 = some v ∧ sf_rd hp 69 2 = some v
theorem lw_keep {W : List (Nat × Nat × Nat)} {t t' : Nat → Nat} {hp hp' : ab_H} (H : sf_h t hp) (f : sf_fr W t hp t' hp') (h1 : sf_inW W 8 1 = false) (h2 : sf_inW W 11 2 = false) (h : lw_eq hp) : lw_eq hp' := by
  obtain ⟨v, a, b⟩ := h
  obtain ⟨a1, a2⟩ := H.2.2.1 8 1 rfl
  obtain ⟨b1, b2⟩ := H.2.2.1 11 69 rfl
  exact ⟨v, (f.2.2.1 1 a1 1 (by rw [a2]; exact h1)).trans a, (f.2.2.1 69 b1 2 (by rw [b2]; exact h2)).trans b⟩
def lw_K (xs : Nat → Int32) (n : Nat) (z : Int32) (m k : Nat) (Q : ab_O → Prop) : Prop := ∀ (hp' : ab_H) (t' : Nat → Nat) (a5 a6 : Option Value) (m' k' : Nat), sf_h t' hp' → lw_eq hp' → m' ≤ m + 21 → k' ≤ k + 410 → Ev (LT xs n) 1440 ([some (.retAddr 0), some (.ref 0), some (.ref 69), some (.ref 87), some (.int z), a5, a6], [], (m', k'), hp') Q
theorem ls_room {m k mc ms MC MS : Nat} {rest : List Value} (h0 : ab_cats rest ≤ 8) (h1 : m + mc ≤ MC) (h2 : k + ms ≤ MS) : (decide (ab_cats rest ≤ 8) && decide ((m, k).1 + mc ≤ MC) && decide ((m, k).2 + ms ≤ MS)) = true := by
  rw [decide_eq_true h0, decide_eq_true (show (m, k).1 + mc ≤ MC from h1), decide_eq_true (show (m, k).2 + ms ≤ MS from h2)]
  rfl
theorem ls_sld {T : Nat → Option ab_A} {i j n : Nat} {xs : Nat → Int32} {x : Int32} {lo : List (Option Value)} {st : List Value} {u : Nat × Nat} {hp : ab_H} {Q : ab_O → Prop} (hT : T i = some (ab_nx j (ab_sld xs n))) (h0 : 0 ≤ x.toInt) (h1 : x.toInt < n) (h : Ev T j (lo, .int (xs x.toNatClampNeg) :: st, u, hp) Q) : Ev T i (lo, .int x :: .retAddr 0 :: st, u, hp) Q :=
  Ev.nx hT (by show cond (ab_in x n) (some (lo, Value.int (xs x.toNatClampNeg) :: st, u, hp)) none = _; rw [n_in h0 h1]; rfl) h
set_option maxRecDepth 100000 in
set_option maxHeartbeats 4000000 in
theorem op_feed {xs : Nat → Int32} {n : Nat} {z : Int32} {a5 a6 : Option Value} {m k : Nat} {hp : ab_H} {t : Nat → Nat} {Q : ab_O → Prop} (H : sf_h t hp) (hs : lw_eq hp) (hz0 : 0 ≤ z.toInt) (hz1 : z.toInt + 6 ≤ n) (hn : n ≤ 3072) (hm : m + 21 ≤ 601024) (hk : k + 410 ≤ 7293034) (K : lw_K xs n z m k Q) : Ev (LT xs n) 220 ([some (.retAddr 0), some (.ref 0), some (.ref 69), some (.ref 87), some (.int z), a5, a6], [], (m, k), hp) Q := by
  refine Ev.step (j := 221) (s' := ([some (.retAddr 0), some (.ref 0), some (.ref 69), some (.ref 87), some (.int z), a5, a6], [.ref 0], (m, k), hp)) rfl rfl ?_
  refine Ev.step (j := 222) (s' := ([some (.retAddr 0), some (.ref 0), some (.ref 69), some (.ref 87), some (.int z), a5, a6], [.retAddr 0, .ref 0], (m, k), hp)) rfl rfl ?_
  refine Ev.step (j := 224) (s' := ([some (.retAddr 0), some (.ref 0), some (.ref 69), some (.ref 87), some (.int z), a5, a6], [.int z, .retAddr 0, .ref 0], (m, k), hp)) rfl rfl ?_
  refine bs_lit (k := 1) rfl rfl fun z1 hz1 => ?_
  refine bs_add rfl (by omega) (by omega) fun z2 hz2 => ?_
  refine ls_sld rfl (by omega) (by omega) ?_
  refine (show Ev _ 227 ([some (.retAddr 0), some (.ref 0), some (.ref 69), some (.ref 87), some (.int z), a5, a6], [.int (xs z2.toNatClampNeg), .ref 0], (m, k), hp) _ from ?_)
  refine Ev.step (j := 228) (s' := ([some (.retAddr 0), some (.ref 0), some (.ref 69), some (.ref 87), some (.int z), a5, a6], [.retAddr 0, .int (xs z2.toNatClampNeg), .ref 0], (m, k), hp)) rfl rfl ?_
  refine Ev.step (j := 230) (s' := ([some (.retAddr 0), some (.ref 0), some (.ref 69), some (.ref 87), some (.int z), a5, a6], [.int z, .retAddr 0, .int (xs z2.toNatClampNeg), .ref 0], (m, k), hp)) rfl rfl ?_
  refine bs_lit (k := 2) rfl rfl fun z3 hz3 => ?_
  refine bs_add rfl (by omega) (by omega) fun z4 hz4 => ?_
  refine ls_sld rfl (by omega) (by omega) ?_
  refine (show Ev _ 233 ([some (.retAddr 0), some (.ref 0), some (.ref 69), some (.ref 87), some (.int z), a5, a6], [.int (xs z4.toNatClampNeg), .int (xs z2.toNatClampNeg), .ref 0], (m, k), hp) _ from ?_)
  refine Ev.step (j := 234) (s' := ([some (.retAddr 0), some (.ref 0), some (.ref 69), some (.ref 87), some (.int z), a5, a6], [.retAddr 0, .int (xs z4.toNatClampNeg), .int (xs z2.toNatClampNeg), .ref 0], (m, k), hp)) rfl rfl ?_
  refine Ev.step (j := 236) (s' := ([some (.retAddr 0), some (.ref 0), some (.ref 69), some (.ref 87), some (.int z), a5, a6], [.int z, .retAddr 0, .int (xs z4.toNatClampNeg), .int (xs z2.toNatClampNeg), .ref 0], (m, k), hp)) rfl rfl ?_
  refine bs_lit (k := 3) rfl rfl fun z5 hz5 => ?_
  refine bs_add rfl (by omega) (by omega) fun z6 hz6 => ?_
  refine ls_sld rfl (by omega) (by omega) ?_
  refine (show Ev _ 239 ([some (.retAddr 0), some (.ref 0), some (.ref 69), some (.ref 87), some (.int z), a5, a6], [.int (xs z6.toNatClampNeg), .int (xs z4.toNatClampNeg), .int (xs z2.toNatClampNeg), .ref 0], (m, k), hp) _ from ?_)
  refine Ev.step (j := 240) (s' := ([some (.retAddr 0), some (.ref 0), some (.ref 69), some (.ref 87), some (.int z), a5, a6], [.retAddr 0, .int (xs z6.toNatClampNeg), .int (xs z4.toNatClampNeg), .int (xs z2.toNatClampNeg), .ref 0], (m, k), hp)) rfl rfl ?_
  refine Ev.step (j := 242) (s' := ([some (.retAddr 0), some (.ref 0), some (.ref 69), some (.ref 87), some (.int z), a5, a6], [.int z, .retAddr 0, .int (xs z6.toNatClampNeg), .int (xs z4.toNatClampNeg), .int (xs z2.toNatClampNeg), .ref 0], (m, k), hp)) rfl rfl ?_
  refine bs_lit (k := 4) rfl rfl fun z7 hz7 => ?_
  refine bs_add rfl (by omega) (by omega) fun z8 hz8 => ?_
  refine ls_sld rfl (by omega) (by omega) ?_
  refine (show Ev _ 245 ([some (.retAddr 0), some (.ref 0), some (.ref 69), some (.ref 87), some (.int z), a5, a6], [.int (xs z8.toNatClampNeg), .int (xs z6.toNatClampNeg), .int (xs z4.toNatClampNeg), .int (xs z2.toNatClampNeg), .ref 0], (m, k), hp) _ from ?_)
  refine Ev.step (j := 246) (s' := ([some (.retAddr 0), some (.ref 0), some (.ref 69), some (.ref 87), some (.int z), a5, a6], [.retAddr 0, .int (xs z8.toNatClampNeg), .int (xs z6.toNatClampNeg), .int (xs z4.toNatClampNeg), .int (xs z2.toNatClampNeg), .ref 0], (m, k), hp)) rfl rfl ?_
  refine Ev.step (j := 248) (s' := ([some (.retAddr 0), some (.ref 0), some (.ref 69), some (.ref 87), some (.int z), a5, a6], [.int z, .retAddr 0, .int (xs z8.toNatClampNeg), .int (xs z6.toNatClampNeg), .int (xs z4.toNatClampNeg), .int (xs z2.toNatClampNeg), .ref 0], (m, k), hp)) rfl rfl ?_
  refine bs_lit (k := 5) rfl rfl fun z9 hz9 => ?_
  refine bs_add rfl (by omega) (by omega) fun z10 hz10 => ?_
  refine ls_sld rfl (by omega) (by omega) ?_
  refine (show Ev _ 251 ([some (.retAddr 0), some (.ref 0), some (.ref 69), some (.ref 87), some (.int z), a5, a6], [.int (xs z10.toNatClampNeg), .int (xs z8.toNatClampNeg), .int (xs z6.toNatClampNeg), .int (xs z4.toNatClampNeg), .int (xs z2.toNatClampNeg), .ref 0], (m, k), hp) _ from ?_)
  refine bs_callx (K := kq_X10_feed_h) [.ref 0, .int (xs z2.toNatClampNeg), .int (xs z4.toNatClampNeg), .int (xs z6.toNatClampNeg), .int (xs z8.toNatClampNeg), .int (xs z10.toNatClampNeg)] [] rfl ce_X10_feed_h H rfl rfl rfl (bs_rcv (g := 10) H (bs_R.uq H (g := 10) rfl) (by decide) rfl) (ls_room (Nat.le_of_ble_eq_true rfl) (by omega) (by omega)) ?_ (sf_S_nil) fun r12 hp11 thp11 Hhp11 fhp11 ahp11 php11 xhp11 => ?_
  · intro q k h
    match q, h with
    | 0, h => cases h; exact bs_jR (bs_R.uq H (g := 10) rfl)
    | 1, h => cases h; exact sf_j0
    | 2, h => cases h; exact sf_j0
    | 3, h => cases h; exact sf_j0
    | 4, h => cases h; exact sf_j0
    | 5, h => cases h; exact sf_j0
    | q + 6, h => cases h
  obtain ⟨z13, rfl⟩ := bs_anI ahp11
  obtain ⟨v0, hc0, hr0⟩ := hs
  obtain ⟨w1, ew1, ez1, hc1⟩ := xhp11 v0 hc0
  obtain rfl := Value.int.inj (Option.some.inj ew1)
  have hr1 : sf_rd hp11 69 2 = some v0 := (fhp11.2.2.1 _ (bs_R.uq H (g := 11) rfl).1 _ (by rw [(bs_R.uq H (g := 11) (p := 69) rfl).2]; rfl)).trans hr0
  refine (show Ev _ 254 ([some (.retAddr 0), some (.ref 0), some (.ref 69), some (.ref 87), some (.int z), a5, a6], [.int z13], (m + 0, k + 0), hp11) _ from ?_)
  refine Ev.step (j := 255) (s' := ([some (.retAddr 0), some (.ref 0), some (.ref 69), some (.ref 87), some (.int z), a5, a6], [], (m + 0, k + 0), hp11)) rfl rfl ?_
  refine Ev.step (j := 256) (s' := ([some (.retAddr 0), some (.ref 0), some (.ref 69), some (.ref 87), some (.int z), a5, a6], [.ref 69], (m + 0, k + 0), hp11)) rfl rfl ?_
  refine Ev.step (j := 257) (s' := ([some (.retAddr 0), some (.ref 0), some (.ref 69), some (.ref 87), some (.int z), a5, a6], [.retAddr 0, .ref 69], (m + 0, k + 0), hp11)) rfl rfl ?_
  refine Ev.step (j := 259) (s' := ([some (.retAddr 0), some (.ref 0), some (.ref 69), some (.ref 87), some (.int z), a5, a6], [.int z, .retAddr 0, .ref 69], (m + 0, k + 0), hp11)) rfl rfl ?_
  refine bs_lit (k := 1) rfl rfl fun z14 hz14 => ?_
  refine bs_add rfl (by omega) (by omega) fun z15 hz15 => ?_
  refine ls_sld rfl (by omega) (by omega) ?_
  refine (show Ev _ 262 ([some (.retAddr 0), some (.ref 0), some (.ref 69), some (.ref 87), some (.int z), a5, a6], [.int (xs z15.toNatClampNeg), .ref 69], (m + 0, k + 0), hp11) _ from ?_)
  refine Ev.step (j := 263) (s' := ([some (.retAddr 0), some (.ref 0), some (.ref 69), some (.ref 87), some (.int z), a5, a6], [.retAddr 0, .int (xs z15.toNatClampNeg), .ref 69], (m + 0, k + 0), hp11)) rfl rfl ?_
  refine Ev.step (j := 265) (s' := ([some (.retAddr 0), some (.ref 0), some (.ref 69), some (.ref 87), some (.int z), a5, a6], [.int z, .retAddr 0, .int (xs z15.toNatClampNeg), .ref 69], (m + 0, k + 0), hp11)) rfl rfl ?_
  refine bs_lit (k := 2) rfl rfl fun z16 hz16 => ?_
  refine bs_add rfl (by omega) (by omega) fun z17 hz17 => ?_
  refine ls_sld rfl (by omega) (by omega) ?_
  refine (show Ev _ 268 ([some (.retAddr 0), some (.ref 0), some (.ref 69), some (.ref 87), some (.int z), a5, a6], [.int (xs z17.toNatClampNeg), .int (xs z15.toNatClampNeg), .ref 69], (m + 0, k + 0), hp11) _ from ?_)
  refine Ev.step (j := 269) (s' := ([some (.retAddr 0), some (.ref 0), some (.ref 69), some (.ref 87), some (.int z), a5, a6], [.retAddr 0, .int (xs z17.toNatClampNeg), .int (xs z15.toNatClampNeg), .ref 69], (m + 0, k + 0), hp11)) rfl rfl ?_
  refine Ev.step (j := 271) (s' := ([some (.retAddr 0), some (.ref 0), some (.ref 69), some (.ref 87), some (.int z), a5, a6], [.int z, .retAddr 0, .int (xs z17.toNatClampNeg), .int (xs z15.toNatClampNeg), .ref 69], (m + 0, k + 0), hp11)) rfl rfl ?_
  refine bs_lit (k := 3) rfl rfl fun z18 hz18 => ?_
  refine bs_add rfl (by omega) (by omega) fun z19 hz19 => ?_
  refine ls_sld rfl (by omega) (by omega) ?_
  refine (show Ev _ 274 ([some (.retAddr 0), some (.ref 0), some (.ref 69), some (.ref 87), some (.int z), a5, a6], [.int (xs z19.toNatClampNeg), .int (xs z17.toNatClampNeg), .int (xs z15.toNatClampNeg), .ref 69], (m + 0, k + 0), hp11) _ from ?_)
  refine Ev.step (j := 275) (s' := ([some (.retAddr 0), some (.ref 0), some (.ref 69), some (.ref 87), some (.int z), a5, a6], [.retAddr 0, .int (xs z19.toNatClampNeg), .int (xs z17.toNatClampNeg), .int (xs z15.toNatClampNeg), .ref 69], (m + 0, k + 0), hp11)) rfl rfl ?_
  refine Ev.step (j := 277) (s' := ([some (.retAddr 0), some (.ref 0), some (.ref 69), some (.ref 87), some (.int z), a5, a6], [.int z, .retAddr 0, .int (xs z19.toNatClampNeg), .int (xs z17.toNatClampNeg), .int (xs z15.toNatClampNeg), .ref 69], (m + 0, k + 0), hp11)) rfl rfl ?_
  refine bs_lit (k := 4) rfl rfl fun z20 hz20 => ?_
  refine bs_add rfl (by omega) (by omega) fun z21 hz21 => ?_
  refine ls_sld rfl (by omega) (by omega) ?_
  refine (show Ev _ 280 ([some (.retAddr 0), some (.ref 0), some (.ref 69), some (.ref 87), some (.int z), a5, a6], [.int (xs z21.toNatClampNeg), .int (xs z19.toNatClampNeg), .int (xs z17.toNatClampNeg), .int (xs z15.toNatClampNeg), .ref 69], (m + 0, k + 0), hp11) _ from ?_)
  refine Ev.step (j := 281) (s' := ([some (.retAddr 0), some (.ref 0), some (.ref 69), some (.ref 87), some (.int z), a5, a6], [.retAddr 0, .int (xs z21.toNatClampNeg), .int (xs z19.toNatClampNeg), .int (xs z17.toNatClampNeg), .int (xs z15.toNatClampNeg), .ref 69], (m + 0, k + 0), hp11)) rfl rfl ?_
  refine Ev.step (j := 283) (s' := ([some (.retAddr 0), some (.ref 0), some (.ref 69), some (.ref 87), some (.int z), a5, a6], [.int z, .retAddr 0, .int (xs z21.toNatClampNeg), .int (xs z19.toNatClampNeg), .int (xs z17.toNatClampNeg), .int (xs z15.toNatClampNeg), .ref 69], (m + 0, k + 0), hp11)) rfl rfl ?_
  refine bs_lit (k := 5) rfl rfl fun z22 hz22 => ?_
  refine bs_add rfl (by omega) (by omega) fun z23 hz23 => ?_
  refine ls_sld rfl (by omega) (by omega) ?_
  refine (show Ev _ 286 ([some (.retAddr 0), some (.ref 0), some (.ref 69), some (.ref 87), some (.int z), a5, a6], [.int (xs z23.toNatClampNeg), .int (xs z21.toNatClampNeg), .int (xs z19.toNatClampNeg), .int (xs z17.toNatClampNeg), .int (xs z15.toNatClampNeg), .ref 69], (m + 0, k + 0), hp11) _ from ?_)
  refine bs_callx (K := kq_X11_feed_h) [.ref 69, .int (xs z15.toNatClampNeg), .int (xs z17.toNatClampNeg), .int (xs z19.toNatClampNeg), .int (xs z21.toNatClampNeg), .int (xs z23.toNatClampNeg)] [] rfl ce_X11_feed_h Hhp11 rfl rfl rfl (bs_rcv (g := 11) Hhp11 (bs_R.uq Hhp11 (g := 11) rfl) (by decide) rfl) (ls_room (Nat.le_of_ble_eq_true rfl) (by omega) (by omega)) ?_ (sf_S_nil) fun r25 hp24 thp24 Hhp24 fhp24 ahp24 php24 xhp24 => ?_
  · intro q k h
    match q, h with
    | 0, h => cases h; exact bs_jR (bs_R.uq Hhp11 (g := 11) rfl)
    | 1, h => cases h; exact sf_j0
    | 2, h => cases h; exact sf_j0
    | 3, h => cases h; exact sf_j0
    | 4, h => cases h; exact sf_j0
    | 5, h => cases h; exact sf_j0
    | q + 6, h => cases h
  obtain ⟨z26, rfl⟩ := bs_anI ahp24
  obtain ⟨w2, ew2, ez2, hr2⟩ := xhp24 v0 hr1
  obtain rfl := Value.int.inj (Option.some.inj ew2)
  have hc2 := (fhp24.2.2.1 _ (bs_R.uq Hhp11 (g := 8) rfl).1 1 (by rw [(bs_R.uq Hhp11 (g := 8) (p := 1) rfl).2]; rfl)).trans hc1
  have E : lw_eq hp24 := ⟨_, hc2, hr2⟩
  refine (show Ev _ 289 ([some (.retAddr 0), some (.ref 0), some (.ref 69), some (.ref 87), some (.int z), a5, a6], [.int z26], (m + 0 + 0, k + 0 + 0), hp24) _ from ?_)
  refine Ev.step (j := 290) (s' := ([some (.retAddr 0), some (.ref 0), some (.ref 69), some (.ref 87), some (.int z), a5, a6], [], (m + 0 + 0, k + 0 + 0), hp24)) rfl rfl ?_
  refine Ev.step (j := 1440) (s' := ([some (.retAddr 0), some (.ref 0), some (.ref 69), some (.ref 87), some (.int z), a5, a6], [], (m + 0 + 0, k + 0 + 0), hp24)) rfl rfl ?_
  exact K _ _ _ _ _ _ Hhp24 E (by omega) (by omega)
set_option maxRecDepth 100000 in
set_option maxHeartbeats 4000000 in
theorem op_end {xs : Nat → Int32} {n : Nat} {z : Int32} {a5 a6 : Option Value} {m k : Nat} {hp : ab_H} {t : Nat → Nat} {Q : ab_O → Prop} (H : sf_h t hp) (hs : lw_eq hp) (hz0 : 0 ≤ z.toInt) (hz1 : z.toInt + 6 ≤ n) (hn : n ≤ 3072) (hm : m + 21 ≤ 601024) (hk : k + 410 ≤ 7293034) (K : lw_K xs n z m k Q) : Ev (LT xs n) 293 ([some (.retAddr 0), some (.ref 0), some (.ref 69), some (.ref 87), some (.int z), a5, a6], [], (m, k), hp) Q := by
  refine Ev.step (j := 294) (s' := ([some (.retAddr 0), some (.ref 0), some (.ref 69), some (.ref 87), some (.int z), a5, a6], [.ref 0], (m, k), hp)) rfl rfl ?_
  refine Ev.step (j := 295) (s' := ([some (.retAddr 0), some (.ref 0), some (.ref 69), some (.ref 87), some (.int z), a5, a6], [.retAddr 0, .ref 0], (m, k), hp)) rfl rfl ?_
  refine Ev.step (j := 297) (s' := ([some (.retAddr 0), some (.ref 0), some (.ref 69), some (.ref 87), some (.int z), a5, a6], [.int z, .retAddr 0, .ref 0], (m, k), hp)) rfl rfl ?_
  refine bs_lit (k := 1) rfl rfl fun z27 hz27 => ?_
  refine bs_add rfl (by omega) (by omega) fun z28 hz28 => ?_
  refine ls_sld rfl (by omega) (by omega) ?_
  refine (show Ev _ 300 ([some (.retAddr 0), some (.ref 0), some (.ref 69), some (.ref 87), some (.int z), a5, a6], [.int (xs z28.toNatClampNeg), .ref 0], (m, k), hp) _ from ?_)
  refine bs_callx (K := kq_X10_end_r) [.ref 0, .int (xs z28.toNatClampNeg)] [] rfl ce_X10_end_r H rfl rfl rfl (bs_rcv (g := 10) H (bs_R.uq H (g := 10) rfl) (by decide) rfl) (ls_room (Nat.le_of_ble_eq_true rfl) (by omega) (by omega)) ?_ (sf_S_nil) fun r30 hp29 thp29 Hhp29 fhp29 ahp29 php29 xhp29 => ?_
  · intro q k h
    match q, h with
    | 0, h => cases h; exact bs_jR (bs_R.uq H (g := 10) rfl)
    | 1, h => cases h; exact sf_j0
    | q + 2, h => cases h
  obtain ⟨z31, rfl⟩ := bs_anI ahp29
  obtain ⟨v0, hc0, hr0⟩ := hs
  obtain ⟨hc1, w1, ew1, ez1⟩ := xhp29 v0 _ rfl hc0
  obtain rfl := Value.int.inj (Option.some.inj ew1)
  have hr1 : sf_rd hp29 69 2 = some v0 := (fhp29.2.2.1 _ (bs_R.uq H (g := 11) rfl).1 _ (by rw [(bs_R.uq H (g := 11) (p := 69) rfl).2]; rfl)).trans hr0
  refine (show Ev _ 303 ([some (.retAddr 0), some (.ref 0), some (.ref 69), some (.ref 87), some (.int z), a5, a6], [.int z31], (m + 0, k + 0), hp29) _ from ?_)
  refine Ev.step (j := 304) (s' := ([some (.retAddr 0), some (.ref 0), some (.ref 69), some (.ref 87), some (.int z), a5, a6], [.ref 69, .int z31], (m + 0, k + 0), hp29)) rfl rfl ?_
  refine Ev.step (j := 305) (s' := ([some (.retAddr 0), some (.ref 0), some (.ref 69), some (.ref 87), some (.int z), a5, a6], [.retAddr 0, .ref 69, .int z31], (m + 0, k + 0), hp29)) rfl rfl ?_
  refine Ev.step (j := 307) (s' := ([some (.retAddr 0), some (.ref 0), some (.ref 69), some (.ref 87), some (.int z), a5, a6], [.int z, .retAddr 0, .ref 69, .int z31], (m + 0, k + 0), hp29)) rfl rfl ?_
  refine bs_lit (k := 1) rfl rfl fun z32 hz32 => ?_
  refine bs_add rfl (by omega) (by omega) fun z33 hz33 => ?_
  refine ls_sld rfl (by omega) (by omega) ?_
  refine (show Ev _ 310 ([some (.retAddr 0), some (.ref 0), some (.ref 69), some (.ref 87), some (.int z), a5, a6], [.int (xs z33.toNatClampNeg), .ref 69, .int z31], (m + 0, k + 0), hp29) _ from ?_)
  refine bs_callx (K := kq_X11_end_r) [.ref 69, .int (xs z33.toNatClampNeg)] [.int z31] rfl ce_X11_end_r Hhp29 rfl rfl rfl (bs_rcv (g := 11) Hhp29 (bs_R.uq Hhp29 (g := 11) rfl) (by decide) rfl) (ls_room (Nat.le_of_ble_eq_true rfl) (by omega) (by omega)) ?_ (sf_S_nil) fun r35 hp34 thp34 Hhp34 fhp34 ahp34 php34 xhp34 => ?_
  · intro q k h
    match q, h with
    | 0, h => cases h; exact bs_jR (bs_R.uq Hhp29 (g := 11) rfl)
    | 1, h => cases h; exact sf_j0
    | q + 2, h => cases h
  obtain ⟨z36, rfl⟩ := bs_anI ahp34
  obtain ⟨hr2, w2, ew2, ez2⟩ := xhp34 v0 _ rfl hr1
  obtain rfl := Value.int.inj (Option.some.inj ew2)
  have hc2 := (fhp34.2.2.1 _ (bs_R.uq Hhp29 (g := 8) rfl).1 1 (by rw [(bs_R.uq Hhp29 (g := 8) (p := 1) rfl).2]; rfl)).trans hc1
  rw [show z33 = z28 from Int32.toInt_inj.mp (by omega)] at hr2 ez2
  have E : lw_eq hp34 := ⟨_, hc2, hr2⟩
  refine (show Ev _ 313 ([some (.retAddr 0), some (.ref 0), some (.ref 69), some (.ref 87), some (.int z), a5, a6], [.int z36, .int z31], (m + 0 + 0, k + 0 + 0), hp34) _ from ?_)
  refine bs_eq rfl (fun c => ?_) (fun c => absurd (by omega) c)
  exact K _ _ _ _ _ _ Hhp34 E (by omega) (by omega)
set_option maxRecDepth 100000 in
set_option maxHeartbeats 4000000 in
theorem op_strait {xs : Nat → Int32} {n : Nat} {z : Int32} {a5 a6 : Option Value} {m k : Nat} {hp : ab_H} {t : Nat → Nat} {Q : ab_O → Prop} (H : sf_h t hp) (hs : lw_eq hp) (hz0 : 0 ≤ z.toInt) (hz1 : z.toInt + 6 ≤ n) (hn : n ≤ 3072) (hm : m + 21 ≤ 601024) (hk : k + 410 ≤ 7293034) (K : lw_K xs n z m k Q) : Ev (LT xs n) 318 ([some (.retAddr 0), some (.ref 0), some (.ref 69), some (.ref 87), some (.int z), a5, a6], [], (m, k), hp) Q := by
  refine Ev.step (j := 319) (s' := ([some (.retAddr 0), some (.ref 0), some (.ref 69), some (.ref 87), some (.int z), a5, a6], [.ref 0], (m, k), hp)) rfl rfl ?_
  refine bs_call (K := kq_X10_strait_4c18a7) [.ref 0] [] rfl ct_X10_strait_4c18a7 H rfl rfl rfl (bs_rcv (g := 10) H (bs_R.uq H (g := 10) rfl) (by decide) rfl) (ls_room (Nat.le_of_ble_eq_true rfl) (by omega) (by omega)) ?_ (sf_S_nil) fun r38 hp37 thp37 Hhp37 fhp37 ahp37 php37 => ?_
  · intro q k h
    match q, h with
    | 0, h => cases h; exact bs_jR (bs_R.uq H (g := 10) rfl)
    | q + 1, h => cases h
  obtain ⟨z39, rfl⟩ := bs_anI ahp37
  obtain ⟨y40, ey40, uy40, wy40⟩ := (php37 _ (List.mem_of_getElem? (i := 0) rfl)).1 rfl
  replace ey40 : sf_rd hp37 1 1 = some y40 := ey40
  replace uy40 : (0 : Int) ≤ y40 := uy40
  replace wy40 : y40 ≤ (0 : Int) := wy40
  refine (show Ev _ 322 ([some (.retAddr 0), some (.ref 0), some (.ref 69), some (.ref 87), some (.int z), a5, a6], [.int z39], (m + 0, k + 0), hp37) _ from ?_)
  refine Ev.step (j := 323) (s' := ([some (.retAddr 0), some (.ref 0), some (.ref 69), some (.ref 87), some (.int z), a5, a6], [], (m + 0, k + 0), hp37)) rfl rfl ?_
  refine Ev.step (j := 324) (s' := ([some (.retAddr 0), some (.ref 0), some (.ref 69), some (.ref 87), some (.int z), a5, a6], [.ref 69], (m + 0, k + 0), hp37)) rfl rfl ?_
  refine bs_call (K := kq_X11_strait_h) [.ref 69] [] rfl ct_X11_strait_h Hhp37 rfl rfl rfl (bs_rcv (g := 11) Hhp37 (bs_R.uq Hhp37 (g := 11) rfl) (by decide) rfl) (ls_room (Nat.le_of_ble_eq_true rfl) (by omega) (by omega)) ?_ (sf_S_nil) fun r42 hp41 thp41 Hhp41 fhp41 ahp41 php41 => ?_
  · intro q k h
    match q, h with
    | 0, h => cases h; exact bs_jR (bs_R.uq Hhp37 (g := 11) rfl)
    | q + 1, h => cases h
  obtain ⟨z43, rfl⟩ := bs_anI ahp41
  obtain ⟨y44, ey44, uy44, wy44⟩ := (php41 _ (List.mem_of_getElem? (i := 0) rfl)).1 rfl
  replace ey44 : sf_rd hp41 69 2 = some y44 := ey44
  replace uy44 : (0 : Int) ≤ y44 := uy44
  replace wy44 : y44 ≤ (0 : Int) := wy44
  have hc2 := (fhp41.2.2.1 _ (bs_R.uq Hhp37 (g := 8) rfl).1 1 (by rw [(bs_R.uq Hhp37 (g := 8) (p := 1) rfl).2]; rfl)).trans ey40
  have E : lw_eq hp41 := ⟨0, hc2.trans (congrArg some (by omega)), ey44.trans (congrArg some (by omega))⟩
  refine (show Ev _ 327 ([some (.retAddr 0), some (.ref 0), some (.ref 69), some (.ref 87), some (.int z), a5, a6], [.int z43], (m + 0 + 0, k + 0 + 0), hp41) _ from ?_)
  refine Ev.step (j := 328) (s' := ([some (.retAddr 0), some (.ref 0), some (.ref 69), some (.ref 87), some (.int z), a5, a6], [], (m + 0 + 0, k + 0 + 0), hp41)) rfl rfl ?_
  refine Ev.step (j := 1440) (s' := ([some (.retAddr 0), some (.ref 0), some (.ref 69), some (.ref 87), some (.int z), a5, a6], [], (m + 0 + 0, k + 0 + 0), hp41)) rfl rfl ?_
  exact K _ _ _ _ _ _ Hhp41 E (by omega) (by omega)
set_option maxRecDepth 100000 in
set_option maxHeartbeats 4000000 in
theorem op_fault {xs : Nat → Int32} {n : Nat} {z : Int32} {a5 a6 : Option Value} {m k : Nat} {hp : ab_H} {t : Nat → Nat} {Q : ab_O → Prop} (H : sf_h t hp) (hs : lw_eq hp) (hz0 : 0 ≤ z.toInt) (hz1 : z.toInt + 6 ≤ n) (hn : n ≤ 3072) (hm : m + 21 ≤ 601024) (hk : k + 410 ≤ 7293034) (K : lw_K xs n z m k Q) : Ev (LT xs n) 331 ([some (.retAddr 0), some (.ref 0), some (.ref 69), some (.ref 87), some (.int z), a5, a6], [], (m, k), hp) Q := by
  refine Ev.step (j := 332) (s' := ([some (.retAddr 0), some (.ref 0), some (.ref 69), some (.ref 87), some (.int z), a5, a6], [.ref 0], (m, k), hp)) rfl rfl ?_
  refine bs_call (K := kq_X10_fault_4c18a7) [.ref 0] [] rfl ct_X10_fault_4c18a7 H rfl rfl rfl (bs_rcv (g := 10) H (bs_R.uq H (g := 10) rfl) (by decide) rfl) (ls_room (Nat.le_of_ble_eq_true rfl) (by omega) (by omega)) ?_ (sf_S_nil) fun r46 hp45 thp45 Hhp45 fhp45 ahp45 php45 => ?_
  · intro q k h
    match q, h with
    | 0, h => cases h; exact bs_jR (bs_R.uq H (g := 10) rfl)
    | q + 1, h => cases h
  obtain ⟨z47, rfl⟩ := bs_anI ahp45
  have E48 := lw_keep H fhp45 rfl rfl hs
  refine (show Ev _ 335 ([some (.retAddr 0), some (.ref 0), some (.ref 69), some (.ref 87), some (.int z), a5, a6], [.int z47], (m + 0, k + 0), hp45) _ from ?_)
  refine Ev.step (j := 336) (s' := ([some (.retAddr 0), some (.ref 0), some (.ref 69), some (.ref 87), some (.int z), a5, a6], [], (m + 0, k + 0), hp45)) rfl rfl ?_
  refine Ev.step (j := 337) (s' := ([some (.retAddr 0), some (.ref 0), some (.ref 69), some (.ref 87), some (.int z), a5, a6], [.ref 69], (m + 0, k + 0), hp45)) rfl rfl ?_
  refine bs_call (K := kq_X11_fault_6afe8b) [.ref 69] [] rfl ct_X11_fault_6afe8b Hhp45 rfl rfl rfl (bs_rcv (g := 11) Hhp45 (bs_R.uq Hhp45 (g := 11) rfl) (by decide) rfl) (ls_room (Nat.le_of_ble_eq_true rfl) (by omega) (by omega)) ?_ (sf_S_nil) fun r50 hp49 thp49 Hhp49 fhp49 ahp49 php49 => ?_
  · intro q k h
    match q, h with
    | 0, h => cases h; exact bs_jR (bs_R.uq Hhp45 (g := 11) rfl)
    | q + 1, h => cases h
  obtain ⟨z51, rfl⟩ := bs_anI ahp49
  have E52 := lw_keep Hhp45 fhp49 rfl rfl E48
  refine (show Ev _ 340 ([some (.retAddr 0), some (.ref 0), some (.ref 69), some (.ref 87), some (.int z), a5, a6], [.int z51], (m + 0 + 0, k + 0 + 0), hp49) _ from ?_)
  refine Ev.step (j := 341) (s' := ([some (.retAddr 0), some (.ref 0), some (.ref 69), some (.ref 87), some (.int z), a5, a6], [], (m + 0 + 0, k + 0 + 0), hp49)) rfl rfl ?_
  refine Ev.step (j := 1440) (s' := ([some (.retAddr 0), some (.ref 0), some (.ref 69), some (.ref 87), some (.int z), a5, a6], [], (m + 0 + 0, k + 0 + 0), hp49)) rfl rfl ?_
  exact K _ _ _ _ _ _ Hhp49 E52 (by omega) (by omega)
set_option maxRecDepth 100000 in
set_option maxHeartbeats 4000000 in
theorem op_good {xs : Nat → Int32} {n : Nat} {z : Int32} {a5 a6 : Option Value} {m k : Nat} {hp : ab_H} {t : Nat → Nat} {Q : ab_O → Prop} (H : sf_h t hp) (hs : lw_eq hp) (hz0 : 0 ≤ z.toInt) (hz1 : z.toInt + 6 ≤ n) (hn : n ≤ 3072) (hm : m + 21 ≤ 601024) (hk : k + 410 ≤ 7293034) (K : lw_K xs n z m k Q) : Ev (LT xs n) 344 ([some (.retAddr 0), some (.ref 0), some (.ref 69), some (.ref 87), some (.int z), a5, a6], [], (m, k), hp) Q := by
  refine Ev.step (j := 345) (s' := ([some (.retAddr 0), some (.ref 0), some (.ref 69), some (.ref 87), some (.int z), a5, a6], [.ref 0], (m, k), hp)) rfl rfl ?_
  refine Ev.step (j := 346) (s' := ([some (.retAddr 0), some (.ref 0), some (.ref 69), some (.ref 87), some (.int z), a5, a6], [.retAddr 0, .ref 0], (m, k), hp)) rfl rfl ?_
  refine Ev.step (j := 348) (s' := ([some (.retAddr 0), some (.ref 0), some (.ref 69), some (.ref 87), some (.int z), a5, a6], [.int z, .retAddr 0, .ref 0], (m, k), hp)) rfl rfl ?_
  refine bs_lit (k := 1) rfl rfl fun z53 hz53 => ?_
  refine bs_add rfl (by omega) (by omega) fun z54 hz54 => ?_
  refine ls_sld rfl (by omega) (by omega) ?_
  refine (show Ev _ 351 ([some (.retAddr 0), some (.ref 0), some (.ref 69), some (.ref 87), some (.int z), a5, a6], [.int (xs z54.toNatClampNeg), .ref 0], (m, k), hp) _ from ?_)
  refine Ev.step (j := 352) (s' := ([some (.retAddr 0), some (.ref 0), some (.ref 69), some (.ref 87), some (.int z), a5, a6], [.retAddr 0, .int (xs z54.toNatClampNeg), .ref 0], (m, k), hp)) rfl rfl ?_
  refine Ev.step (j := 354) (s' := ([some (.retAddr 0), some (.ref 0), some (.ref 69), some (.ref 87), some (.int z), a5, a6], [.int z, .retAddr 0, .int (xs z54.toNatClampNeg), .ref 0], (m, k), hp)) rfl rfl ?_
  refine bs_lit (k := 2) rfl rfl fun z55 hz55 => ?_
  refine bs_add rfl (by omega) (by omega) fun z56 hz56 => ?_
  refine ls_sld rfl (by omega) (by omega) ?_
  refine (show Ev _ 357 ([some (.retAddr 0), some (.ref 0), some (.ref 69), some (.ref 87), some (.int z), a5, a6], [.int (xs z56.toNatClampNeg), .int (xs z54.toNatClampNeg), .ref 0], (m, k), hp) _ from ?_)
  refine Ev.step (j := 358) (s' := ([some (.retAddr 0), some (.ref 0), some (.ref 69), some (.ref 87), some (.int z), a5, a6], [.retAddr 0, .int (xs z56.toNatClampNeg), .int (xs z54.toNatClampNeg), .ref 0], (m, k), hp)) rfl rfl ?_
  refine Ev.step (j := 360) (s' := ([some (.retAddr 0), some (.ref 0), some (.ref 69), some (.ref 87), some (.int z), a5, a6], [.int z, .retAddr 0, .int (xs z56.toNatClampNeg), .int (xs z54.toNatClampNeg), .ref 0], (m, k), hp)) rfl rfl ?_
  refine bs_lit (k := 3) rfl rfl fun z57 hz57 => ?_
  refine bs_add rfl (by omega) (by omega) fun z58 hz58 => ?_
  refine ls_sld rfl (by omega) (by omega) ?_
  refine (show Ev _ 363 ([some (.retAddr 0), some (.ref 0), some (.ref 69), some (.ref 87), some (.int z), a5, a6], [.int (xs z58.toNatClampNeg), .int (xs z56.toNatClampNeg), .int (xs z54.toNatClampNeg), .ref 0], (m, k), hp) _ from ?_)
  refine bs_call (K := kq_X10_good_7e6f69) [.ref 0, .int (xs z54.toNatClampNeg), .int (xs z56.toNatClampNeg), .int (xs z58.toNatClampNeg)] [] rfl ct_X10_good_7e6f69 H rfl rfl rfl (bs_rcv (g := 10) H (bs_R.uq H (g := 10) rfl) (by decide) rfl) (ls_room (Nat.le_of_ble_eq_true rfl) (by omega) (by omega)) ?_ (sf_S_nil) fun r60 hp59 thp59 Hhp59 fhp59 ahp59 php59 => ?_
  · intro q k h
    match q, h with
    | 0, h => cases h; exact bs_jR (bs_R.uq H (g := 10) rfl)
    | 1, h => cases h; exact sf_j0
    | 2, h => cases h; exact sf_j0
    | 3, h => cases h; exact sf_j0
    | q + 4, h => cases h
  obtain ⟨z61, rfl⟩ := bs_anI ahp59
  have E62 := lw_keep H fhp59 rfl rfl hs
  refine (show Ev _ 366 ([some (.retAddr 0), some (.ref 0), some (.ref 69), some (.ref 87), some (.int z), a5, a6], [.int z61], (m + 0, k + 0), hp59) _ from ?_)
  refine Ev.step (j := 367) (s' := ([some (.retAddr 0), some (.ref 0), some (.ref 69), some (.ref 87), some (.int z), a5, a6], [], (m + 0, k + 0), hp59)) rfl rfl ?_
  refine Ev.step (j := 368) (s' := ([some (.retAddr 0), some (.ref 0), some (.ref 69), some (.ref 87), some (.int z), a5, a6], [.ref 69], (m + 0, k + 0), hp59)) rfl rfl ?_
  refine Ev.step (j := 369) (s' := ([some (.retAddr 0), some (.ref 0), some (.ref 69), some (.ref 87), some (.int z), a5, a6], [.retAddr 0, .ref 69], (m + 0, k + 0), hp59)) rfl rfl ?_
  refine Ev.step (j := 371) (s' := ([some (.retAddr 0), some (.ref 0), some (.ref 69), some (.ref 87), some (.int z), a5, a6], [.int z, .retAddr 0, .ref 69], (m + 0, k + 0), hp59)) rfl rfl ?_
  refine bs_lit (k := 1) rfl rfl fun z63 hz63 => ?_
  refine bs_add rfl (by omega) (by omega) fun z64 hz64 => ?_
  refine ls_sld rfl (by omega) (by omega) ?_
  refine (show Ev _ 374 ([some (.retAddr 0), some (.ref 0), some (.ref 69), some (.ref 87), some (.int z), a5, a6], [.int (xs z64.toNatClampNeg), .ref 69], (m + 0, k + 0), hp59) _ from ?_)
  refine Ev.step (j := 375) (s' := ([some (.retAddr 0), some (.ref 0), some (.ref 69), some (.ref 87), some (.int z), a5, a6], [.retAddr 0, .int (xs z64.toNatClampNeg), .ref 69], (m + 0, k + 0), hp59)) rfl rfl ?_
  refine Ev.step (j := 377) (s' := ([some (.retAddr 0), some (.ref 0), some (.ref 69), some (.ref 87), some (.int z), a5, a6], [.int z, .retAddr 0, .int (xs z64.toNatClampNeg), .ref 69], (m + 0, k + 0), hp59)) rfl rfl ?_
  refine bs_lit (k := 2) rfl rfl fun z65 hz65 => ?_
  refine bs_add rfl (by omega) (by omega) fun z66 hz66 => ?_
  refine ls_sld rfl (by omega) (by omega) ?_
  refine (show Ev _ 380 ([some (.retAddr 0), some (.ref 0), some (.ref 69), some (.ref 87), some (.int z), a5, a6], [.int (xs z66.toNatClampNeg), .int (xs z64.toNatClampNeg), .ref 69], (m + 0, k + 0), hp59) _ from ?_)
  refine Ev.step (j := 381) (s' := ([some (.retAddr 0), some (.ref 0), some (.ref 69), some (.ref 87), some (.int z), a5, a6], [.retAddr 0, .int (xs z66.toNatClampNeg), .int (xs z64.toNatClampNeg), .ref 69], (m + 0, k + 0), hp59)) rfl rfl ?_
  refine Ev.step (j := 383) (s' := ([some (.retAddr 0), some (.ref 0), some (.ref 69), some (.ref 87), some (.int z), a5, a6], [.int z, .retAddr 0, .int (xs z66.toNatClampNeg), .int (xs z64.toNatClampNeg), .ref 69], (m + 0, k + 0), hp59)) rfl rfl ?_
  refine bs_lit (k := 3) rfl rfl fun z67 hz67 => ?_
  refine bs_add rfl (by omega) (by omega) fun z68 hz68 => ?_
  refine ls_sld rfl (by omega) (by omega) ?_
  refine (show Ev _ 386 ([some (.retAddr 0), some (.ref 0), some (.ref 69), some (.ref 87), some (.int z), a5, a6], [.int (xs z68.toNatClampNeg), .int (xs z66.toNatClampNeg), .int (xs z64.toNatClampNeg), .ref 69], (m + 0, k + 0), hp59) _ from ?_)
  refine bs_call (K := kq_X11_good_3518ea) [.ref 69, .int (xs z64.toNatClampNeg), .int (xs z66.toNatClampNeg), .int (xs z68.toNatClampNeg)] [] rfl ct_X11_good_3518ea Hhp59 rfl rfl rfl (bs_rcv (g := 11) Hhp59 (bs_R.uq Hhp59 (g := 11) rfl) (by decide) rfl) (ls_room (Nat.le_of_ble_eq_true rfl) (by omega) (by omega)) ?_ (sf_S_nil) fun r70 hp69 thp69 Hhp69 fhp69 ahp69 php69 => ?_
  · intro q k h
    match q, h with
    | 0, h => cases h; exact bs_jR (bs_R.uq Hhp59 (g := 11) rfl)
    | 1, h => cases h; exact sf_j0
    | 2, h => cases h; exact sf_j0
    | 3, h => cases h; exact sf_j0
    | q + 4, h => cases h
  obtain ⟨z71, rfl⟩ := bs_anI ahp69
  have E72 := lw_keep Hhp59 fhp69 rfl rfl E62
  refine (show Ev _ 389 ([some (.retAddr 0), some (.ref 0), some (.ref 69), some (.ref 87), some (.int z), a5, a6], [.int z71], (m + 0 + 0, k + 0 + 0), hp69) _ from ?_)
  refine Ev.step (j := 390) (s' := ([some (.retAddr 0), some (.ref 0), some (.ref 69), some (.ref 87), some (.int z), a5, a6], [], (m + 0 + 0, k + 0 + 0), hp69)) rfl rfl ?_
  refine Ev.step (j := 1440) (s' := ([some (.retAddr 0), some (.ref 0), some (.ref 69), some (.ref 87), some (.int z), a5, a6], [], (m + 0 + 0, k + 0 + 0), hp69)) rfl rfl ?_
  exact K _ _ _ _ _ _ Hhp69 E72 (by omega) (by omega)
set_option maxRecDepth 100000 in
set_option maxHeartbeats 4000000 in
theorem op_crossed {xs : Nat → Int32} {n : Nat} {z : Int32} {a5 a6 : Option Value} {m k : Nat} {hp : ab_H} {t : Nat → Nat} {Q : ab_O → Prop} (H : sf_h t hp) (hs : lw_eq hp) (hz0 : 0 ≤ z.toInt) (hz1 : z.toInt + 6 ≤ n) (hn : n ≤ 3072) (hm : m + 21 ≤ 601024) (hk : k + 410 ≤ 7293034) (K : lw_K xs n z m k Q) : Ev (LT xs n) 393 ([some (.retAddr 0), some (.ref 0), some (.ref 69), some (.ref 87), some (.int z), a5, a6], [], (m, k), hp) Q := by
  refine Ev.step (j := 394) (s' := ([some (.retAddr 0), some (.ref 0), some (.ref 69), some (.ref 87), some (.int z), a5, a6], [.ref 0], (m, k), hp)) rfl rfl ?_
  refine Ev.step (j := 395) (s' := ([some (.retAddr 0), some (.ref 0), some (.ref 69), some (.ref 87), some (.int z), a5, a6], [.retAddr 0, .ref 0], (m, k), hp)) rfl rfl ?_
  refine Ev.step (j := 397) (s' := ([some (.retAddr 0), some (.ref 0), some (.ref 69), some (.ref 87), some (.int z), a5, a6], [.int z, .retAddr 0, .ref 0], (m, k), hp)) rfl rfl ?_
  refine bs_lit (k := 1) rfl rfl fun z73 hz73 => ?_
  refine bs_add rfl (by omega) (by omega) fun z74 hz74 => ?_
  refine ls_sld rfl (by omega) (by omega) ?_
  refine (show Ev _ 400 ([some (.retAddr 0), some (.ref 0), some (.ref 69), some (.ref 87), some (.int z), a5, a6], [.int (xs z74.toNatClampNeg), .ref 0], (m, k), hp) _ from ?_)
  refine Ev.step (j := 401) (s' := ([some (.retAddr 0), some (.ref 0), some (.ref 69), some (.ref 87), some (.int z), a5, a6], [.retAddr 0, .int (xs z74.toNatClampNeg), .ref 0], (m, k), hp)) rfl rfl ?_
  refine Ev.step (j := 403) (s' := ([some (.retAddr 0), some (.ref 0), some (.ref 69), some (.ref 87), some (.int z), a5, a6], [.int z, .retAddr 0, .int (xs z74.toNatClampNeg), .ref 0], (m, k), hp)) rfl rfl ?_
  refine bs_lit (k := 2) rfl rfl fun z75 hz75 => ?_
  refine bs_add rfl (by omega) (by omega) fun z76 hz76 => ?_
  refine ls_sld rfl (by omega) (by omega) ?_
  refine (show Ev _ 406 ([some (.retAddr 0), some (.ref 0), some (.ref 69), some (.ref 87), some (.int z), a5, a6], [.int (xs z76.toNatClampNeg), .int (xs z74.toNatClampNeg), .ref 0], (m, k), hp) _ from ?_)
  refine bs_call (K := kq_X10_crossed_57b5ea) [.ref 0, .int (xs z74.toNatClampNeg), .int (xs z76.toNatClampNeg)] [] rfl ct_X10_crossed_57b5ea H rfl rfl rfl (bs_rcv (g := 10) H (bs_R.uq H (g := 10) rfl) (by decide) rfl) (ls_room (Nat.le_of_ble_eq_true rfl) (by omega) (by omega)) ?_ (sf_S_nil) fun r78 hp77 thp77 Hhp77 fhp77 ahp77 php77 => ?_
  · intro q k h
    match q, h with
    | 0, h => cases h; exact bs_jR (bs_R.uq H (g := 10) rfl)
    | 1, h => cases h; exact sf_j0
    | 2, h => cases h; exact sf_j0
    | q + 3, h => cases h
  obtain ⟨z79, rfl⟩ := bs_anI ahp77
  have E80 := lw_keep H fhp77 rfl rfl hs
  refine (show Ev _ 409 ([some (.retAddr 0), some (.ref 0), some (.ref 69), some (.ref 87), some (.int z), a5, a6], [.int z79], (m + 0, k + 0), hp77) _ from ?_)
  refine Ev.step (j := 410) (s' := ([some (.retAddr 0), some (.ref 0), some (.ref 69), some (.ref 87), some (.int z), a5, a6], [], (m + 0, k + 0), hp77)) rfl rfl ?_
  refine Ev.step (j := 411) (s' := ([some (.retAddr 0), some (.ref 0), some (.ref 69), some (.ref 87), some (.int z), a5, a6], [.ref 69], (m + 0, k + 0), hp77)) rfl rfl ?_
  refine Ev.step (j := 412) (s' := ([some (.retAddr 0), some (.ref 0), some (.ref 69), some (.ref 87), some (.int z), a5, a6], [.retAddr 0, .ref 69], (m + 0, k + 0), hp77)) rfl rfl ?_
  refine Ev.step (j := 414) (s' := ([some (.retAddr 0), some (.ref 0), some (.ref 69), some (.ref 87), some (.int z), a5, a6], [.int z, .retAddr 0, .ref 69], (m + 0, k + 0), hp77)) rfl rfl ?_
  refine bs_lit (k := 1) rfl rfl fun z81 hz81 => ?_
  refine bs_add rfl (by omega) (by omega) fun z82 hz82 => ?_
  refine ls_sld rfl (by omega) (by omega) ?_
  refine (show Ev _ 417 ([some (.retAddr 0), some (.ref 0), some (.ref 69), some (.ref 87), some (.int z), a5, a6], [.int (xs z82.toNatClampNeg), .ref 69], (m + 0, k + 0), hp77) _ from ?_)
  refine Ev.step (j := 418) (s' := ([some (.retAddr 0), some (.ref 0), some (.ref 69), some (.ref 87), some (.int z), a5, a6], [.retAddr 0, .int (xs z82.toNatClampNeg), .ref 69], (m + 0, k + 0), hp77)) rfl rfl ?_
  refine Ev.step (j := 420) (s' := ([some (.retAddr 0), some (.ref 0), some (.ref 69), some (.ref 87), some (.int z), a5, a6], [.int z, .retAddr 0, .int (xs z82.toNatClampNeg), .ref 69], (m + 0, k + 0), hp77)) rfl rfl ?_
  refine bs_lit (k := 2) rfl rfl fun z83 hz83 => ?_
  refine bs_add rfl (by omega) (by omega) fun z84 hz84 => ?_
  refine ls_sld rfl (by omega) (by omega) ?_
  refine (show Ev _ 423 ([some (.retAddr 0), some (.ref 0), some (.ref 69), some (.ref 87), some (.int z), a5, a6], [.int (xs z84.toNatClampNeg), .int (xs z82.toNatClampNeg), .ref 69], (m + 0, k + 0), hp77) _ from ?_)
  refine bs_call (K := kq_X11_crossed_334faa) [.ref 69, .int (xs z82.toNatClampNeg), .int (xs z84.toNatClampNeg)] [] rfl ct_X11_crossed_334faa Hhp77 rfl rfl rfl (bs_rcv (g := 11) Hhp77 (bs_R.uq Hhp77 (g := 11) rfl) (by decide) rfl) (ls_room (Nat.le_of_ble_eq_true rfl) (by omega) (by omega)) ?_ (sf_S_nil) fun r86 hp85 thp85 Hhp85 fhp85 ahp85 php85 => ?_
  · intro q k h
    match q, h with
    | 0, h => cases h; exact bs_jR (bs_R.uq Hhp77 (g := 11) rfl)
    | 1, h => cases h; exact sf_j0
    | 2, h => cases h; exact sf_j0
    | q + 3, h => cases h
  obtain ⟨z87, rfl⟩ := bs_anI ahp85
  have E88 := lw_keep Hhp77 fhp85 rfl rfl E80
  refine (show Ev _ 426 ([some (.retAddr 0), some (.ref 0), some (.ref 69), some (.ref 87), some (.int z), a5, a6], [.int z87], (m + 0 + 0, k + 0 + 0), hp85) _ from ?_)
  refine Ev.step (j := 427) (s' := ([some (.retAddr 0), some (.ref 0), some (.ref 69), some (.ref 87), some (.int z), a5, a6], [], (m + 0 + 0, k + 0 + 0), hp85)) rfl rfl ?_
  refine Ev.step (j := 1440) (s' := ([some (.retAddr 0), some (.ref 0), some (.ref 69), some (.ref 87), some (.int z), a5, a6], [], (m + 0 + 0, k + 0 + 0), hp85)) rfl rfl ?_
  exact K _ _ _ _ _ _ Hhp85 E88 (by omega) (by omega)
set_option maxRecDepth 100000 in
set_option maxHeartbeats 4000000 in
theorem op_man {xs : Nat → Int32} {n : Nat} {z : Int32} {a5 a6 : Option Value} {m k : Nat} {hp : ab_H} {t : Nat → Nat} {Q : ab_O → Prop} (H : sf_h t hp) (hs : lw_eq hp) (hz0 : 0 ≤ z.toInt) (hz1 : z.toInt + 6 ≤ n) (hn : n ≤ 3072) (hm : m + 21 ≤ 601024) (hk : k + 410 ≤ 7293034) (K : lw_K xs n z m k Q) : Ev (LT xs n) 430 ([some (.retAddr 0), some (.ref 0), some (.ref 69), some (.ref 87), some (.int z), a5, a6], [], (m, k), hp) Q := by
  refine Ev.step (j := 431) (s' := ([some (.retAddr 0), some (.ref 0), some (.ref 69), some (.ref 87), some (.int z), a5, a6], [.ref 0], (m, k), hp)) rfl rfl ?_
  refine Ev.step (j := 432) (s' := ([some (.retAddr 0), some (.ref 0), some (.ref 69), some (.ref 87), some (.int z), a5, a6], [.retAddr 0, .ref 0], (m, k), hp)) rfl rfl ?_
  refine Ev.step (j := 434) (s' := ([some (.retAddr 0), some (.ref 0), some (.ref 69), some (.ref 87), some (.int z), a5, a6], [.int z, .retAddr 0, .ref 0], (m, k), hp)) rfl rfl ?_
  refine bs_lit (k := 1) rfl rfl fun z89 hz89 => ?_
  refine bs_add rfl (by omega) (by omega) fun z90 hz90 => ?_
  refine ls_sld rfl (by omega) (by omega) ?_
  refine (show Ev _ 437 ([some (.retAddr 0), some (.ref 0), some (.ref 69), some (.ref 87), some (.int z), a5, a6], [.int (xs z90.toNatClampNeg), .ref 0], (m, k), hp) _ from ?_)
  refine Ev.step (j := 438) (s' := ([some (.retAddr 0), some (.ref 0), some (.ref 69), some (.ref 87), some (.int z), a5, a6], [.retAddr 0, .int (xs z90.toNatClampNeg), .ref 0], (m, k), hp)) rfl rfl ?_
  refine Ev.step (j := 440) (s' := ([some (.retAddr 0), some (.ref 0), some (.ref 69), some (.ref 87), some (.int z), a5, a6], [.int z, .retAddr 0, .int (xs z90.toNatClampNeg), .ref 0], (m, k), hp)) rfl rfl ?_
  refine bs_lit (k := 2) rfl rfl fun z91 hz91 => ?_
  refine bs_add rfl (by omega) (by omega) fun z92 hz92 => ?_
  refine ls_sld rfl (by omega) (by omega) ?_
  refine (show Ev _ 443 ([some (.retAddr 0), some (.ref 0), some (.ref 69), some (.ref 87), some (.int z), a5, a6], [.int (xs z92.toNatClampNeg), .int (xs z90.toNatClampNeg), .ref 0], (m, k), hp) _ from ?_)
  refine Ev.step (j := 444) (s' := ([some (.retAddr 0), some (.ref 0), some (.ref 69), some (.ref 87), some (.int z), a5, a6], [.ref 87, .int (xs z92.toNatClampNeg), .int (xs z90.toNatClampNeg), .ref 0], (m, k), hp)) rfl rfl ?_
  refine bs_callS (K := kq_L_man) [.ref 0, .int (xs z90.toNatClampNeg), .int (xs z92.toNatClampNeg), .ref 87] [] rfl ct_L_man H rfl rfl rfl (ls_room (Nat.le_of_ble_eq_true rfl) (by omega) (by omega)) ?_ (sf_S_nil) fun r94 hp93 thp93 Hhp93 fhp93 ahp93 php93 => ?_
  · intro q k h
    match q, h with
    | 0, h => cases h; exact bs_jR (bs_R.uq H (g := 10) rfl)
    | 1, h => cases h; exact sf_j0
    | 2, h => cases h; exact sf_j0
    | 3, h => cases h; exact bs_jR (bs_R.uq H (g := 148) rfl)
    | q + 4, h => cases h
  obtain ⟨z95, rfl⟩ := bs_anI ahp93
  have E96 := lw_keep H fhp93 rfl rfl hs
  refine (show Ev _ 447 ([some (.retAddr 0), some (.ref 0), some (.ref 69), some (.ref 87), some (.int z), a5, a6], [.int z95], (m + 1, k + 6), hp93) _ from ?_)
  refine Ev.step (j := 449) (s' := ([some (.retAddr 0), some (.ref 0), some (.ref 69), some (.ref 87), some (.int z), (some (.int z95)), a6], [], (m + 1, k + 6), hp93)) rfl rfl ?_
  refine Ev.step (j := 450) (s' := ([some (.retAddr 0), some (.ref 0), some (.ref 69), some (.ref 87), some (.int z), (some (.int z95)), a6], [.ref 69], (m + 1, k + 6), hp93)) rfl rfl ?_
  refine Ev.step (j := 451) (s' := ([some (.retAddr 0), some (.ref 0), some (.ref 69), some (.ref 87), some (.int z), (some (.int z95)), a6], [.retAddr 0, .ref 69], (m + 1, k + 6), hp93)) rfl rfl ?_
  refine Ev.step (j := 453) (s' := ([some (.retAddr 0), some (.ref 0), some (.ref 69), some (.ref 87), some (.int z), (some (.int z95)), a6], [.int z, .retAddr 0, .ref 69], (m + 1, k + 6), hp93)) rfl rfl ?_
  refine bs_lit (k := 1) rfl rfl fun z97 hz97 => ?_
  refine bs_add rfl (by omega) (by omega) fun z98 hz98 => ?_
  refine ls_sld rfl (by omega) (by omega) ?_
  refine (show Ev _ 456 ([some (.retAddr 0), some (.ref 0), some (.ref 69), some (.ref 87), some (.int z), (some (.int z95)), a6], [.int (xs z98.toNatClampNeg), .ref 69], (m + 1, k + 6), hp93) _ from ?_)
  refine Ev.step (j := 457) (s' := ([some (.retAddr 0), some (.ref 0), some (.ref 69), some (.ref 87), some (.int z), (some (.int z95)), a6], [.retAddr 0, .int (xs z98.toNatClampNeg), .ref 69], (m + 1, k + 6), hp93)) rfl rfl ?_
  refine Ev.step (j := 459) (s' := ([some (.retAddr 0), some (.ref 0), some (.ref 69), some (.ref 87), some (.int z), (some (.int z95)), a6], [.int z, .retAddr 0, .int (xs z98.toNatClampNeg), .ref 69], (m + 1, k + 6), hp93)) rfl rfl ?_
  refine bs_lit (k := 2) rfl rfl fun z99 hz99 => ?_
  refine bs_add rfl (by omega) (by omega) fun z100 hz100 => ?_
  refine ls_sld rfl (by omega) (by omega) ?_
  refine (show Ev _ 462 ([some (.retAddr 0), some (.ref 0), some (.ref 69), some (.ref 87), some (.int z), (some (.int z95)), a6], [.int (xs z100.toNatClampNeg), .int (xs z98.toNatClampNeg), .ref 69], (m + 1, k + 6), hp93) _ from ?_)
  refine bs_call (K := kq_X11_man_h) [.ref 69, .int (xs z98.toNatClampNeg), .int (xs z100.toNatClampNeg)] [] rfl ct_X11_man_h Hhp93 rfl rfl rfl (bs_rcv (g := 11) Hhp93 (bs_R.uq Hhp93 (g := 11) rfl) (by decide) rfl) (ls_room (Nat.le_of_ble_eq_true rfl) (by omega) (by omega)) ?_ (sf_S_nil) fun r102 hp101 thp101 Hhp101 fhp101 ahp101 php101 => ?_
  · intro q k h
    match q, h with
    | 0, h => cases h; exact bs_jR (bs_R.uq Hhp93 (g := 11) rfl)
    | 1, h => cases h; exact sf_j0
    | 2, h => cases h; exact sf_j0
    | q + 3, h => cases h
  obtain ⟨z103, rfl⟩ := bs_anI ahp101
  have E104 := lw_keep Hhp93 fhp101 rfl rfl E96
  refine (show Ev _ 465 ([some (.retAddr 0), some (.ref 0), some (.ref 69), some (.ref 87), some (.int z), (some (.int z95)), a6], [.int z103], (m + 1 + 0, k + 6 + 0), hp101) _ from ?_)
  refine Ev.step (j := 467) (s' := ([some (.retAddr 0), some (.ref 0), some (.ref 69), some (.ref 87), some (.int z), (some (.int z95)), (some (.int z103))], [], (m + 1 + 0, k + 6 + 0), hp101)) rfl rfl ?_
  refine Ev.step (j := 1440) (s' := ([some (.retAddr 0), some (.ref 0), some (.ref 69), some (.ref 87), some (.int z), (some (.int z95)), (some (.int z103))], [], (m + 1 + 0, k + 6 + 0), hp101)) rfl rfl ?_
  exact K _ _ _ _ _ _ Hhp101 E104 (by omega) (by omega)
set_option maxRecDepth 100000 in
set_option maxHeartbeats 4000000 in
theorem op_apart {xs : Nat → Int32} {n : Nat} {z : Int32} {a5 a6 : Option Value} {m k : Nat} {hp : ab_H} {t : Nat → Nat} {Q : ab_O → Prop} (H : sf_h t hp) (hs : lw_eq hp) (hz0 : 0 ≤ z.toInt) (hz1 : z.toInt + 6 ≤ n) (hn : n ≤ 3072) (hm : m + 21 ≤ 601024) (hk : k + 410 ≤ 7293034) (K : lw_K xs n z m k Q) : Ev (LT xs n) 470 ([some (.retAddr 0), some (.ref 0), some (.ref 69), some (.ref 87), some (.int z), a5, a6], [], (m, k), hp) Q := by
  refine Ev.step (j := 471) (s' := ([some (.retAddr 0), some (.ref 0), some (.ref 69), some (.ref 87), some (.int z), a5, a6], [.ref 0], (m, k), hp)) rfl rfl ?_
  refine Ev.step (j := 472) (s' := ([some (.retAddr 0), some (.ref 0), some (.ref 69), some (.ref 87), some (.int z), a5, a6], [.retAddr 0, .ref 0], (m, k), hp)) rfl rfl ?_
  refine Ev.step (j := 474) (s' := ([some (.retAddr 0), some (.ref 0), some (.ref 69), some (.ref 87), some (.int z), a5, a6], [.int z, .retAddr 0, .ref 0], (m, k), hp)) rfl rfl ?_
  refine bs_lit (k := 1) rfl rfl fun z105 hz105 => ?_
  refine bs_add rfl (by omega) (by omega) fun z106 hz106 => ?_
  refine ls_sld rfl (by omega) (by omega) ?_
  refine (show Ev _ 477 ([some (.retAddr 0), some (.ref 0), some (.ref 69), some (.ref 87), some (.int z), a5, a6], [.int (xs z106.toNatClampNeg), .ref 0], (m, k), hp) _ from ?_)
  refine Ev.step (j := 478) (s' := ([some (.retAddr 0), some (.ref 0), some (.ref 69), some (.ref 87), some (.int z), a5, a6], [.retAddr 0, .int (xs z106.toNatClampNeg), .ref 0], (m, k), hp)) rfl rfl ?_
  refine Ev.step (j := 480) (s' := ([some (.retAddr 0), some (.ref 0), some (.ref 69), some (.ref 87), some (.int z), a5, a6], [.int z, .retAddr 0, .int (xs z106.toNatClampNeg), .ref 0], (m, k), hp)) rfl rfl ?_
  refine bs_lit (k := 2) rfl rfl fun z107 hz107 => ?_
  refine bs_add rfl (by omega) (by omega) fun z108 hz108 => ?_
  refine ls_sld rfl (by omega) (by omega) ?_
  refine (show Ev _ 483 ([some (.retAddr 0), some (.ref 0), some (.ref 69), some (.ref 87), some (.int z), a5, a6], [.int (xs z108.toNatClampNeg), .int (xs z106.toNatClampNeg), .ref 0], (m, k), hp) _ from ?_)
  refine bs_call (K := kq_X10_apart_57b5ea) [.ref 0, .int (xs z106.toNatClampNeg), .int (xs z108.toNatClampNeg)] [] rfl ct_X10_apart_57b5ea H rfl rfl rfl (bs_rcv (g := 10) H (bs_R.uq H (g := 10) rfl) (by decide) rfl) (ls_room (Nat.le_of_ble_eq_true rfl) (by omega) (by omega)) ?_ (sf_S_nil) fun r110 hp109 thp109 Hhp109 fhp109 ahp109 php109 => ?_
  · intro q k h
    match q, h with
    | 0, h => cases h; exact bs_jR (bs_R.uq H (g := 10) rfl)
    | 1, h => cases h; exact sf_j0
    | 2, h => cases h; exact sf_j0
    | q + 3, h => cases h
  obtain ⟨z111, rfl⟩ := bs_anI ahp109
  have E112 := lw_keep H fhp109 rfl rfl hs
  refine (show Ev _ 486 ([some (.retAddr 0), some (.ref 0), some (.ref 69), some (.ref 87), some (.int z), a5, a6], [.int z111], (m + 0, k + 0), hp109) _ from ?_)
  refine Ev.step (j := 487) (s' := ([some (.retAddr 0), some (.ref 0), some (.ref 69), some (.ref 87), some (.int z), a5, a6], [], (m + 0, k + 0), hp109)) rfl rfl ?_
  refine Ev.step (j := 488) (s' := ([some (.retAddr 0), some (.ref 0), some (.ref 69), some (.ref 87), some (.int z), a5, a6], [.ref 69], (m + 0, k + 0), hp109)) rfl rfl ?_
  refine Ev.step (j := 489) (s' := ([some (.retAddr 0), some (.ref 0), some (.ref 69), some (.ref 87), some (.int z), a5, a6], [.retAddr 0, .ref 69], (m + 0, k + 0), hp109)) rfl rfl ?_
  refine Ev.step (j := 491) (s' := ([some (.retAddr 0), some (.ref 0), some (.ref 69), some (.ref 87), some (.int z), a5, a6], [.int z, .retAddr 0, .ref 69], (m + 0, k + 0), hp109)) rfl rfl ?_
  refine bs_lit (k := 1) rfl rfl fun z113 hz113 => ?_
  refine bs_add rfl (by omega) (by omega) fun z114 hz114 => ?_
  refine ls_sld rfl (by omega) (by omega) ?_
  refine (show Ev _ 494 ([some (.retAddr 0), some (.ref 0), some (.ref 69), some (.ref 87), some (.int z), a5, a6], [.int (xs z114.toNatClampNeg), .ref 69], (m + 0, k + 0), hp109) _ from ?_)
  refine Ev.step (j := 495) (s' := ([some (.retAddr 0), some (.ref 0), some (.ref 69), some (.ref 87), some (.int z), a5, a6], [.retAddr 0, .int (xs z114.toNatClampNeg), .ref 69], (m + 0, k + 0), hp109)) rfl rfl ?_
  refine Ev.step (j := 497) (s' := ([some (.retAddr 0), some (.ref 0), some (.ref 69), some (.ref 87), some (.int z), a5, a6], [.int z, .retAddr 0, .int (xs z114.toNatClampNeg), .ref 69], (m + 0, k + 0), hp109)) rfl rfl ?_
  refine bs_lit (k := 2) rfl rfl fun z115 hz115 => ?_
  refine bs_add rfl (by omega) (by omega) fun z116 hz116 => ?_
  refine ls_sld rfl (by omega) (by omega) ?_
  refine (show Ev _ 500 ([some (.retAddr 0), some (.ref 0), some (.ref 69), some (.ref 87), some (.int z), a5, a6], [.int (xs z116.toNatClampNeg), .int (xs z114.toNatClampNeg), .ref 69], (m + 0, k + 0), hp109) _ from ?_)
  refine bs_call (K := kq_X11_apart_334faa) [.ref 69, .int (xs z114.toNatClampNeg), .int (xs z116.toNatClampNeg)] [] rfl ct_X11_apart_334faa Hhp109 rfl rfl rfl (bs_rcv (g := 11) Hhp109 (bs_R.uq Hhp109 (g := 11) rfl) (by decide) rfl) (ls_room (Nat.le_of_ble_eq_true rfl) (by omega) (by omega)) ?_ (sf_S_nil) fun r118 hp117 thp117 Hhp117 fhp117 ahp117 php117 => ?_
  · intro q k h
    match q, h with
    | 0, h => cases h; exact bs_jR (bs_R.uq Hhp109 (g := 11) rfl)
    | 1, h => cases h; exact sf_j0
    | 2, h => cases h; exact sf_j0
    | q + 3, h => cases h
  obtain ⟨z119, rfl⟩ := bs_anI ahp117
  have E120 := lw_keep Hhp109 fhp117 rfl rfl E112
  refine (show Ev _ 503 ([some (.retAddr 0), some (.ref 0), some (.ref 69), some (.ref 87), some (.int z), a5, a6], [.int z119], (m + 0 + 0, k + 0 + 0), hp117) _ from ?_)
  refine Ev.step (j := 504) (s' := ([some (.retAddr 0), some (.ref 0), some (.ref 69), some (.ref 87), some (.int z), a5, a6], [], (m + 0 + 0, k + 0 + 0), hp117)) rfl rfl ?_
  refine Ev.step (j := 1440) (s' := ([some (.retAddr 0), some (.ref 0), some (.ref 69), some (.ref 87), some (.int z), a5, a6], [], (m + 0 + 0, k + 0 + 0), hp117)) rfl rfl ?_
  exact K _ _ _ _ _ _ Hhp117 E120 (by omega) (by omega)
set_option maxRecDepth 100000 in
set_option maxHeartbeats 4000000 in
theorem op_now {xs : Nat → Int32} {n : Nat} {z : Int32} {a5 a6 : Option Value} {m k : Nat} {hp : ab_H} {t : Nat → Nat} {Q : ab_O → Prop} (H : sf_h t hp) (hs : lw_eq hp) (hz0 : 0 ≤ z.toInt) (hz1 : z.toInt + 6 ≤ n) (hn : n ≤ 3072) (hm : m + 21 ≤ 601024) (hk : k + 410 ≤ 7293034) (K : lw_K xs n z m k Q) : Ev (LT xs n) 507 ([some (.retAddr 0), some (.ref 0), some (.ref 69), some (.ref 87), some (.int z), a5, a6], [], (m, k), hp) Q := by
  refine Ev.step (j := 508) (s' := ([some (.retAddr 0), some (.ref 0), some (.ref 69), some (.ref 87), some (.int z), a5, a6], [.ref 0], (m, k), hp)) rfl rfl ?_
  refine Ev.step (j := 509) (s' := ([some (.retAddr 0), some (.ref 0), some (.ref 69), some (.ref 87), some (.int z), a5, a6], [.retAddr 0, .ref 0], (m, k), hp)) rfl rfl ?_
  refine Ev.step (j := 511) (s' := ([some (.retAddr 0), some (.ref 0), some (.ref 69), some (.ref 87), some (.int z), a5, a6], [.int z, .retAddr 0, .ref 0], (m, k), hp)) rfl rfl ?_
  refine bs_lit (k := 1) rfl rfl fun z121 hz121 => ?_
  refine bs_add rfl (by omega) (by omega) fun z122 hz122 => ?_
  refine ls_sld rfl (by omega) (by omega) ?_
  refine (show Ev _ 514 ([some (.retAddr 0), some (.ref 0), some (.ref 69), some (.ref 87), some (.int z), a5, a6], [.int (xs z122.toNatClampNeg), .ref 0], (m, k), hp) _ from ?_)
  refine bs_call (K := kq_X10_now_0df2a5) [.ref 0, .int (xs z122.toNatClampNeg)] [] rfl ct_X10_now_0df2a5 H rfl rfl rfl (bs_rcv (g := 10) H (bs_R.uq H (g := 10) rfl) (by decide) rfl) (ls_room (Nat.le_of_ble_eq_true rfl) (by omega) (by omega)) ?_ (sf_S_nil) fun r124 hp123 thp123 Hhp123 fhp123 ahp123 php123 => ?_
  · intro q k h
    match q, h with
    | 0, h => cases h; exact bs_jR (bs_R.uq H (g := 10) rfl)
    | 1, h => cases h; exact sf_j0
    | q + 2, h => cases h
  obtain ⟨z125, rfl⟩ := bs_anI ahp123
  have E126 := lw_keep H fhp123 rfl rfl hs
  refine (show Ev _ 517 ([some (.retAddr 0), some (.ref 0), some (.ref 69), some (.ref 87), some (.int z), a5, a6], [.int z125], (m + 0, k + 0), hp123) _ from ?_)
  refine Ev.step (j := 518) (s' := ([some (.retAddr 0), some (.ref 0), some (.ref 69), some (.ref 87), some (.int z), a5, a6], [], (m + 0, k + 0), hp123)) rfl rfl ?_
  refine Ev.step (j := 519) (s' := ([some (.retAddr 0), some (.ref 0), some (.ref 69), some (.ref 87), some (.int z), a5, a6], [.ref 69], (m + 0, k + 0), hp123)) rfl rfl ?_
  refine Ev.step (j := 520) (s' := ([some (.retAddr 0), some (.ref 0), some (.ref 69), some (.ref 87), some (.int z), a5, a6], [.retAddr 0, .ref 69], (m + 0, k + 0), hp123)) rfl rfl ?_
  refine Ev.step (j := 522) (s' := ([some (.retAddr 0), some (.ref 0), some (.ref 69), some (.ref 87), some (.int z), a5, a6], [.int z, .retAddr 0, .ref 69], (m + 0, k + 0), hp123)) rfl rfl ?_
  refine bs_lit (k := 1) rfl rfl fun z127 hz127 => ?_
  refine bs_add rfl (by omega) (by omega) fun z128 hz128 => ?_
  refine ls_sld rfl (by omega) (by omega) ?_
  refine (show Ev _ 525 ([some (.retAddr 0), some (.ref 0), some (.ref 69), some (.ref 87), some (.int z), a5, a6], [.int (xs z128.toNatClampNeg), .ref 69], (m + 0, k + 0), hp123) _ from ?_)
  refine bs_call (K := kq_X11_now_3d45d6) [.ref 69, .int (xs z128.toNatClampNeg)] [] rfl ct_X11_now_3d45d6 Hhp123 rfl rfl rfl (bs_rcv (g := 11) Hhp123 (bs_R.uq Hhp123 (g := 11) rfl) (by decide) rfl) (ls_room (Nat.le_of_ble_eq_true rfl) (by omega) (by omega)) ?_ (sf_S_nil) fun r130 hp129 thp129 Hhp129 fhp129 ahp129 php129 => ?_
  · intro q k h
    match q, h with
    | 0, h => cases h; exact bs_jR (bs_R.uq Hhp123 (g := 11) rfl)
    | 1, h => cases h; exact sf_j0
    | q + 2, h => cases h
  obtain ⟨z131, rfl⟩ := bs_anI ahp129
  have E132 := lw_keep Hhp123 fhp129 rfl rfl E126
  refine (show Ev _ 528 ([some (.retAddr 0), some (.ref 0), some (.ref 69), some (.ref 87), some (.int z), a5, a6], [.int z131], (m + 0 + 0, k + 0 + 0), hp129) _ from ?_)
  refine Ev.step (j := 529) (s' := ([some (.retAddr 0), some (.ref 0), some (.ref 69), some (.ref 87), some (.int z), a5, a6], [], (m + 0 + 0, k + 0 + 0), hp129)) rfl rfl ?_
  refine Ev.step (j := 1440) (s' := ([some (.retAddr 0), some (.ref 0), some (.ref 69), some (.ref 87), some (.int z), a5, a6], [], (m + 0 + 0, k + 0 + 0), hp129)) rfl rfl ?_
  exact K _ _ _ _ _ _ Hhp129 E132 (by omega) (by omega)
set_option maxRecDepth 100000 in
set_option maxHeartbeats 4000000 in
theorem op_hoard {xs : Nat → Int32} {n : Nat} {z : Int32} {a5 a6 : Option Value} {m k : Nat} {hp : ab_H} {t : Nat → Nat} {Q : ab_O → Prop} (H : sf_h t hp) (hs : lw_eq hp) (hz0 : 0 ≤ z.toInt) (hz1 : z.toInt + 6 ≤ n) (hn : n ≤ 3072) (hm : m + 21 ≤ 601024) (hk : k + 410 ≤ 7293034) (K : lw_K xs n z m k Q) : Ev (LT xs n) 532 ([some (.retAddr 0), some (.ref 0), some (.ref 69), some (.ref 87), some (.int z), a5, a6], [], (m, k), hp) Q := by
  refine Ev.step (j := 533) (s' := ([some (.retAddr 0), some (.ref 0), some (.ref 69), some (.ref 87), some (.int z), a5, a6], [.ref 0], (m, k), hp)) rfl rfl ?_
  refine Ev.step (j := 534) (s' := ([some (.retAddr 0), some (.ref 0), some (.ref 69), some (.ref 87), some (.int z), a5, a6], [.retAddr 0, .ref 0], (m, k), hp)) rfl rfl ?_
  refine Ev.step (j := 536) (s' := ([some (.retAddr 0), some (.ref 0), some (.ref 69), some (.ref 87), some (.int z), a5, a6], [.int z, .retAddr 0, .ref 0], (m, k), hp)) rfl rfl ?_
  refine bs_lit (k := 1) rfl rfl fun z133 hz133 => ?_
  refine bs_add rfl (by omega) (by omega) fun z134 hz134 => ?_
  refine ls_sld rfl (by omega) (by omega) ?_
  refine (show Ev _ 539 ([some (.retAddr 0), some (.ref 0), some (.ref 69), some (.ref 87), some (.int z), a5, a6], [.int (xs z134.toNatClampNeg), .ref 0], (m, k), hp) _ from ?_)
  refine Ev.step (j := 540) (s' := ([some (.retAddr 0), some (.ref 0), some (.ref 69), some (.ref 87), some (.int z), a5, a6], [.retAddr 0, .int (xs z134.toNatClampNeg), .ref 0], (m, k), hp)) rfl rfl ?_
  refine Ev.step (j := 542) (s' := ([some (.retAddr 0), some (.ref 0), some (.ref 69), some (.ref 87), some (.int z), a5, a6], [.int z, .retAddr 0, .int (xs z134.toNatClampNeg), .ref 0], (m, k), hp)) rfl rfl ?_
  refine bs_lit (k := 2) rfl rfl fun z135 hz135 => ?_
  refine bs_add rfl (by omega) (by omega) fun z136 hz136 => ?_
  refine ls_sld rfl (by omega) (by omega) ?_
  refine (show Ev _ 545 ([some (.retAddr 0), some (.ref 0), some (.ref 69), some (.ref 87), some (.int z), a5, a6], [.int (xs z136.toNatClampNeg), .int (xs z134.toNatClampNeg), .ref 0], (m, k), hp) _ from ?_)
  refine Ev.step (j := 546) (s' := ([some (.retAddr 0), some (.ref 0), some (.ref 69), some (.ref 87), some (.int z), a5, a6], [.retAddr 0, .int (xs z136.toNatClampNeg), .int (xs z134.toNatClampNeg), .ref 0], (m, k), hp)) rfl rfl ?_
  refine Ev.step (j := 548) (s' := ([some (.retAddr 0), some (.ref 0), some (.ref 69), some (.ref 87), some (.int z), a5, a6], [.int z, .retAddr 0, .int (xs z136.toNatClampNeg), .int (xs z134.toNatClampNeg), .ref 0], (m, k), hp)) rfl rfl ?_
  refine bs_lit (k := 3) rfl rfl fun z137 hz137 => ?_
  refine bs_add rfl (by omega) (by omega) fun z138 hz138 => ?_
  refine ls_sld rfl (by omega) (by omega) ?_
  refine (show Ev _ 551 ([some (.retAddr 0), some (.ref 0), some (.ref 69), some (.ref 87), some (.int z), a5, a6], [.int (xs z138.toNatClampNeg), .int (xs z136.toNatClampNeg), .int (xs z134.toNatClampNeg), .ref 0], (m, k), hp) _ from ?_)
  refine bs_call (K := kq_X10_hoard_7e6f69) [.ref 0, .int (xs z134.toNatClampNeg), .int (xs z136.toNatClampNeg), .int (xs z138.toNatClampNeg)] [] rfl ct_X10_hoard_7e6f69 H rfl rfl rfl (bs_rcv (g := 10) H (bs_R.uq H (g := 10) rfl) (by decide) rfl) (ls_room (Nat.le_of_ble_eq_true rfl) (by omega) (by omega)) ?_ (sf_S_nil) fun r140 hp139 thp139 Hhp139 fhp139 ahp139 php139 => ?_
  · intro q k h
    match q, h with
    | 0, h => cases h; exact bs_jR (bs_R.uq H (g := 10) rfl)
    | 1, h => cases h; exact sf_j0
    | 2, h => cases h; exact sf_j0
    | 3, h => cases h; exact sf_j0
    | q + 4, h => cases h
  obtain ⟨z141, rfl⟩ := bs_anI ahp139
  have E142 := lw_keep H fhp139 rfl rfl hs
  refine (show Ev _ 554 ([some (.retAddr 0), some (.ref 0), some (.ref 69), some (.ref 87), some (.int z), a5, a6], [.int z141], (m + 8, k + 138), hp139) _ from ?_)
  refine Ev.step (j := 555) (s' := ([some (.retAddr 0), some (.ref 0), some (.ref 69), some (.ref 87), some (.int z), a5, a6], [], (m + 8, k + 138), hp139)) rfl rfl ?_
  refine Ev.step (j := 556) (s' := ([some (.retAddr 0), some (.ref 0), some (.ref 69), some (.ref 87), some (.int z), a5, a6], [.ref 69], (m + 8, k + 138), hp139)) rfl rfl ?_
  refine Ev.step (j := 557) (s' := ([some (.retAddr 0), some (.ref 0), some (.ref 69), some (.ref 87), some (.int z), a5, a6], [.retAddr 0, .ref 69], (m + 8, k + 138), hp139)) rfl rfl ?_
  refine Ev.step (j := 559) (s' := ([some (.retAddr 0), some (.ref 0), some (.ref 69), some (.ref 87), some (.int z), a5, a6], [.int z, .retAddr 0, .ref 69], (m + 8, k + 138), hp139)) rfl rfl ?_
  refine bs_lit (k := 1) rfl rfl fun z143 hz143 => ?_
  refine bs_add rfl (by omega) (by omega) fun z144 hz144 => ?_
  refine ls_sld rfl (by omega) (by omega) ?_
  refine (show Ev _ 562 ([some (.retAddr 0), some (.ref 0), some (.ref 69), some (.ref 87), some (.int z), a5, a6], [.int (xs z144.toNatClampNeg), .ref 69], (m + 8, k + 138), hp139) _ from ?_)
  refine Ev.step (j := 563) (s' := ([some (.retAddr 0), some (.ref 0), some (.ref 69), some (.ref 87), some (.int z), a5, a6], [.retAddr 0, .int (xs z144.toNatClampNeg), .ref 69], (m + 8, k + 138), hp139)) rfl rfl ?_
  refine Ev.step (j := 565) (s' := ([some (.retAddr 0), some (.ref 0), some (.ref 69), some (.ref 87), some (.int z), a5, a6], [.int z, .retAddr 0, .int (xs z144.toNatClampNeg), .ref 69], (m + 8, k + 138), hp139)) rfl rfl ?_
  refine bs_lit (k := 2) rfl rfl fun z145 hz145 => ?_
  refine bs_add rfl (by omega) (by omega) fun z146 hz146 => ?_
  refine ls_sld rfl (by omega) (by omega) ?_
  refine (show Ev _ 568 ([some (.retAddr 0), some (.ref 0), some (.ref 69), some (.ref 87), some (.int z), a5, a6], [.int (xs z146.toNatClampNeg), .int (xs z144.toNatClampNeg), .ref 69], (m + 8, k + 138), hp139) _ from ?_)
  refine Ev.step (j := 569) (s' := ([some (.retAddr 0), some (.ref 0), some (.ref 69), some (.ref 87), some (.int z), a5, a6], [.retAddr 0, .int (xs z146.toNatClampNeg), .int (xs z144.toNatClampNeg), .ref 69], (m + 8, k + 138), hp139)) rfl rfl ?_
  refine Ev.step (j := 571) (s' := ([some (.retAddr 0), some (.ref 0), some (.ref 69), some (.ref 87), some (.int z), a5, a6], [.int z, .retAddr 0, .int (xs z146.toNatClampNeg), .int (xs z144.toNatClampNeg), .ref 69], (m + 8, k + 138), hp139)) rfl rfl ?_
  refine bs_lit (k := 3) rfl rfl fun z147 hz147 => ?_
  refine bs_add rfl (by omega) (by omega) fun z148 hz148 => ?_
  refine ls_sld rfl (by omega) (by omega) ?_
  refine (show Ev _ 574 ([some (.retAddr 0), some (.ref 0), some (.ref 69), some (.ref 87), some (.int z), a5, a6], [.int (xs z148.toNatClampNeg), .int (xs z146.toNatClampNeg), .int (xs z144.toNatClampNeg), .ref 69], (m + 8, k + 138), hp139) _ from ?_)
  refine bs_call (K := kq_X11_hoard_h) [.ref 69, .int (xs z144.toNatClampNeg), .int (xs z146.toNatClampNeg), .int (xs z148.toNatClampNeg)] [] rfl ct_X11_hoard_h Hhp139 rfl rfl rfl (bs_rcv (g := 11) Hhp139 (bs_R.uq Hhp139 (g := 11) rfl) (by decide) rfl) (ls_room (Nat.le_of_ble_eq_true rfl) (by omega) (by omega)) ?_ (sf_S_nil) fun r150 hp149 thp149 Hhp149 fhp149 ahp149 php149 => ?_
  · intro q k h
    match q, h with
    | 0, h => cases h; exact bs_jR (bs_R.uq Hhp139 (g := 11) rfl)
    | 1, h => cases h; exact sf_j0
    | 2, h => cases h; exact sf_j0
    | 3, h => cases h; exact sf_j0
    | q + 4, h => cases h
  obtain ⟨z151, rfl⟩ := bs_anI ahp149
  have E152 := lw_keep Hhp139 fhp149 rfl rfl E142
  refine (show Ev _ 577 ([some (.retAddr 0), some (.ref 0), some (.ref 69), some (.ref 87), some (.int z), a5, a6], [.int z151], (m + 8 + 0, k + 138 + 0), hp149) _ from ?_)
  refine Ev.step (j := 578) (s' := ([some (.retAddr 0), some (.ref 0), some (.ref 69), some (.ref 87), some (.int z), a5, a6], [], (m + 8 + 0, k + 138 + 0), hp149)) rfl rfl ?_
  refine Ev.step (j := 1440) (s' := ([some (.retAddr 0), some (.ref 0), some (.ref 69), some (.ref 87), some (.int z), a5, a6], [], (m + 8 + 0, k + 138 + 0), hp149)) rfl rfl ?_
  exact K _ _ _ _ _ _ Hhp149 E152 (by omega) (by omega)
set_option maxRecDepth 100000 in
set_option maxHeartbeats 4000000 in
theorem op_bare {xs : Nat → Int32} {n : Nat} {z : Int32} {a5 a6 : Option Value} {m k : Nat} {hp : ab_H} {t : Nat → Nat} {Q : ab_O → Prop} (H : sf_h t hp) (hs : lw_eq hp) (hz0 : 0 ≤ z.toInt) (hz1 : z.toInt + 6 ≤ n) (hn : n ≤ 3072) (hm : m + 21 ≤ 601024) (hk : k + 410 ≤ 7293034) (K : lw_K xs n z m k Q) : Ev (LT xs n) 581 ([some (.retAddr 0), some (.ref 0), some (.ref 69), some (.ref 87), some (.int z), a5, a6], [], (m, k), hp) Q := by
  refine Ev.step (j := 582) (s' := ([some (.retAddr 0), some (.ref 0), some (.ref 69), some (.ref 87), some (.int z), a5, a6], [.ref 0], (m, k), hp)) rfl rfl ?_
  refine Ev.step (j := 583) (s' := ([some (.retAddr 0), some (.ref 0), some (.ref 69), some (.ref 87), some (.int z), a5, a6], [.retAddr 0, .ref 0], (m, k), hp)) rfl rfl ?_
  refine Ev.step (j := 585) (s' := ([some (.retAddr 0), some (.ref 0), some (.ref 69), some (.ref 87), some (.int z), a5, a6], [.int z, .retAddr 0, .ref 0], (m, k), hp)) rfl rfl ?_
  refine bs_lit (k := 1) rfl rfl fun z153 hz153 => ?_
  refine bs_add rfl (by omega) (by omega) fun z154 hz154 => ?_
  refine ls_sld rfl (by omega) (by omega) ?_
  refine (show Ev _ 588 ([some (.retAddr 0), some (.ref 0), some (.ref 69), some (.ref 87), some (.int z), a5, a6], [.int (xs z154.toNatClampNeg), .ref 0], (m, k), hp) _ from ?_)
  refine Ev.step (j := 589) (s' := ([some (.retAddr 0), some (.ref 0), some (.ref 69), some (.ref 87), some (.int z), a5, a6], [.retAddr 0, .int (xs z154.toNatClampNeg), .ref 0], (m, k), hp)) rfl rfl ?_
  refine Ev.step (j := 591) (s' := ([some (.retAddr 0), some (.ref 0), some (.ref 69), some (.ref 87), some (.int z), a5, a6], [.int z, .retAddr 0, .int (xs z154.toNatClampNeg), .ref 0], (m, k), hp)) rfl rfl ?_
  refine bs_lit (k := 2) rfl rfl fun z155 hz155 => ?_
  refine bs_add rfl (by omega) (by omega) fun z156 hz156 => ?_
  refine ls_sld rfl (by omega) (by omega) ?_
  refine (show Ev _ 594 ([some (.retAddr 0), some (.ref 0), some (.ref 69), some (.ref 87), some (.int z), a5, a6], [.int (xs z156.toNatClampNeg), .int (xs z154.toNatClampNeg), .ref 0], (m, k), hp) _ from ?_)
  refine Ev.step (j := 595) (s' := ([some (.retAddr 0), some (.ref 0), some (.ref 69), some (.ref 87), some (.int z), a5, a6], [.retAddr 0, .int (xs z156.toNatClampNeg), .int (xs z154.toNatClampNeg), .ref 0], (m, k), hp)) rfl rfl ?_
  refine Ev.step (j := 597) (s' := ([some (.retAddr 0), some (.ref 0), some (.ref 69), some (.ref 87), some (.int z), a5, a6], [.int z, .retAddr 0, .int (xs z156.toNatClampNeg), .int (xs z154.toNatClampNeg), .ref 0], (m, k), hp)) rfl rfl ?_
  refine bs_lit (k := 3) rfl rfl fun z157 hz157 => ?_
  refine bs_add rfl (by omega) (by omega) fun z158 hz158 => ?_
  refine ls_sld rfl (by omega) (by omega) ?_
  refine (show Ev _ 600 ([some (.retAddr 0), some (.ref 0), some (.ref 69), some (.ref 87), some (.int z), a5, a6], [.int (xs z158.toNatClampNeg), .int (xs z156.toNatClampNeg), .int (xs z154.toNatClampNeg), .ref 0], (m, k), hp) _ from ?_)
  refine bs_call (K := kq_X10_bare_7e6f69) [.ref 0, .int (xs z154.toNatClampNeg), .int (xs z156.toNatClampNeg), .int (xs z158.toNatClampNeg)] [] rfl ct_X10_bare_7e6f69 H rfl rfl rfl (bs_rcv (g := 10) H (bs_R.uq H (g := 10) rfl) (by decide) rfl) (ls_room (Nat.le_of_ble_eq_true rfl) (by omega) (by omega)) ?_ (sf_S_nil) fun r160 hp159 thp159 Hhp159 fhp159 ahp159 php159 => ?_
  · intro q k h
    match q, h with
    | 0, h => cases h; exact bs_jR (bs_R.uq H (g := 10) rfl)
    | 1, h => cases h; exact sf_j0
    | 2, h => cases h; exact sf_j0
    | 3, h => cases h; exact sf_j0
    | q + 4, h => cases h
  obtain ⟨z161, rfl⟩ := bs_anI ahp159
  have E162 := lw_keep H fhp159 rfl rfl hs
  refine (show Ev _ 603 ([some (.retAddr 0), some (.ref 0), some (.ref 69), some (.ref 87), some (.int z), a5, a6], [.int z161], (m + 8, k + 138), hp159) _ from ?_)
  refine Ev.step (j := 604) (s' := ([some (.retAddr 0), some (.ref 0), some (.ref 69), some (.ref 87), some (.int z), a5, a6], [], (m + 8, k + 138), hp159)) rfl rfl ?_
  refine Ev.step (j := 605) (s' := ([some (.retAddr 0), some (.ref 0), some (.ref 69), some (.ref 87), some (.int z), a5, a6], [.ref 69], (m + 8, k + 138), hp159)) rfl rfl ?_
  refine Ev.step (j := 606) (s' := ([some (.retAddr 0), some (.ref 0), some (.ref 69), some (.ref 87), some (.int z), a5, a6], [.retAddr 0, .ref 69], (m + 8, k + 138), hp159)) rfl rfl ?_
  refine Ev.step (j := 608) (s' := ([some (.retAddr 0), some (.ref 0), some (.ref 69), some (.ref 87), some (.int z), a5, a6], [.int z, .retAddr 0, .ref 69], (m + 8, k + 138), hp159)) rfl rfl ?_
  refine bs_lit (k := 1) rfl rfl fun z163 hz163 => ?_
  refine bs_add rfl (by omega) (by omega) fun z164 hz164 => ?_
  refine ls_sld rfl (by omega) (by omega) ?_
  refine (show Ev _ 611 ([some (.retAddr 0), some (.ref 0), some (.ref 69), some (.ref 87), some (.int z), a5, a6], [.int (xs z164.toNatClampNeg), .ref 69], (m + 8, k + 138), hp159) _ from ?_)
  refine Ev.step (j := 612) (s' := ([some (.retAddr 0), some (.ref 0), some (.ref 69), some (.ref 87), some (.int z), a5, a6], [.retAddr 0, .int (xs z164.toNatClampNeg), .ref 69], (m + 8, k + 138), hp159)) rfl rfl ?_
  refine Ev.step (j := 614) (s' := ([some (.retAddr 0), some (.ref 0), some (.ref 69), some (.ref 87), some (.int z), a5, a6], [.int z, .retAddr 0, .int (xs z164.toNatClampNeg), .ref 69], (m + 8, k + 138), hp159)) rfl rfl ?_
  refine bs_lit (k := 2) rfl rfl fun z165 hz165 => ?_
  refine bs_add rfl (by omega) (by omega) fun z166 hz166 => ?_
  refine ls_sld rfl (by omega) (by omega) ?_
  refine (show Ev _ 617 ([some (.retAddr 0), some (.ref 0), some (.ref 69), some (.ref 87), some (.int z), a5, a6], [.int (xs z166.toNatClampNeg), .int (xs z164.toNatClampNeg), .ref 69], (m + 8, k + 138), hp159) _ from ?_)
  refine Ev.step (j := 618) (s' := ([some (.retAddr 0), some (.ref 0), some (.ref 69), some (.ref 87), some (.int z), a5, a6], [.retAddr 0, .int (xs z166.toNatClampNeg), .int (xs z164.toNatClampNeg), .ref 69], (m + 8, k + 138), hp159)) rfl rfl ?_
  refine Ev.step (j := 620) (s' := ([some (.retAddr 0), some (.ref 0), some (.ref 69), some (.ref 87), some (.int z), a5, a6], [.int z, .retAddr 0, .int (xs z166.toNatClampNeg), .int (xs z164.toNatClampNeg), .ref 69], (m + 8, k + 138), hp159)) rfl rfl ?_
  refine bs_lit (k := 3) rfl rfl fun z167 hz167 => ?_
  refine bs_add rfl (by omega) (by omega) fun z168 hz168 => ?_
  refine ls_sld rfl (by omega) (by omega) ?_
  refine (show Ev _ 623 ([some (.retAddr 0), some (.ref 0), some (.ref 69), some (.ref 87), some (.int z), a5, a6], [.int (xs z168.toNatClampNeg), .int (xs z166.toNatClampNeg), .int (xs z164.toNatClampNeg), .ref 69], (m + 8, k + 138), hp159) _ from ?_)
  refine bs_call (K := kq_X11_bare_h) [.ref 69, .int (xs z164.toNatClampNeg), .int (xs z166.toNatClampNeg), .int (xs z168.toNatClampNeg)] [] rfl ct_X11_bare_h Hhp159 rfl rfl rfl (bs_rcv (g := 11) Hhp159 (bs_R.uq Hhp159 (g := 11) rfl) (by decide) rfl) (ls_room (Nat.le_of_ble_eq_true rfl) (by omega) (by omega)) ?_ (sf_S_nil) fun r170 hp169 thp169 Hhp169 fhp169 ahp169 php169 => ?_
  · intro q k h
    match q, h with
    | 0, h => cases h; exact bs_jR (bs_R.uq Hhp159 (g := 11) rfl)
    | 1, h => cases h; exact sf_j0
    | 2, h => cases h; exact sf_j0
    | 3, h => cases h; exact sf_j0
    | q + 4, h => cases h
  obtain ⟨z171, rfl⟩ := bs_anI ahp169
  have E172 := lw_keep Hhp159 fhp169 rfl rfl E162
  refine (show Ev _ 626 ([some (.retAddr 0), some (.ref 0), some (.ref 69), some (.ref 87), some (.int z), a5, a6], [.int z171], (m + 8 + 0, k + 138 + 0), hp169) _ from ?_)
  refine Ev.step (j := 627) (s' := ([some (.retAddr 0), some (.ref 0), some (.ref 69), some (.ref 87), some (.int z), a5, a6], [], (m + 8 + 0, k + 138 + 0), hp169)) rfl rfl ?_
  refine Ev.step (j := 1440) (s' := ([some (.retAddr 0), some (.ref 0), some (.ref 69), some (.ref 87), some (.int z), a5, a6], [], (m + 8 + 0, k + 138 + 0), hp169)) rfl rfl ?_
  exact K _ _ _ _ _ _ Hhp169 E172 (by omega) (by omega)
set_option maxRecDepth 100000 in
set_option maxHeartbeats 4000000 in
theorem op_waste {xs : Nat → Int32} {n : Nat} {z : Int32} {a5 a6 : Option Value} {m k : Nat} {hp : ab_H} {t : Nat → Nat} {Q : ab_O → Prop} (H : sf_h t hp) (hs : lw_eq hp) (hz0 : 0 ≤ z.toInt) (hz1 : z.toInt + 6 ≤ n) (hn : n ≤ 3072) (hm : m + 21 ≤ 601024) (hk : k + 410 ≤ 7293034) (K : lw_K xs n z m k Q) : Ev (LT xs n) 630 ([some (.retAddr 0), some (.ref 0), some (.ref 69), some (.ref 87), some (.int z), a5, a6], [], (m, k), hp) Q := by
  refine Ev.step (j := 631) (s' := ([some (.retAddr 0), some (.ref 0), some (.ref 69), some (.ref 87), some (.int z), a5, a6], [.ref 0], (m, k), hp)) rfl rfl ?_
  refine Ev.step (j := 632) (s' := ([some (.retAddr 0), some (.ref 0), some (.ref 69), some (.ref 87), some (.int z), a5, a6], [.retAddr 0, .ref 0], (m, k), hp)) rfl rfl ?_
  refine Ev.step (j := 634) (s' := ([some (.retAddr 0), some (.ref 0), some (.ref 69), some (.ref 87), some (.int z), a5, a6], [.int z, .retAddr 0, .ref 0], (m, k), hp)) rfl rfl ?_
  refine bs_lit (k := 1) rfl rfl fun z173 hz173 => ?_
  refine bs_add rfl (by omega) (by omega) fun z174 hz174 => ?_
  refine ls_sld rfl (by omega) (by omega) ?_
  refine (show Ev _ 637 ([some (.retAddr 0), some (.ref 0), some (.ref 69), some (.ref 87), some (.int z), a5, a6], [.int (xs z174.toNatClampNeg), .ref 0], (m, k), hp) _ from ?_)
  refine Ev.step (j := 638) (s' := ([some (.retAddr 0), some (.ref 0), some (.ref 69), some (.ref 87), some (.int z), a5, a6], [.retAddr 0, .int (xs z174.toNatClampNeg), .ref 0], (m, k), hp)) rfl rfl ?_
  refine Ev.step (j := 640) (s' := ([some (.retAddr 0), some (.ref 0), some (.ref 69), some (.ref 87), some (.int z), a5, a6], [.int z, .retAddr 0, .int (xs z174.toNatClampNeg), .ref 0], (m, k), hp)) rfl rfl ?_
  refine bs_lit (k := 2) rfl rfl fun z175 hz175 => ?_
  refine bs_add rfl (by omega) (by omega) fun z176 hz176 => ?_
  refine ls_sld rfl (by omega) (by omega) ?_
  refine (show Ev _ 643 ([some (.retAddr 0), some (.ref 0), some (.ref 69), some (.ref 87), some (.int z), a5, a6], [.int (xs z176.toNatClampNeg), .int (xs z174.toNatClampNeg), .ref 0], (m, k), hp) _ from ?_)
  refine Ev.step (j := 644) (s' := ([some (.retAddr 0), some (.ref 0), some (.ref 69), some (.ref 87), some (.int z), a5, a6], [.retAddr 0, .int (xs z176.toNatClampNeg), .int (xs z174.toNatClampNeg), .ref 0], (m, k), hp)) rfl rfl ?_
  refine Ev.step (j := 646) (s' := ([some (.retAddr 0), some (.ref 0), some (.ref 69), some (.ref 87), some (.int z), a5, a6], [.int z, .retAddr 0, .int (xs z176.toNatClampNeg), .int (xs z174.toNatClampNeg), .ref 0], (m, k), hp)) rfl rfl ?_
  refine bs_lit (k := 3) rfl rfl fun z177 hz177 => ?_
  refine bs_add rfl (by omega) (by omega) fun z178 hz178 => ?_
  refine ls_sld rfl (by omega) (by omega) ?_
  refine (show Ev _ 649 ([some (.retAddr 0), some (.ref 0), some (.ref 69), some (.ref 87), some (.int z), a5, a6], [.int (xs z178.toNatClampNeg), .int (xs z176.toNatClampNeg), .int (xs z174.toNatClampNeg), .ref 0], (m, k), hp) _ from ?_)
  refine bs_call (K := kq_X10_waste_7e6f69) [.ref 0, .int (xs z174.toNatClampNeg), .int (xs z176.toNatClampNeg), .int (xs z178.toNatClampNeg)] [] rfl ct_X10_waste_7e6f69 H rfl rfl rfl (bs_rcv (g := 10) H (bs_R.uq H (g := 10) rfl) (by decide) rfl) (ls_room (Nat.le_of_ble_eq_true rfl) (by omega) (by omega)) ?_ (sf_S_nil) fun r180 hp179 thp179 Hhp179 fhp179 ahp179 php179 => ?_
  · intro q k h
    match q, h with
    | 0, h => cases h; exact bs_jR (bs_R.uq H (g := 10) rfl)
    | 1, h => cases h; exact sf_j0
    | 2, h => cases h; exact sf_j0
    | 3, h => cases h; exact sf_j0
    | q + 4, h => cases h
  obtain ⟨z181, rfl⟩ := bs_anI ahp179
  have E182 := lw_keep H fhp179 rfl rfl hs
  refine (show Ev _ 652 ([some (.retAddr 0), some (.ref 0), some (.ref 69), some (.ref 87), some (.int z), a5, a6], [.int z181], (m + 8, k + 138), hp179) _ from ?_)
  refine Ev.step (j := 653) (s' := ([some (.retAddr 0), some (.ref 0), some (.ref 69), some (.ref 87), some (.int z), a5, a6], [], (m + 8, k + 138), hp179)) rfl rfl ?_
  refine Ev.step (j := 654) (s' := ([some (.retAddr 0), some (.ref 0), some (.ref 69), some (.ref 87), some (.int z), a5, a6], [.ref 69], (m + 8, k + 138), hp179)) rfl rfl ?_
  refine Ev.step (j := 655) (s' := ([some (.retAddr 0), some (.ref 0), some (.ref 69), some (.ref 87), some (.int z), a5, a6], [.retAddr 0, .ref 69], (m + 8, k + 138), hp179)) rfl rfl ?_
  refine Ev.step (j := 657) (s' := ([some (.retAddr 0), some (.ref 0), some (.ref 69), some (.ref 87), some (.int z), a5, a6], [.int z, .retAddr 0, .ref 69], (m + 8, k + 138), hp179)) rfl rfl ?_
  refine bs_lit (k := 1) rfl rfl fun z183 hz183 => ?_
  refine bs_add rfl (by omega) (by omega) fun z184 hz184 => ?_
  refine ls_sld rfl (by omega) (by omega) ?_
  refine (show Ev _ 660 ([some (.retAddr 0), some (.ref 0), some (.ref 69), some (.ref 87), some (.int z), a5, a6], [.int (xs z184.toNatClampNeg), .ref 69], (m + 8, k + 138), hp179) _ from ?_)
  refine Ev.step (j := 661) (s' := ([some (.retAddr 0), some (.ref 0), some (.ref 69), some (.ref 87), some (.int z), a5, a6], [.retAddr 0, .int (xs z184.toNatClampNeg), .ref 69], (m + 8, k + 138), hp179)) rfl rfl ?_
  refine Ev.step (j := 663) (s' := ([some (.retAddr 0), some (.ref 0), some (.ref 69), some (.ref 87), some (.int z), a5, a6], [.int z, .retAddr 0, .int (xs z184.toNatClampNeg), .ref 69], (m + 8, k + 138), hp179)) rfl rfl ?_
  refine bs_lit (k := 2) rfl rfl fun z185 hz185 => ?_
  refine bs_add rfl (by omega) (by omega) fun z186 hz186 => ?_
  refine ls_sld rfl (by omega) (by omega) ?_
  refine (show Ev _ 666 ([some (.retAddr 0), some (.ref 0), some (.ref 69), some (.ref 87), some (.int z), a5, a6], [.int (xs z186.toNatClampNeg), .int (xs z184.toNatClampNeg), .ref 69], (m + 8, k + 138), hp179) _ from ?_)
  refine Ev.step (j := 667) (s' := ([some (.retAddr 0), some (.ref 0), some (.ref 69), some (.ref 87), some (.int z), a5, a6], [.retAddr 0, .int (xs z186.toNatClampNeg), .int (xs z184.toNatClampNeg), .ref 69], (m + 8, k + 138), hp179)) rfl rfl ?_
  refine Ev.step (j := 669) (s' := ([some (.retAddr 0), some (.ref 0), some (.ref 69), some (.ref 87), some (.int z), a5, a6], [.int z, .retAddr 0, .int (xs z186.toNatClampNeg), .int (xs z184.toNatClampNeg), .ref 69], (m + 8, k + 138), hp179)) rfl rfl ?_
  refine bs_lit (k := 3) rfl rfl fun z187 hz187 => ?_
  refine bs_add rfl (by omega) (by omega) fun z188 hz188 => ?_
  refine ls_sld rfl (by omega) (by omega) ?_
  refine (show Ev _ 672 ([some (.retAddr 0), some (.ref 0), some (.ref 69), some (.ref 87), some (.int z), a5, a6], [.int (xs z188.toNatClampNeg), .int (xs z186.toNatClampNeg), .int (xs z184.toNatClampNeg), .ref 69], (m + 8, k + 138), hp179) _ from ?_)
  refine bs_call (K := kq_X11_waste_h) [.ref 69, .int (xs z184.toNatClampNeg), .int (xs z186.toNatClampNeg), .int (xs z188.toNatClampNeg)] [] rfl ct_X11_waste_h Hhp179 rfl rfl rfl (bs_rcv (g := 11) Hhp179 (bs_R.uq Hhp179 (g := 11) rfl) (by decide) rfl) (ls_room (Nat.le_of_ble_eq_true rfl) (by omega) (by omega)) ?_ (sf_S_nil) fun r190 hp189 thp189 Hhp189 fhp189 ahp189 php189 => ?_
  · intro q k h
    match q, h with
    | 0, h => cases h; exact bs_jR (bs_R.uq Hhp179 (g := 11) rfl)
    | 1, h => cases h; exact sf_j0
    | 2, h => cases h; exact sf_j0
    | 3, h => cases h; exact sf_j0
    | q + 4, h => cases h
  obtain ⟨z191, rfl⟩ := bs_anI ahp189
  have E192 := lw_keep Hhp179 fhp189 rfl rfl E182
  refine (show Ev _ 675 ([some (.retAddr 0), some (.ref 0), some (.ref 69), some (.ref 87), some (.int z), a5, a6], [.int z191], (m + 8 + 0, k + 138 + 0), hp189) _ from ?_)
  refine Ev.step (j := 676) (s' := ([some (.retAddr 0), some (.ref 0), some (.ref 69), some (.ref 87), some (.int z), a5, a6], [], (m + 8 + 0, k + 138 + 0), hp189)) rfl rfl ?_
  refine Ev.step (j := 1440) (s' := ([some (.retAddr 0), some (.ref 0), some (.ref 69), some (.ref 87), some (.int z), a5, a6], [], (m + 8 + 0, k + 138 + 0), hp189)) rfl rfl ?_
  exact K _ _ _ _ _ _ Hhp189 E192 (by omega) (by omega)
set_option maxRecDepth 100000 in
set_option maxHeartbeats 4000000 in
theorem op_die {xs : Nat → Int32} {n : Nat} {z : Int32} {a5 a6 : Option Value} {m k : Nat} {hp : ab_H} {t : Nat → Nat} {Q : ab_O → Prop} (H : sf_h t hp) (hs : lw_eq hp) (hz0 : 0 ≤ z.toInt) (hz1 : z.toInt + 6 ≤ n) (hn : n ≤ 3072) (hm : m + 21 ≤ 601024) (hk : k + 410 ≤ 7293034) (K : lw_K xs n z m k Q) : Ev (LT xs n) 679 ([some (.retAddr 0), some (.ref 0), some (.ref 69), some (.ref 87), some (.int z), a5, a6], [], (m, k), hp) Q := by
  refine Ev.step (j := 680) (s' := ([some (.retAddr 0), some (.ref 0), some (.ref 69), some (.ref 87), some (.int z), a5, a6], [.ref 0], (m, k), hp)) rfl rfl ?_
  refine Ev.step (j := 681) (s' := ([some (.retAddr 0), some (.ref 0), some (.ref 69), some (.ref 87), some (.int z), a5, a6], [.retAddr 0, .ref 0], (m, k), hp)) rfl rfl ?_
  refine Ev.step (j := 683) (s' := ([some (.retAddr 0), some (.ref 0), some (.ref 69), some (.ref 87), some (.int z), a5, a6], [.int z, .retAddr 0, .ref 0], (m, k), hp)) rfl rfl ?_
  refine bs_lit (k := 1) rfl rfl fun z193 hz193 => ?_
  refine bs_add rfl (by omega) (by omega) fun z194 hz194 => ?_
  refine ls_sld rfl (by omega) (by omega) ?_
  refine (show Ev _ 686 ([some (.retAddr 0), some (.ref 0), some (.ref 69), some (.ref 87), some (.int z), a5, a6], [.int (xs z194.toNatClampNeg), .ref 0], (m, k), hp) _ from ?_)
  refine bs_call (K := kq_X10_die_0df2a5) [.ref 0, .int (xs z194.toNatClampNeg)] [] rfl ct_X10_die_0df2a5 H rfl rfl rfl (bs_rcv (g := 10) H (bs_R.uq H (g := 10) rfl) (by decide) rfl) (ls_room (Nat.le_of_ble_eq_true rfl) (by omega) (by omega)) ?_ (sf_S_nil) fun r196 hp195 thp195 Hhp195 fhp195 ahp195 php195 => ?_
  · intro q k h
    match q, h with
    | 0, h => cases h; exact bs_jR (bs_R.uq H (g := 10) rfl)
    | 1, h => cases h; exact sf_j0
    | q + 2, h => cases h
  obtain ⟨z197, rfl⟩ := bs_anI ahp195
  have E198 := lw_keep H fhp195 rfl rfl hs
  refine (show Ev _ 689 ([some (.retAddr 0), some (.ref 0), some (.ref 69), some (.ref 87), some (.int z), a5, a6], [.int z197], (m + 8, k + 138), hp195) _ from ?_)
  refine Ev.step (j := 690) (s' := ([some (.retAddr 0), some (.ref 0), some (.ref 69), some (.ref 87), some (.int z), a5, a6], [], (m + 8, k + 138), hp195)) rfl rfl ?_
  refine Ev.step (j := 691) (s' := ([some (.retAddr 0), some (.ref 0), some (.ref 69), some (.ref 87), some (.int z), a5, a6], [.ref 69], (m + 8, k + 138), hp195)) rfl rfl ?_
  refine Ev.step (j := 692) (s' := ([some (.retAddr 0), some (.ref 0), some (.ref 69), some (.ref 87), some (.int z), a5, a6], [.retAddr 0, .ref 69], (m + 8, k + 138), hp195)) rfl rfl ?_
  refine Ev.step (j := 694) (s' := ([some (.retAddr 0), some (.ref 0), some (.ref 69), some (.ref 87), some (.int z), a5, a6], [.int z, .retAddr 0, .ref 69], (m + 8, k + 138), hp195)) rfl rfl ?_
  refine bs_lit (k := 1) rfl rfl fun z199 hz199 => ?_
  refine bs_add rfl (by omega) (by omega) fun z200 hz200 => ?_
  refine ls_sld rfl (by omega) (by omega) ?_
  refine (show Ev _ 697 ([some (.retAddr 0), some (.ref 0), some (.ref 69), some (.ref 87), some (.int z), a5, a6], [.int (xs z200.toNatClampNeg), .ref 69], (m + 8, k + 138), hp195) _ from ?_)
  refine bs_call (K := kq_X11_die_3d45d6) [.ref 69, .int (xs z200.toNatClampNeg)] [] rfl ct_X11_die_3d45d6 Hhp195 rfl rfl rfl (bs_rcv (g := 11) Hhp195 (bs_R.uq Hhp195 (g := 11) rfl) (by decide) rfl) (ls_room (Nat.le_of_ble_eq_true rfl) (by omega) (by omega)) ?_ (sf_S_nil) fun r202 hp201 thp201 Hhp201 fhp201 ahp201 php201 => ?_
  · intro q k h
    match q, h with
    | 0, h => cases h; exact bs_jR (bs_R.uq Hhp195 (g := 11) rfl)
    | 1, h => cases h; exact sf_j0
    | q + 2, h => cases h
  obtain ⟨z203, rfl⟩ := bs_anI ahp201
  have E204 := lw_keep Hhp195 fhp201 rfl rfl E198
  refine (show Ev _ 700 ([some (.retAddr 0), some (.ref 0), some (.ref 69), some (.ref 87), some (.int z), a5, a6], [.int z203], (m + 8 + 0, k + 138 + 0), hp201) _ from ?_)
  refine Ev.step (j := 701) (s' := ([some (.retAddr 0), some (.ref 0), some (.ref 69), some (.ref 87), some (.int z), a5, a6], [], (m + 8 + 0, k + 138 + 0), hp201)) rfl rfl ?_
  refine Ev.step (j := 1440) (s' := ([some (.retAddr 0), some (.ref 0), some (.ref 69), some (.ref 87), some (.int z), a5, a6], [], (m + 8 + 0, k + 138 + 0), hp201)) rfl rfl ?_
  exact K _ _ _ _ _ _ Hhp201 E204 (by omega) (by omega)
set_option maxRecDepth 100000 in
set_option maxHeartbeats 4000000 in
theorem op_days {xs : Nat → Int32} {n : Nat} {z : Int32} {a5 a6 : Option Value} {m k : Nat} {hp : ab_H} {t : Nat → Nat} {Q : ab_O → Prop} (H : sf_h t hp) (hs : lw_eq hp) (hz0 : 0 ≤ z.toInt) (hz1 : z.toInt + 6 ≤ n) (hn : n ≤ 3072) (hm : m + 21 ≤ 601024) (hk : k + 410 ≤ 7293034) (K : lw_K xs n z m k Q) : Ev (LT xs n) 704 ([some (.retAddr 0), some (.ref 0), some (.ref 69), some (.ref 87), some (.int z), a5, a6], [], (m, k), hp) Q := by
  refine Ev.step (j := 705) (s' := ([some (.retAddr 0), some (.ref 0), some (.ref 69), some (.ref 87), some (.int z), a5, a6], [.ref 0], (m, k), hp)) rfl rfl ?_
  refine Ev.step (j := 706) (s' := ([some (.retAddr 0), some (.ref 0), some (.ref 69), some (.ref 87), some (.int z), a5, a6], [.retAddr 0, .ref 0], (m, k), hp)) rfl rfl ?_
  refine Ev.step (j := 708) (s' := ([some (.retAddr 0), some (.ref 0), some (.ref 69), some (.ref 87), some (.int z), a5, a6], [.int z, .retAddr 0, .ref 0], (m, k), hp)) rfl rfl ?_
  refine bs_lit (k := 1) rfl rfl fun z205 hz205 => ?_
  refine bs_add rfl (by omega) (by omega) fun z206 hz206 => ?_
  refine ls_sld rfl (by omega) (by omega) ?_
  refine (show Ev _ 711 ([some (.retAddr 0), some (.ref 0), some (.ref 69), some (.ref 87), some (.int z), a5, a6], [.int (xs z206.toNatClampNeg), .ref 0], (m, k), hp) _ from ?_)
  refine bs_call (K := kq_X10_days_0df2a5) [.ref 0, .int (xs z206.toNatClampNeg)] [] rfl ct_X10_days_0df2a5 H rfl rfl rfl (bs_rcv (g := 10) H (bs_R.uq H (g := 10) rfl) (by decide) rfl) (ls_room (Nat.le_of_ble_eq_true rfl) (by omega) (by omega)) ?_ (sf_S_nil) fun r208 hp207 thp207 Hhp207 fhp207 ahp207 php207 => ?_
  · intro q k h
    match q, h with
    | 0, h => cases h; exact bs_jR (bs_R.uq H (g := 10) rfl)
    | 1, h => cases h; exact sf_j0
    | q + 2, h => cases h
  obtain ⟨z209, rfl⟩ := bs_anI ahp207
  have E210 := lw_keep H fhp207 rfl rfl hs
  refine (show Ev _ 714 ([some (.retAddr 0), some (.ref 0), some (.ref 69), some (.ref 87), some (.int z), a5, a6], [.int z209], (m + 8, k + 138), hp207) _ from ?_)
  refine Ev.step (j := 715) (s' := ([some (.retAddr 0), some (.ref 0), some (.ref 69), some (.ref 87), some (.int z), a5, a6], [], (m + 8, k + 138), hp207)) rfl rfl ?_
  refine Ev.step (j := 716) (s' := ([some (.retAddr 0), some (.ref 0), some (.ref 69), some (.ref 87), some (.int z), a5, a6], [.ref 69], (m + 8, k + 138), hp207)) rfl rfl ?_
  refine Ev.step (j := 717) (s' := ([some (.retAddr 0), some (.ref 0), some (.ref 69), some (.ref 87), some (.int z), a5, a6], [.retAddr 0, .ref 69], (m + 8, k + 138), hp207)) rfl rfl ?_
  refine Ev.step (j := 719) (s' := ([some (.retAddr 0), some (.ref 0), some (.ref 69), some (.ref 87), some (.int z), a5, a6], [.int z, .retAddr 0, .ref 69], (m + 8, k + 138), hp207)) rfl rfl ?_
  refine bs_lit (k := 1) rfl rfl fun z211 hz211 => ?_
  refine bs_add rfl (by omega) (by omega) fun z212 hz212 => ?_
  refine ls_sld rfl (by omega) (by omega) ?_
  refine (show Ev _ 722 ([some (.retAddr 0), some (.ref 0), some (.ref 69), some (.ref 87), some (.int z), a5, a6], [.int (xs z212.toNatClampNeg), .ref 69], (m + 8, k + 138), hp207) _ from ?_)
  refine bs_call (K := kq_X11_days_3d45d6) [.ref 69, .int (xs z212.toNatClampNeg)] [] rfl ct_X11_days_3d45d6 Hhp207 rfl rfl rfl (bs_rcv (g := 11) Hhp207 (bs_R.uq Hhp207 (g := 11) rfl) (by decide) rfl) (ls_room (Nat.le_of_ble_eq_true rfl) (by omega) (by omega)) ?_ (sf_S_nil) fun r214 hp213 thp213 Hhp213 fhp213 ahp213 php213 => ?_
  · intro q k h
    match q, h with
    | 0, h => cases h; exact bs_jR (bs_R.uq Hhp207 (g := 11) rfl)
    | 1, h => cases h; exact sf_j0
    | q + 2, h => cases h
  obtain ⟨z215, rfl⟩ := bs_anI ahp213
  have E216 := lw_keep Hhp207 fhp213 rfl rfl E210
  refine (show Ev _ 725 ([some (.retAddr 0), some (.ref 0), some (.ref 69), some (.ref 87), some (.int z), a5, a6], [.int z215], (m + 8 + 0, k + 138 + 0), hp213) _ from ?_)
  refine Ev.step (j := 726) (s' := ([some (.retAddr 0), some (.ref 0), some (.ref 69), some (.ref 87), some (.int z), a5, a6], [], (m + 8 + 0, k + 138 + 0), hp213)) rfl rfl ?_
  refine Ev.step (j := 1440) (s' := ([some (.retAddr 0), some (.ref 0), some (.ref 69), some (.ref 87), some (.int z), a5, a6], [], (m + 8 + 0, k + 138 + 0), hp213)) rfl rfl ?_
  exact K _ _ _ _ _ _ Hhp213 E216 (by omega) (by omega)
