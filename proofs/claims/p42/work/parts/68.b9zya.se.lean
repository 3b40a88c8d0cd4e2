theorem TKF.fxu {F G : FW} {u m : Nat} {K : Nat → TT} (h : TKF F K m) (x : FX (fun q => u ≤ q ∧ q ≤ u + 3) F G) (hu : u = 61 ∨ u = 65) : TKF G K m := by
  have n3 : ¬ (u ≤ 3 ∧ 3 ≤ u + 3) := by omega
  have n4 : ¬ (u ≤ 4 ∧ 4 ≤ u + 3) := by omega
  have n5 : ¬ (u ≤ 5 ∧ 5 ≤ u + 3) := by omega
  have n6 : ¬ (u ≤ 6 ∧ 6 ≤ u + 3) := by omega
  refine ⟨h.1, h.2.1, (x.1 3 3 n3).trans h.2.2.1, fun j hj => ?_, h.2.2.2.2⟩
  rw [x.1 4 j n4, x.1 5 j n5, x.2.1 6 j n6]
  exact h.2.2.2.1 j hj
/-- what a Sentence's text came to: read; or what is wrong -/
def ZW (u : Nat) (K : Nat → TT) (F' : FW) : Prop := match z_sen K with
  | .inl y => F'.1 3 9 = 0 ∧ ZL F' u y.2.1 y.2.2 ∧ F'.1 u 5 = 1
  | .inr e => F'.1 3 9 = e.1 ∧ (F'.1 3 6).toInt = (K e.2).pl
theorem ZL.p5 {F : FW} {u o : Nat} {l : List ZO} {v : Int32} (h : ZL F u o l) : ZL (fp F u 5 v) u o l := by
  have x : FX (fun q => q = u) F (fp F u 5 v) := FX.fp FX.rf rfl
  exact ⟨FX.O3 x h.1, (fp_ne (Or.inr (by decide))).trans h.2.1, (fp_ne (Or.inr (by decide))).trans h.2.2.1, fun j y hj => ⟨(fp_ne (Or.inl (by omega))).trans (h.2.2.2 j y hj).1, (fp_ne (Or.inl (by omega))).trans (h.2.2.2 j y hj).2.1, (fp_ne (Or.inl (by omega))).trans (h.2.2.2 j y hj).2.2⟩⟩
theorem zc_text {F : FW} {u m : Nat} {K : Nat → TT} (hG : GW F) (hO : O3 F u) (hu : u = 61 ∨ u = 65) (hT : TKF F K m) (h4 : F.1 3 4 = Int32.ofNat 0) (h9 : F.1 3 9 = 0) : Pm Z_X5_readText [.ref u, .ref 3] F (fun r F' => r = none ∧ FSX u F F' ∧ ZW u K F') := by
  refine Pm.of fun N => ?_
  obtain ⟨Q, hQ⟩ : ∃ Q : Option Value → FW → Prop, Q = (fun r F' => r = none ∧ FSX u F F' ∧ ZW u K F') := ⟨_, rfl⟩
  rw [← hQ]
  refine (show Pv (ab_T (L_X5_readText Z_X9_step Z_X5_readCond_1 Z_X9_fail)) N 0 [some (.ref u), some (.ref 3)] [] F Q from ?_)
  refine Pv.aload rfl rfl ?_
  refine Pv.lit rfl ?_
  refine Pv.putI rfl rfl ?_
  refine Pv.aload rfl rfl ?_
  refine Pv.lit rfl ?_
  refine Pv.putI rfl rfl ?_
  have x0 : FX (fun q => u ≤ q ∧ q ≤ u + 3) F (fp (fp F u 3 0) u 4 0) := FX.fp (FX.fp FX.rf (show u ≤ u ∧ u ≤ u + 3 by omega)) (show u ≤ u ∧ u ≤ u + 3 by omega)
  have a3 : (fp (fp F u 3 0) u 4 0).1 u 3 = 0 := (fp_ne (Or.inr (by decide))).trans fp_eq
  have a4 : (fp (fp F u 3 0) u 4 0).1 u 4 = 0 := fp_eq
  obtain ⟨F1, hF1⟩ : ∃ F1 : FW, F1 = fp (fp F u 3 0) u 4 0 := ⟨_, rfl⟩
  rw [← hF1] at x0 a3 a4 ⊢
  have n3 : ¬ (u ≤ 3 ∧ 3 ≤ u + 3) := by omega
  have G1 := hG.fx x0
  have T1 := hT.fxu x0 hu
  have f4 : F1.1 3 4 = Int32.ofNat 0 := (x0.1 3 4 n3).trans h4
  have f9 : F1.1 3 9 = 0 := (x0.1 3 9 n3).trans h9
  have m1 : 0 < m := hT.1
  have y0 : FSX u F F1 := FSX.ou x0
  refine (show Pv (ab_T (L_X5_readText Z_X9_step Z_X5_readCond_1 Z_X9_fail)) N 10 [some (.ref u), some (.ref 3)] [] F1 Q from ?_)
  refine Pv.aload rfl rfl ?_
  refine Pv.callV (as := [.ref 3]) (rest := []) rfl rfl rfl (c_step G1 T1 f4 m1) (fun r G p => ?_)
  obtain ⟨rfl, hd⟩ := p
  have x2 : FX (fun q => q = 3) F1 G := hd.1.1
  have hs : ZS G u K m 0 0 [] := ⟨hd.1.G G1, ⟨hd.1.TK T1, m1, hd.2.1, hd.2.2.1, hd.2.2.2.trans ((if_pos rfl).trans f9)⟩, ⟨FX.O3 x2 (FX.O3 x0 hO), (x2.1 u 3 (show ¬ u = 3 by omega)).trans a3, (x2.1 u 4 (show ¬ u = 3 by omega)).trans a4, fun j y hj => by cases hj⟩, hu⟩
  have y1 : FSX u F G := y0.tr (FSX.of x2)
  refine (show Pv (ab_T (L_X5_readText Z_X9_step Z_X5_readCond_1 Z_X9_fail)) N 14 [some (.ref u), some (.ref 3)] [] G Q from ?_)
  refine Pv.aload rfl rfl ?_
  refine Pv.aload rfl rfl ?_
  refine Pv.aload rfl rfl ?_
  refine Pv.lit rfl ?_
  refine Pv.callV (as := [.ref u, .ref 3, .int (Int32.ofNat 1)]) (rest := [.ref u]) rfl rfl rfl (zv_cond_1 (u := u) (m := m) (K := K) G 0 0 [] hs (by omega) (Nat.le_refl _)) (fun r2 G2 q => ?_)
  obtain ⟨x3, q⟩ := q
  cases ef : z_cond K (z_one K 8) 0 0 [] with
  | inr e =>
    rw [ef] at q
    obtain ⟨rfl, q1, q2⟩ := q
    have ez : z_sen K = .inr e := congrArg (z_top K) ef
    refine (show Pv (ab_T (L_X5_readText Z_X9_step Z_X5_readCond_1 Z_X9_fail)) N 21 [some (.ref u), some (.ref 3)] [.int 0, .ref u] G2 Q from ?_)
    refine Pv.if0 rfl (fun _ => ?_) (fun c => absurd c (by decide))
    refine Pv.lit rfl ?_
    refine Pv.putI rfl rfl ?_
    exact Pv.vret rfl (by rw [hQ]; exact ⟨rfl, (y1.tr x3).pu, by unfold ZW; rw [ez]; exact ⟨(fp_ne (Or.inl (by omega))).trans q1, (congrArg Int32.toInt (fp_ne (Or.inl (by omega)))).trans q2⟩⟩)
  | inl y =>
    rw [ef] at q
    obtain ⟨rfl, hs2⟩ := q
    refine (show Pv (ab_T (L_X5_readText Z_X9_step Z_X5_readCond_1 Z_X9_fail)) N 21 [some (.ref u), some (.ref 3)] [.int 1, .ref u] G2 Q from ?_)
    refine Pv.if0 rfl (fun c => absurd c (by decide)) (fun _ => ?_)
    refine Pv.aload rfl rfl ?_
    refine Pv.getI (z := G2.1 3 5) rfl rfl rfl ?_
    refine Pv.if0 rfl (fun c => ?_) (fun c => ?_)
    · have k0 : (K y.1).k = 0 := hs2.k.symm.trans (congrArg Int32.toInt (of_decide_eq_true c))
      have ez : z_sen K = .inl y := (congrArg (z_top K) ef).trans (if_pos k0)
      refine Pv.lit rfl ?_
      refine Pv.goto rfl ?_
      refine Pv.putI rfl rfl ?_
      exact Pv.vret rfl (by rw [hQ]; exact ⟨rfl, (y1.tr x3).pu, by unfold ZW; rw [ez]; exact ⟨(fp_ne (Or.inl (by omega))).trans hs2.2.1.2.2.2.2, hs2.2.2.1.p5, fp_eq⟩⟩)
    · have k0 : ¬ (K y.1).k = 0 := fun e => of_decide_eq_false c (Int32.toInt_inj.mp (hs2.k.trans e))
      have ez : z_sen K = zn 1 y.1 := (congrArg (z_top K) ef).trans (if_neg k0)
      refine Pv.aload rfl rfl ?_
      refine Pv.lit rfl ?_
      refine Pv.callV (as := [.ref 3, .int 1]) (rest := [.ref u]) rfl rfl rfl (c_fail (c := 1)) (fun r3 G3 p => ?_)
      obtain ⟨rfl, e3⟩ := p
      obtain ⟨b1, -, b2, b3⟩ := z_bad hs2 e3
      refine (show Pv (ab_T (L_X5_readText Z_X9_step Z_X5_readCond_1 Z_X9_fail)) N 36 [some (.ref u), some (.ref 3)] [.int 0, .ref u] G3 Q from ?_)
      refine Pv.if0 rfl (fun _ => ?_) (fun c => absurd c (by decide))
      refine Pv.lit rfl ?_
      refine Pv.putI rfl rfl ?_
      exact Pv.vret rfl (by rw [hQ]; exact ⟨rfl, ((y1.tr x3).tr b1).pu, by unfold ZW; rw [ez]; exact ⟨(fp_ne (Or.inl (by omega))).trans b2, (congrArg Int32.toInt (fp_ne (Or.inl (by omega)))).trans b3⟩⟩)
/-- what a sentence answers; its fault at f -/
def ZA (K : Nat → TT) (r : Option Value) (f : Int32) : Prop := match z_sen K with
  | .inl y => r = some (.int (Int32.ofNat y.2.1)) ∧ f = 0
  | .inr e => ∃ v : Int32, r = some (.int (-1 - v)) ∧ v.toInt = (K e.2).pl ∧ f = e.1
theorem zr_nz {K : Nat → TT} {w : Nat} {f : Nat → Nat → List ZO → ZR} (hf : ∀ i o l e, f i o l = .inr e → ¬ e.1 = 0) : ∀ (n : Nat) (r : ZR), (∀ e, r = .inr e → ¬ e.1 = 0) → ∀ e, z_join K w f n r = .inr e → ¬ e.1 = 0
  | 0, r, h, e, he => h e he
  | n + 1, .inr e0, h, e, he => h e he
  | n + 1, .inl y, h, e, he => by
    by_cases c : (K y.1).k = (w : Int)
    · have q : z_join K w f (n + 1) (.inl y) = z_join K w f n (z_op w (f (y.1 + 1) y.2.1 y.2.2)) := if_pos c
      rw [q] at he
      refine zr_nz hf n _ (fun e2 h2 => ?_) e he
      cases ef : f (y.1 + 1) y.2.1 y.2.2 with
      | inl y2 =>
        rw [ef] at h2
        cases h2
      | inr e3 =>
        rw [ef] at h2
        obtain rfl := Sum.inr.inj h2
        exact hf _ _ _ _ ef
    · have q : z_join K w f (n + 1) (.inl y) = .inl y := if_neg c
      rw [q] at he
      cases he
theorem zl_nz {K : Nat → TT} {i o : Nat} {l : List ZO} {e : Int32 × Nat} (h : z_leaf K i o l = .inr e) : ¬ e.1 = 0 := by
  unfold z_leaf at h
  split at h
  · split at h
    · cases h
    · rename_i c
      obtain rfl := Sum.inr.inj h
      exact c
  · split at h
    · split at h
      · cases h
      · obtain rfl := Sum.inr.inj h
        show ¬ (1 : Int32) = 0
        decide
    · obtain rfl := Sum.inr.inj h
      show ¬ (1 : Int32) = 0
      decide
theorem zo_nz {K : Nat → TT} : ∀ (d i o : Nat) (l : List ZO) (e : Int32 × Nat), z_one K d i o l = .inr e → ¬ e.1 = 0
  | 0, i, o, l, e, h => by
    have h : (if z_is K i then zn 4 i else zn 1 i) = Sum.inr e := h
    split at h
    · obtain rfl := Sum.inr.inj h
      show ¬ (4 : Int32) = 0
      decide
    · obtain rfl := Sum.inr.inj h
      show ¬ (1 : Int32) = 0
      decide
  | d + 1, i, o, l, e, h => by
    have h : (if z_is K i then (if 20 ≤ o then zn 4 i else if (K i).k = 40 then z_close K (z_cond K (z_one K d) (i + 1) (o + 1) l) else if (K i).k = 79 then z_op 79 (z_one K d (i + 1) (o + 1) l) else z_leaf K i (o + 1) l) else zn 1 i) = Sum.inr e := h
    have hA : ∀ i o l e, z_all K (z_one K d) i o l = .inr e → ¬ e.1 = 0 := fun i o l e h => zr_nz (fun i o l e => zo_nz d i o l e) 20 _ (fun e h => zo_nz d _ _ _ e h) e h
    split at h
    · split at h
      · obtain rfl := Sum.inr.inj h
        show ¬ (4 : Int32) = 0
        decide
      · split at h
        · cases ec : z_cond K (z_one K d) (i + 1) (o + 1) l with
          | inl y =>
            rw [ec] at h
            have h : (if (K y.1).k = 41 then zy (y.1 + 1) y.2.1 y.2.2 else zn 1 y.1) = Sum.inr e := h
            split at h
            · cases h
            · obtain rfl := Sum.inr.inj h
              show ¬ (1 : Int32) = 0
              decide
          | inr e2 =>
            rw [ec] at h
            obtain rfl := Sum.inr.inj h
            exact zr_nz hA 20 _ (fun e h => hA _ _ _ e h) _ ec
        · split at h
          · cases ec : z_one K d (i + 1) (o + 1) l with
            | inl y =>
              rw [ec] at h
              cases h
            | inr e2 =>
              rw [ec] at h
              obtain rfl := Sum.inr.inj h
              exact zo_nz d _ _ _ _ ec
          · exact zl_nz h
    · obtain rfl := Sum.inr.inj h
      show ¬ (1 : Int32) = 0
      decide
theorem zsen_nz {K : Nat → TT} {e : Int32 × Nat} (h : z_sen K = .inr e) : ¬ e.1 = 0 := by
  have hA : ∀ i o l e, z_all K (z_one K 8) i o l = .inr e → ¬ e.1 = 0 := fun i o l e h => zr_nz (fun i o l e => zo_nz 8 i o l e) 20 _ (fun e h => zo_nz 8 _ _ _ e h) e h
  unfold z_sen at h
  cases ec : z_cond K (z_one K 8) 0 0 [] with
  | inl y =>
    rw [ec] at h
    have h : (if (K y.1).k = 0 then Sum.inl y else zn 1 y.1) = Sum.inr e := h
    split at h
    · cases h
    · obtain rfl := Sum.inr.inj h
      show ¬ (1 : Int32) = 0
      decide
  | inr e2 =>
    rw [ec] at h
    obtain rfl := Sum.inr.inj h
    exact zr_nz hA 20 _ (fun e h => hA _ _ _ e h) _ ec
theorem o_se14v {F : FW} {p u m : Nat} {K : Nat → TT} (hG : GW F) (hp : F.2.1 0 15 = .ref p) (hu : F.2.1 0 16 = .ref u) (hO : O3 F u) (ju : u = 61 ∨ u = 65) (hT : TKF F K m) (h4 : F.1 3 4 = Int32.ofNat 0) (h9 : F.1 3 9 = 0) (N : Nat) : Pv (ab_T (L_X10_sentence Z_X8_moveInto Z_X5_readText)) N 14 [some (.ref 0), none] [] F (fun r F' => ZA K r (F'.1 0 18)) := by
  obtain ⟨Q, hQ⟩ : ∃ Q : Option Value → FW → Prop, Q = (fun r F' => ZA K r (F'.1 0 18)) := ⟨_, rfl⟩
  rw [← hQ]
  refine Pv.aload rfl rfl ?_
  refine Pv.getR (v := .ref u) rfl rfl hu ?_
  refine Pv.aload rfl rfl ?_
  refine Pv.getR (v := .ref 3) rfl rfl (GW.at (a := 0) (k := 1) (b := 3) hG (by decide)) ?_
  refine Pv.callV (as := [.ref u, .ref 3]) (rest := []) rfl rfl rfl (zc_text hG hO ju hT h4 h9) (fun r0 G q => ?_)
  obtain ⟨rfl, x, w⟩ := q
  refine (show Pv (ab_T (L_X10_sentence Z_X8_moveInto Z_X5_readText)) N 25 [some (.ref 0), none] [] G Q from ?_)
  refine Pv.aload rfl rfl ?_
  refine Pv.aload rfl rfl ?_
  refine Pv.getR (v := .ref 3) rfl rfl (GW.at (a := 0) (k := 1) (b := 3) (x.G hG) (by decide)) ?_
  refine Pv.getI (z := G.1 3 9) rfl rfl rfl ?_
  refine Pv.putI rfl rfl ?_
  refine Pv.aload rfl rfl ?_
  refine Pv.getI (z := G.1 3 9) rfl rfl fp_eq ?_
  unfold ZW at w
  cases ez : z_sen K with
  | inl y =>
    rw [ez] at w
    obtain ⟨w9, wl, w5⟩ := w
    rw [w9]
    refine Pv.if0 rfl (fun _ => ?_) (fun c => absurd c (by decide))
    refine Pv.aload rfl rfl ?_
    refine Pv.getR (v := .ref p) rfl rfl ((congrArg (fun z => z 0 15) x.2.2.1).trans hp) ?_
    refine Pv.astore (lo' := [some (.ref 0), some (.ref p)]) rfl rfl ?_
    refine Pv.aload rfl rfl ?_
    refine Pv.aload rfl rfl ?_
    refine Pv.getR (v := .ref u) rfl rfl ((congrArg (fun z => z 0 16) x.2.2.1).trans hu) ?_
    refine Pv.putR rfl rfl (Or.inr ⟨_, rfl⟩) ?_
    refine Pv.aload rfl rfl ?_
    refine Pv.aload rfl rfl ?_
    refine Pv.putR rfl rfl (Or.inr ⟨_, rfl⟩) ?_
    refine Pv.aload rfl rfl ?_
    refine Pv.getR (v := .ref u) rfl rfl ((fpr_ne (Or.inr (by decide))).trans (fpr_eq)) ?_
    refine Pv.getI (z := Int32.ofNat y.2.1) rfl rfl ((fp_ne (Or.inl (by omega))).trans wl.2.2.1) ?_
    exact Pv.ret rfl (by rw [hQ]; unfold ZA; rw [ez]; exact ⟨rfl, (show (fp G 0 18 0).1 0 18 = 0 from fp_eq)⟩)
  | inr e =>
    rw [ez] at w
    have nz := zsen_nz ez
    refine Pv.if0 rfl (fun c => absurd (w.1.symm.trans (of_decide_eq_true c)) nz) (fun _ => ?_)
    refine Pv.lit rfl ?_
    refine Pv.aload rfl rfl ?_
    refine Pv.getR (v := .ref 3) rfl rfl (GW.at (a := 0) (k := 1) (b := 3) (x.G hG) (by decide)) ?_
    refine Pv.getI (z := G.1 3 6) rfl rfl (fp_ne (Or.inl (by decide))) ?_
    refine Pv.bin (z := -1 - G.1 3 6) rfl rfl ?_
    exact Pv.ret rfl (by rw [hQ]; unfold ZA; rw [ez]; exact ⟨_, rfl, w.2, fp_eq.trans w.1⟩)
theorem d_senV {tt : Nat → Nat} {hp : ab_H} {tn : Nat} {D : DD} (Hs : sf_h tt hp) (hce : sf_cE kq_X8_moveInto_v Z_X8_moveInto ke_X8_moveInto_v) (hn : sf_rd hp 1 1 = some (tn : Int)) (h : CR (fl hp) D) : Pj Z_X10_sentence [.ref 0] hp (fun r F' => ZA (tok (bv hp 2 tn) tn 200) r (F'.1 0 18)) := by
  have hw := wt_of Hs
  refine Pj.of fun N => ?_
  obtain ⟨Q, hQ⟩ : ∃ Q : Option Value → FW → Prop, Q = (fun r F' => ZA (tok (bv hp 2 tn) tn 200) r (F'.1 0 18)) := ⟨_, rfl⟩
  rw [← hQ]
  obtain ⟨p, u, ju, h15, h16⟩ := h.e
  refine (show Pw (ab_T (L_X10_sentence Z_X8_moveInto Z_X5_readText)) N 0 [some (.ref 0), none] [] hp Q from ?_)
  refine Pw.aload rfl rfl ?_
  refine Pw.getR (v := .ref 1) hw rfl rfl (GW.at (a := 0) (k := 0) (b := 1) h.G (by decide)) ?_
  refine Pw.aload rfl rfl ?_
  refine Pw.getR (v := .ref 3) hw rfl rfl (GW.at (a := 0) (k := 1) (b := 3) h.G (by decide)) ?_
  refine Pw.lit rfl ?_
  refine Pw.callV (as := [.ref 1, .ref 3, .int (Int32.ofNat 200)]) (rest := []) rfl rfl rfl (fun o e => ?_)
  obtain ⟨w, r0, q⟩ := mv_flat (x := 200) Hs (by omega) hce h.G h.c hn o e
  rw [r0]
  refine Pw.v w ?_
  refine (show Pv (ab_T (L_X10_sentence Z_X8_moveInto Z_X5_readText)) N 14 [some (.ref 0), none] [] (fl o.2) Q from ?_)
  have h1 := h.mv q
  have z0 := (q.1.2 0 (by have := h.c; omega) (by decide)).2.1
  have o3 := o3w h1.G
  obtain ⟨-, -, q4, q9, -, mm, qT⟩ := q
  rw [hQ]
  exact o_se14v (p := p) (u := u) h1.G ((z0 15).trans h15) ((z0 16).trans h16) (by rcases ju with ⟨-, rfl⟩ | ⟨-, rfl⟩; exact o3.2; exact o3.1) (by omega) qT q4 q9 N
