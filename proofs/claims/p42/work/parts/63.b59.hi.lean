set_option maxRecDepth 100000 in
set_option maxHeartbeats 4000000 in
theorem f_dropOldest {F : FW} {q : Nat → Nat} (hG : GW F) (hq : ∀ j, j < 8 → F.2.1 11 j = .ref (q j)) : Pm Z_X2_dropOldest [.ref 10] F (fun r F' => r = none ∧ F'.1 = (fp F 10 1 7).1 ∧ F'.2.2 = F.2.2 ∧ (∀ a j, a ≠ 11 → F'.2.1 a j = F.2.1 a j) ∧ ∀ j, j < 8 → F'.2.1 11 j = .ref (if j < 7 then q (j + 1) else q 0)) := by
  refine Pm.of fun N => ?_
  obtain ⟨Q, hQ⟩ : ∃ Q : Option Value → FW → Prop, Q = (fun r F' => r = none ∧ F'.1 = (fp F 10 1 7).1 ∧ F'.2.2 = F.2.2 ∧ (∀ a j, a ≠ 11 → F'.2.1 a j = F.2.1 a j) ∧ ∀ j, j < 8 → F'.2.1 11 j = .ref (if j < 7 then q (j + 1) else q 0)) := ⟨_, rfl⟩
  rw [← hQ]
  refine (show Pv (ab_T L_X2_dropOldest) N 0 [some (.ref 10), none, none] [] F Q from ?_)
  refine Pv.aload rfl rfl ?_
  refine Pv.getR (v := .ref 11) rfl rfl (GW.at (a := 10) (k := 0) (b := 11) hG (by decide)) ?_
  refine Pv.lit rfl ?_
  refine Pv.aald (v := .ref (q 0)) rfl (hq 0 (by omega)) ?_
  refine Pv.astore (lo' := [some (.ref 10), some (.ref (q 0)), none]) rfl rfl ?_
  refine Pv.lit rfl ?_
  refine Pv.istore (lo' := [some (.ref 10), some (.ref (q 0)), some (.int 1)]) rfl rfl ?_
  refine Pv.lp (ι := Nat × FW) (lof := fun ⟨k, G⟩ => [some (.ref 10), some (.ref (q 0)), some (.int (Int32.ofNat k))]) (Ff := fun ⟨k, G⟩ => G) (P := fun ⟨k, G⟩ => 1 ≤ k ∧ k ≤ 8 ∧ G.1 = F.1 ∧ G.2.2 = F.2.2 ∧ (∀ a j, a ≠ 11 → G.2.1 a j = F.2.1 a j) ∧ ∀ j, j < 8 → G.2.1 11 j = .ref (if j + 1 < k then q (j + 1) else q j)) ?_ (1, F) (⟨Nat.le_refl _, by omega, rfl, rfl, fun _ _ _ => rfl, fun j hj => (hq j hj).trans (congrArg Value.ref (if_neg (by omega)).symm)⟩)
  rintro N1 hN2 ⟨k, G⟩ hi3 ih4
  refine (show Pv _ _ 9 [some (.ref 10), some (.ref (q 0)), some (.int (Int32.ofNat k))] [] G Q from ?_)
  obtain ⟨hk, hk8, hC, hE, hB, hA⟩ := hi3
  have hx5 : G.2.1 10 0 = .ref 11 := (hB 10 0 (by decide)).trans (GW.at (a := 10) (k := 0) (b := 11) hG (by decide))
  refine Pv.iloadS rfl rfl ?_
  refine Pv.lit rfl ?_
  refine Pv.icmp rfl (fun c6 => ?_) (fun c6 => ?_)
  · skip
    replace c6 := (i_le (a := 8) (b := k) (by omega) (by omega)).mp (of_decide_eq_true c6)
    refine Pv.aload rfl rfl ?_
    refine Pv.getR (v := .ref 11) rfl rfl (hx5) ?_
    refine Pv.lit rfl ?_
    refine Pv.aload rfl rfl ?_
    refine Pv.aastk (k := 7) rfl (rfl) ?_
    refine Pv.aload rfl rfl ?_
    refine Pv.lit rfl ?_
    refine Pv.putI rfl rfl ?_
    exact Pv.vret rfl (by rw [hQ]; exact ⟨rfl, by show (fp _ 10 1 7).1 = _; unfold fp; dsimp only; rw [show (fpr G 11 7 (.ref (q 0))).1 = F.1 from hC], hE, fun a j c => (fpr_ne (Or.inl c)).trans (hB a j c), fun j hj => Or.elim (Classical.em (j = 7)) (fun e => by rw [e]; exact fpr_eq) (fun e => (fpr_ne (Or.inr e)).trans ((hA j hj).trans (congrArg Value.ref ((if_pos (by omega)).trans (if_pos (by omega)).symm))))⟩)
  · skip
    replace c6 := mt (i_le (a := 8) (b := k) (by omega) (by omega)).mpr (of_decide_eq_false c6)
    refine Pv.aload rfl rfl ?_
    refine Pv.getR (v := .ref 11) rfl rfl (hx5) ?_
    refine Pv.iload rfl rfl ?_
    refine Pv.lit rfl ?_
    refine Pv.bin (z := Int32.ofNat (k - 1)) rfl (i_subN (a := k) (b := 1) (by omega)) ?_
    refine Pv.aload rfl rfl ?_
    refine Pv.getR (v := .ref 11) rfl rfl (hx5) ?_
    refine Pv.iload rfl rfl ?_
    refine Pv.aald (v := .ref (q k)) rfl (by rw [i_toNat (by omega)]; exact (hA k (by omega)).trans (congrArg Value.ref (if_neg (by omega)))) ?_
    refine Pv.aastk (k := k - 1) rfl (i_toNat (by omega)) ?_
    refine Pv.iinc (y := Int32.ofNat (k + 1)) (lo' := [some (.ref 10), some (.ref (q 0)), some (.int (Int32.ofNat (k + 1)))]) rfl rfl (i_add k 1) rfl ?_
    refine Pv.goto rfl ?_
    exact ih4 (k + 1, (fpr G 11 (k - 1) (.ref (q k)))) (⟨by omega, by omega, hC, hE, fun a j c => (fpr_ne (Or.inl c)).trans (hB a j c), fun j hj => Or.elim (Classical.em (j = k - 1)) (fun e => by rw [e]; exact fpr_eq.trans (congrArg Value.ref (by rw [if_pos (by omega), show k - 1 + 1 = k by omega]))) (fun e => (fpr_ne (Or.inr e)).trans ((hA j hj).trans (congrArg Value.ref (ifn (by omega)))))⟩)
set_option maxRecDepth 100000 in
set_option maxHeartbeats 4000000 in
theorem f_forget {F : FW} : Pm Z_X2_forget [.ref 10] F (fun r F' => r = none ∧ F' = fp F 10 1 0) := by
  refine Pm.of fun N => ?_
  obtain ⟨Q, hQ⟩ : ∃ Q : Option Value → FW → Prop, Q = (fun r F' => r = none ∧ F' = fp F 10 1 0) := ⟨_, rfl⟩
  rw [← hQ]
  refine (show Pv (ab_T L_X2_forget) N 0 [some (.ref 10)] [] F Q from ?_)
  refine Pv.aload rfl rfl ?_
  refine Pv.lit rfl ?_
  refine Pv.putI rfl rfl ?_
  exact Pv.vret rfl (by rw [hQ]; exact ⟨rfl, rfl⟩)
set_option maxRecDepth 100000 in
set_option maxHeartbeats 4000000 in
theorem f_keepA {F : FW} {m mm v : Nat} {S : Sh} (h10 : F.2.1 10 0 = .ref 11) (hn : F.1 10 1 = Int32.ofNat m) (hm : m < 8) (hv : F.2.1 11 m = .ref v) (hS : SHR F 12 mm S) (hmm : mm ≤ 8) (hO : O7 F v) (h88 : 88 ≤ v) (N : Nat) : Pv (ab_T (L_X2_keep Z_X2_dropOldest Z_X6_init Z_X6_copyFrom)) N 13 [some (.ref 10), some (.ref 12), none] [] F (fun r F' => r = none ∧ FX (fun q => (v ≤ q ∧ q ≤ v + 7) ∨ q = 10) F F' ∧ SHR F' v mm S ∧ F'.1 10 1 = Int32.ofNat (m + 1)) := by
  obtain ⟨Q, hQ⟩ : ∃ Q : Option Value → FW → Prop, Q = (fun r F' => r = none ∧ FX (fun q => (v ≤ q ∧ q ≤ v + 7) ∨ q = 10) F F' ∧ SHR F' v mm S ∧ F'.1 10 1 = Int32.ofNat (m + 1)) := ⟨_, rfl⟩
  rw [← hQ]
  refine (show Pv (ab_T (L_X2_keep Z_X2_dropOldest Z_X6_init Z_X6_copyFrom)) N 13 [some (.ref 10), some (.ref 12), none] [] F Q from ?_)
  refine Pv.aload rfl rfl ?_
  refine Pv.getR (v := .ref 11) rfl rfl (h10) ?_
  refine Pv.aload rfl rfl ?_
  refine Pv.getI (z := Int32.ofNat m) rfl rfl (hn) ?_
  refine Pv.aald (v := .ref v) rfl (by rw [i_toNat (by omega)]; exact hv) ?_
  refine Pv.astore (lo' := [some (.ref 10), some (.ref 12), some (.ref v)]) rfl rfl ?_
  refine Pv.aload rfl rfl ?_
  refine Pv.nonnullR rfl ?_
  refine Pv.aload rfl rfl ?_
  refine Pv.aload rfl rfl ?_
  refine Pv.callV (as := [.ref v, .ref 12]) (rest := []) rfl rfl rfl (f_shCopy hO hS hmm (by omega)) ?_
  rintro _ G1 ⟨rfl, x2, sr4⟩
  have hx3 := FX.tr (P := fun q => (v ≤ q ∧ q ≤ v + 7) ∨ q = 10) FX.rf (x2.wd (fun q (c : v ≤ q ∧ q ≤ v + 7) => (show (v ≤ q ∧ q ≤ v + 7) ∨ q = 10 by omega)))
  have hx5 := hS.fx (P := fun q => v ≤ q ∧ q ≤ v + 7) x2 (fun q h1 h2 (c : v ≤ q ∧ q ≤ v + 7) => by omega)
  have hr6 : G1.2.1 10 0 = .ref 11 := by rw [x2.2.2.1]; exact h10
  refine (show Pv _ _ 50 [some (.ref 10), some (.ref 12), some (.ref v)] [] G1 Q from ?_)
  refine Pv.aload rfl rfl ?_
  refine Pv.dup rfl ?_
  refine Pv.getI (z := Int32.ofNat m) rfl rfl ((x2.1 10 1 (by omega)).trans hn) ?_
  refine Pv.lit rfl ?_
  refine Pv.bin (z := Int32.ofNat (m + 1)) rfl (i_add m 1) ?_
  refine Pv.putI rfl rfl ?_
  exact Pv.vret rfl (by rw [hQ]; exact ⟨rfl, (hx3).fp (show (v ≤ 10 ∧ 10 ≤ v + 7) ∨ 10 = 10 by omega), (sr4.fx (P := fun q => q = 10) (((FX.rf (P := fun q => q = 10))).fp rfl) (fun q h1 h2 (c : q = 10) => by omega)), fp_eq⟩)
set_option maxRecDepth 100000 in
set_option maxHeartbeats 4000000 in
theorem f_keepB {F : FW} {m mm : Nat} {S : Sh} (h10 : F.2.1 10 0 = .ref 11) (hn : F.1 10 1 = Int32.ofNat m) (hm : m < 8) (hv : F.2.1 11 m = .null) (hS : SHR F 12 mm S) (hmm : mm ≤ 8) (h88 : 88 ≤ F.2.2.2.1) (N : Nat) : Pv (ab_T (L_X2_keep Z_X2_dropOldest Z_X6_init Z_X6_copyFrom)) N 13 [some (.ref 10), some (.ref 12), none] [] F (fun r F' => r = none ∧ SHR F' F.2.2.2.1 mm S ∧ KBF F F' m) := by
  obtain ⟨Q, hQ⟩ : ∃ Q : Option Value → FW → Prop, Q = (fun r F' => r = none ∧ SHR F' F.2.2.2.1 mm S ∧ KBF F F' m) := ⟨_, rfl⟩
  rw [← hQ]
  refine (show Pv (ab_T (L_X2_keep Z_X2_dropOldest Z_X6_init Z_X6_copyFrom)) N 13 [some (.ref 10), some (.ref 12), none] [] F Q from ?_)
  refine Pv.aload rfl rfl ?_
  refine Pv.getR (v := .ref 11) rfl rfl (h10) ?_
  refine Pv.aload rfl rfl ?_
  refine Pv.getI (z := Int32.ofNat m) rfl rfl (hn) ?_
  refine Pv.aald (v := .null) rfl (by rw [i_toNat (by omega)]; exact hv) ?_
  refine Pv.astoreN (lo' := [some (.ref 10), some (.ref 12), some (.null)]) rfl rfl ?_
  refine Pv.aloadN rfl rfl ?_
  refine Pv.nonnullN rfl ?_
  refine Pv.new rfl (by decide) (by decide) ?_
  refine (show Pv _ _ 30 [some (.ref 10), some (.ref 12), some (.null)] [.ref F.2.2.2.1] (fnw F 0) Q from ?_)
  refine Pv.dup rfl ?_
  refine Pv.call (as := [.ref F.2.2.2.1]) (rest := [.ref F.2.2.2.1]) rfl rfl rfl (f_x6_init (F := fnw F 0) (p := F.2.2.2.1) rfl) ?_
  rintro _ G ⟨rfl, w, o⟩
  obtain ⟨z, hz⟩ : ∃ z, z = F.2.2.2.1 := ⟨_, rfl⟩
  rw [← hz] at w o ⊢
  rw [← hz] at h88
  have fz : ∀ a, a < z → (∀ k, G.1 a k = F.1 a k) ∧ (∀ k, G.2.1 a k = F.2.1 a k) ∧ (∀ k, G.2.2.1 a k = F.2.2.1 a k) := fun a ha => by
    obtain ⟨x1, x2, x3, -⟩ := w.2 a (by show a < F.2.2.2.1 + 1; omega) (by omega)
    exact ⟨fun k => (x1 k).trans (if_neg (by omega)), fun k => (x2 k).trans (if_neg (by omega)), fun k => (x3 k).trans (if_neg (by omega))⟩
  have gz : G.2.2.2.1 = z + 8 := w.1.trans (by show F.2.2.2.1 + 1 + 7 = _; omega)
  refine (show Pv _ _ 34 [some (.ref 10), some (.ref 12), some (.null)] [.ref z] G Q from ?_)
  refine Pv.astore (lo' := [some (.ref 10), some (.ref 12), some (.ref z)]) rfl rfl ?_
  refine Pv.aload rfl rfl ?_
  refine Pv.getR (v := .ref 11) rfl rfl (((fz 10 (by omega)).2.1 0).trans h10) ?_
  refine Pv.aload rfl rfl ?_
  refine Pv.getI (z := Int32.ofNat m) rfl rfl (((fz 10 (by omega)).1 1).trans hn) ?_
  refine Pv.aload rfl rfl ?_
  refine Pv.aastk (k := m) rfl (i_toNat (by omega)) ?_
  have hS2 : SHR (fpr G 11 m (.ref z)) 12 mm S := hS.sm (fun a k h1 h2 => (fz a (by omega)).1 k) (fun k => (fpr_ne (Or.inl (by decide))).trans ((fz 12 (by omega)).2.1 k))
  have hO2 : O7 (fpr G 11 m (.ref z)) z := fun j hj => (fpr_ne (Or.inl (by omega))).trans (o j hj)
  obtain ⟨H, hH⟩ : ∃ H, H = (fpr G 11 m (.ref z)) := ⟨_, rfl⟩
  rw [← hH] at hS2 hO2 ⊢
  refine Pv.aload rfl rfl ?_
  refine Pv.aload rfl rfl ?_
  refine Pv.callV (as := [.ref z, .ref 12]) (rest := []) rfl rfl rfl (f_shCopy hO2 hS2 hmm (by omega)) ?_
  rintro _ G1 ⟨rfl, x2, sr4⟩
  have hx3 := FX.tr (P := fun q => (z ≤ q ∧ q ≤ z + 7) ∨ q = 10) FX.rf (x2.wd (fun q (c : z ≤ q ∧ q ≤ z + 7) => (show (z ≤ q ∧ q ≤ z + 7) ∨ q = 10 by omega)))
  have hx5 := hS2.fx (P := fun q => z ≤ q ∧ q ≤ z + 7) x2 (fun q h1 h2 (c : z ≤ q ∧ q ≤ z + 7) => by omega)
  refine (show Pv _ _ 50 [some (.ref 10), some (.ref 12), some (.ref z)] [] G1 Q from ?_)
  refine Pv.aload rfl rfl ?_
  refine Pv.dup rfl ?_
  refine Pv.getI (z := Int32.ofNat m) rfl rfl ((x2.1 10 1 (by omega)).trans (show H.1 10 1 = _ by rw [hH]; exact ((fz 10 (by omega)).1 1).trans hn)) ?_
  refine Pv.lit rfl ?_
  refine Pv.bin (z := Int32.ofNat (m + 1)) rfl (i_add m 1) ?_
  refine Pv.putI rfl rfl ?_
  exact Pv.vret rfl (by rw [hQ]; exact ⟨rfl, by rw [← hz]; exact (sr4.fx (P := fun q => q = 10) (((FX.rf (P := fun q => q = 10))).fp rfl) (fun q h1 h2 (c : q = 10) => by omega)), kbF hz fz gz hH x2⟩)
