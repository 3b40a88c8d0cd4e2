/-! ===== image, restore: the class ===== -/
theorem NMC.fx {P : Nat → Prop} {F G : FW} {p : Nat} {T : St} {nm : Nat → Int} (h : NMC F p T nm) (x : FX P F G) (c1 : ¬ P (p + 1)) (c2 : ¬ P (p + 2)) : NMC G p T nm :=
  ⟨fun g hg => by rw [x.2.1 (p + 1) g c1]; exact h.1 g hg, fun m hm => by rw [x.2.1 (p + 2) m c2]; exact h.2 m hm⟩
theorem SE.fx {P : Nat → Prop} {F G : FW} {p : Nat} {E : Se} (h : SE F p E) (x : FX P F G) (c : ∀ a, p ≤ a → a ≤ p + 3 → ¬ P a) : SE G p E :=
  ⟨fun j hj => by rw [x.2.2.1]; exact h.o j hj, (x.1 _ _ (c _ (by omega) (by omega))).trans h.z, (x.1 _ _ (c _ (by omega) (by omega))).trans h.n, (x.1 _ _ (c _ (by omega) (by omega))).trans h.i, h.a.fx x (c _ (by omega) (by omega)), h.f.fx x (c _ (by omega) (by omega)), h.m.fx x (c _ (by omega) (by omega))⟩
theorem FX.O3 {P : Nat → Prop} {F G : FW} {p : Nat} (h : FX P F G) (o : O3 F p) : O3 G p := fun j hj => by
  rw [h.2.2.1]
  exact o j hj
section IMG
variable {F : FW} {t k v u : Nat} {T T' : St} {S S' : Sh} {E E' : Se} {nm nm' : Nat → Int} {x : Int32}
set_option maxRecDepth 100000 in
set_option maxHeartbeats 4000000 in
theorem o_image37 (hG : GW F) (ht : F.2.1 0 13 = .ref t) (hT : TR F t T) (hN : NMC F t T nm) (hS : SHR F 12 (t_m T) S) (j0 : t = 45 ∨ t = 53) (hu : F.2.1 0 15 = .ref u) (ju : u = 61 ∨ u = 65) (hE : SE F u E) (hO : O3i F v) (h1 : O7 F (v + 1)) (h9 : O7 F (v + 9)) (h17 : O3 F (v + 17)) (h88 : 88 ≤ v) (N : Nat) :
    Pv (ab_T (L_X10_image Z_X3_init Z_X7_copyFrom Z_X6_copyFrom Z_X5_copyFrom)) N 37 [some (.ref 0), some (.int x), some (.ref v)] [] F (fun r F' => r = some (.int 1) ∧ FX (fun q => v ≤ q ∧ q ≤ v + 20) F F' ∧ TR F' (v + 1) T ∧ NMC F' (v + 1) T nm ∧ SHR F' (v + 9) (t_m T) S ∧ SE F' (v + 17) E) := by
  have b3 := hT.mb
  refine Pv.aload rfl rfl ?_
  refine Pv.getR (v := .ref (v + 1)) rfl rfl hO.1 ?_
  refine Pv.aload rfl rfl ?_
  refine Pv.getR (v := .ref t) rfl rfl ht ?_
  refine Pv.callV (as := [.ref (v + 1), .ref t]) (rest := []) rfl rfl rfl (f_stCopy h1 hT hN (by omega)) ?_
  rintro _ G1 ⟨rfl, x1, t1, n1⟩
  refine (show Pv _ _ 48 [some (.ref 0), some (.int x), some (.ref v)] [] G1 _ from ?_)
  refine Pv.aload rfl rfl ?_
  refine Pv.getR (v := .ref (v + 9)) rfl rfl (by rw [x1.2.2.1]; exact hO.2.1) ?_
  refine Pv.aload rfl rfl ?_
  refine Pv.getR (v := .ref 12) rfl rfl ((hG.fx x1).at (a := 0) (k := 4) (b := 12) (by decide)) ?_
  refine Pv.callV (as := [.ref (v + 9), .ref 12]) (rest := []) rfl rfl rfl (f_shCopy (x1.O7 h9) (hS.fx x1 (fun q a b (c : v + 1 ≤ q ∧ q ≤ v + 1 + 7) => by omega)) b3 (by omega)) ?_
  rintro _ G2 ⟨rfl, x2, s2⟩
  refine (show Pv _ _ 59 [some (.ref 0), some (.int x), some (.ref v)] [] G2 _ from ?_)
  refine Pv.aload rfl rfl ?_
  refine Pv.getR (v := .ref (v + 17)) rfl rfl (by rw [x2.2.2.1, x1.2.2.1]; exact hO.2.2) ?_
  refine Pv.aload rfl rfl ?_
  refine Pv.getR (v := .ref u) rfl rfl (by rw [x2.2.2.1, x1.2.2.1]; exact hu) ?_
  refine Pv.callV (as := [.ref (v + 17), .ref u]) (rest := []) rfl rfl rfl (f_seCopy (x2.O3 (x1.O3 h17)) ((hE.fx x1 (fun q a b (c : v + 1 ≤ q ∧ q ≤ v + 1 + 7) => by omega)).fx x2 (fun q a b (c : v + 9 ≤ q ∧ q ≤ v + 9 + 7) => by omega)) (by omega)) ?_
  rintro _ G3 ⟨rfl, x3, e3⟩
  refine (show Pv _ _ 70 [some (.ref 0), some (.int x), some (.ref v)] [] G3 _ from ?_)
  refine Pv.lit rfl ?_
  exact Pv.zret rfl ⟨rfl, ((x1.wd (fun q (c : v + 1 ≤ q ∧ q ≤ v + 1 + 7) => (show v ≤ q ∧ q ≤ v + 20 by omega))).tr (x2.wd (fun q (c : v + 9 ≤ q ∧ q ≤ v + 9 + 7) => (show v ≤ q ∧ q ≤ v + 20 by omega)))).tr (x3.wd (fun q (c : v + 17 ≤ q ∧ q ≤ v + 17 + 3) => (show v ≤ q ∧ q ≤ v + 20 by omega))),
    (t1.fx x2 (fun q a b (c : v + 9 ≤ q ∧ q ≤ v + 9 + 7) => by omega)).fx x3 (fun q a b (c : v + 17 ≤ q ∧ q ≤ v + 17 + 3) => by omega),
    (n1.fx x2 (fun (c : v + 9 ≤ v + 1 + 1 ∧ v + 1 + 1 ≤ v + 9 + 7) => by omega) (fun (c : v + 9 ≤ v + 1 + 2 ∧ v + 1 + 2 ≤ v + 9 + 7) => by omega)).fx x3 (fun (c : v + 17 ≤ v + 1 + 1 ∧ v + 1 + 1 ≤ v + 17 + 3) => by omega) (fun (c : v + 17 ≤ v + 1 + 2 ∧ v + 1 + 2 ≤ v + 17 + 3) => by omega),
    s2.fx x3 (fun q a b (c : v + 17 ≤ q ∧ q ≤ v + 17 + 3) => by omega), e3⟩
set_option maxRecDepth 100000 in
set_option maxHeartbeats 4000000 in
theorem o_image11 (hG : GW F) (hk : k < 2) {Q : Option Value → FW → Prop} (h : ∀ N, Pv (ab_T (L_X10_image Z_X3_init Z_X7_copyFrom Z_X6_copyFrom Z_X5_copyFrom)) N 18 [some (.ref 0), some (.int (Int32.ofNat k)), some (F.2.1 41 k)] [] F Q) (hv : F.2.1 41 k = .null ∨ ∃ v, F.2.1 41 k = .ref v) : Pm Z_X10_image [.ref 0, .int (Int32.ofNat k)] F Q := by
  refine Pm.of fun N => ?_
  refine (show Pv (ab_T (L_X10_image Z_X3_init Z_X7_copyFrom Z_X6_copyFrom Z_X5_copyFrom)) N 0 [some (.ref 0), some (.int (Int32.ofNat k)), none] [] F Q from ?_)
  refine Pv.iload rfl rfl ?_
  refine Pv.if0 rfl (fun c => ?_) (fun c => ?_)
  · exact absurd ((i_lt (a := k) (b := 0) (by omega) (by omega)).mp (of_decide_eq_true c)) (by omega)
  refine Pv.iload rfl rfl ?_
  refine Pv.lit rfl ?_
  refine Pv.icmp rfl (fun c => ?_) (fun c => ?_)
  · refine Pv.aload rfl rfl ?_
    refine Pv.getR (v := .ref 41) rfl rfl (hG.at (a := 0) (k := 9) (b := 41) (by decide)) ?_
    refine Pv.iload rfl rfl ?_
    refine Pv.aald (v := F.2.1 41 k) rfl (by rw [i_toNat (by omega)]) ?_
    have h' := h N
    rcases hv with e | ⟨v, e⟩ <;> rw [e] at h' ⊢
    · exact Pv.astoreN rfl rfl h'
    · exact Pv.astore rfl rfl h'
  · exact absurd hk (fun c2 => absurd ((i_lt (a := k) (b := 2) (by omega) (by omega)).mpr c2) (of_decide_eq_false c))
theorem o_image_n (h : nd 2 x = none) : Pm Z_X10_image [.ref 0, .int x] F (fun r F' => r = some (.int 0) ∧ F' = F) := by
  refine Pm.of fun N => ?_
  refine (show Pv (ab_T (L_X10_image Z_X3_init Z_X7_copyFrom Z_X6_copyFrom Z_X5_copyFrom)) N 0 [some (.ref 0), some (.int x), none] [] F _ from ?_)
  refine Pv.iload rfl rfl ?_
  refine Pv.if0 rfl (fun c => ?_) (fun c => ?_)
  · refine Pv.lit rfl ?_
    exact Pv.zret rfl ⟨rfl, rfl⟩
  refine Pv.iload rfl rfl ?_
  refine Pv.lit rfl ?_
  refine Pv.icmp rfl (fun c2 => ?_) (fun c2 => ?_)
  · have e : (nd 2 x).isSome = true := by
      rw [← nd_le (by decide), decide_eq_true (Int32.not_lt.mp (of_decide_eq_false c))]
      exact c2
    rw [h] at e
    cases e
  · refine Pv.lit rfl ?_
    exact Pv.zret rfl ⟨rfl, rfl⟩
set_option maxRecDepth 100000 in
set_option maxHeartbeats 4000000 in
theorem o_image_0 (hG : GW F) (hk : k < 2) (hv : F.2.1 41 k = .null) (hz : 88 ≤ F.2.2.2.1) (ht : F.2.1 0 13 = .ref t) (hT : TR F t T) (hN : NMC F t T nm) (hS : SHR F 12 (t_m T) S) (j0 : t = 45 ∨ t = 53) (hu : F.2.1 0 15 = .ref u) (ju : u = 61 ∨ u = 65) (hE : SE F u E) :
    Pm Z_X10_image [.ref 0, .int (Int32.ofNat k)] F (fun r F' => r = some (.int 1) ∧ F'.2.2.2.1 = F.2.2.2.1 + 21 ∧ FRZ (fun q => q = 41) F F' ∧ (∀ j, j ≠ k → F'.2.1 41 j = F.2.1 41 j) ∧ F'.2.1 41 k = .ref F.2.2.2.1 ∧ O3i F' F.2.2.2.1 ∧ TR F' (F.2.2.2.1 + 1) T ∧ NMC F' (F.2.2.2.1 + 1) T nm ∧ SHR F' (F.2.2.2.1 + 9) (t_m T) S ∧ SE F' (F.2.2.2.1 + 17) E) := by
  refine o_image11 hG hk (fun N => ?_) (Or.inl hv)
  rw [hv]
  obtain ⟨z, ez⟩ : ∃ z, z = F.2.2.2.1 := ⟨_, rfl⟩
  refine Pv.aloadN rfl rfl ?_
  refine Pv.nonnullN rfl ?_
  refine Pv.new rfl (by decide) (by decide) ?_
  rw [← ez]
  refine (show Pv _ _ 25 [some (.ref 0), some (.int (Int32.ofNat k)), some .null] [.ref z] (fnw F 0) _ from ?_)
  refine Pv.dup rfl ?_
  refine Pv.call (as := [.ref z]) (rest := [.ref z]) rfl rfl rfl (f_x3_init (F := fnw F 0) (p := z) (by show F.2.2.2.1 + 1 = _; rw [ez])) ?_
  rintro _ G ⟨rfl, w, zz, o3, o1, o9, o17⟩
  have z0 : (fnw F 0).2.2.2.1 = z + 1 := by rw [ez]; rfl
  have g0 : FRZ (fun q => q = z) F G := (fnw_frz (n := 0)).tr w
  refine (show Pv _ _ 29 [some (.ref 0), some (.int (Int32.ofNat k)), some .null] [.ref z] G _ from ?_)
  refine Pv.astore (lo' := [some (.ref 0), some (.int (Int32.ofNat k)), some (.ref z)]) rfl rfl ?_
  refine Pv.aload rfl rfl ?_
  have gw := hG.frz g0 hz (fun y my e => by have := (wires_lt y my).2; omega)
  refine Pv.getR (v := .ref 41) rfl rfl (gw.at (a := 0) (k := 9) (b := 41) (by decide)) ?_
  refine Pv.iload rfl rfl ?_
  refine Pv.aload rfl rfl ?_
  refine Pv.aastk (k := k) rfl (i_toNat (by omega)) ?_
  obtain ⟨H, eH⟩ : ∃ H, H = fpr G 41 k (.ref z) := ⟨_, rfl⟩
  rw [← eH]
  have gH : FRZ (fun q => q = 41) F H := by
    rw [eH]
    exact (g0.wd (fun a ha (c : a = z) => absurd ha (by omega))).tr (fpr_frz rfl)
  have zH : H.2.2.2.1 = z + 21 := by rw [eH]; exact zz
  have rH : ∀ a j, a ≠ 41 → H.2.1 a j = G.2.1 a j := fun a j c => by rw [eH]; exact fpr_ne (Or.inl c)
  have hz' : 88 ≤ z := by omega
  refine (o_image37 (F := H) (v := z) (hG := fun y my => (rH y.1 y.2.1 (wires_41 y my)).trans (gw y my)) ((rH 0 13 (by decide)).trans (((g0.2 0 (by omega) (by omega)).2.1 13).trans ht)) (hT.frz gH (by omega) (fun a h1 h2 c => by omega)) (hN.frz gH (by omega) (by omega) (by omega)) (hS.frz gH (by omega) (fun a h1 h2 c => by omega)) j0 ((rH 0 15 (by decide)).trans (((g0.2 0 (by omega) (by omega)).2.1 15).trans hu)) ju (hE.frz gH (by omega) (fun a h1 h2 c => by omega))
    ⟨(rH z 0 (by omega)).trans o3.1, (rH z 1 (by omega)).trans o3.2.1, (rH z 2 (by omega)).trans o3.2.2⟩ (fun j hj => (rH _ j (by omega)).trans (o1 j hj)) (fun j hj => (rH _ j (by omega)).trans (o9 j hj)) (fun j hj => (rH _ j (by omega)).trans (o17 j hj)) hz' N).imp ?_
  rintro r F' ⟨e, x1, x2, x3, x4, x5⟩
  try rw [← ez]
  have rF : F'.2.1 = H.2.1 := x1.2.2.1
  exact ⟨e, by rw [x1.2.2.2]; exact zH, gH.fx x1 (fun a ha (c : z ≤ a ∧ a ≤ z + 20) => absurd ha (by omega)), fun j c => by rw [rF, eH]; exact (fpr_ne (Or.inr c)).trans ((g0.2 41 (by omega) (by omega)).2.1 j), by rw [rF, eH]; exact fpr_eq, ⟨by rw [rF]; exact (rH z 0 (by omega)).trans o3.1, by rw [rF]; exact (rH z 1 (by omega)).trans o3.2.1, by rw [rF]; exact (rH z 2 (by omega)).trans o3.2.2⟩, x2, x3, x4, x5⟩
set_option maxRecDepth 100000 in
set_option maxHeartbeats 4000000 in
theorem o_image_1 (hG : GW F) (hk : k < 2) (hv : F.2.1 41 k = .ref v) (h88 : 88 ≤ v) (hO : O3i F v) (h1 : O7 F (v + 1)) (h9 : O7 F (v + 9)) (h17 : O3 F (v + 17)) (ht : F.2.1 0 13 = .ref t) (hT : TR F t T) (hN : NMC F t T nm) (hS : SHR F 12 (t_m T) S) (j0 : t = 45 ∨ t = 53) (hu : F.2.1 0 15 = .ref u) (ju : u = 61 ∨ u = 65) (hE : SE F u E) :
    Pm Z_X10_image [.ref 0, .int (Int32.ofNat k)] F (fun r F' => r = some (.int 1) ∧ FX (fun q => v ≤ q ∧ q ≤ v + 20) F F' ∧ TR F' (v + 1) T ∧ NMC F' (v + 1) T nm ∧ SHR F' (v + 9) (t_m T) S ∧ SE F' (v + 17) E) := by
  refine o_image11 hG hk (fun N => ?_) (Or.inr ⟨v, hv⟩)
  rw [hv]
  refine Pv.aload rfl rfl ?_
  refine Pv.nonnullR rfl ?_
  exact o_image37 hG ht hT hN hS j0 hu ju hE hO h1 h9 h17 h88 N
/-! restore -/
set_option maxRecDepth 100000 in
set_option maxHeartbeats 4000000 in
theorem o_restore11 (hG : GW F) (hk : k < 2) {Q : Option Value → FW → Prop} (h : ∀ N, Pv (ab_T (L_X10_restore Z_X7_copyFrom Z_X6_copyFrom Z_X5_copyFrom Z_X2_forget)) N 18 [some (.ref 0), some (.int (Int32.ofNat k)), some (F.2.1 41 k)] [] F Q) (hv : F.2.1 41 k = .null ∨ ∃ v, F.2.1 41 k = .ref v) : Pm Z_X10_restore [.ref 0, .int (Int32.ofNat k)] F Q := by
  refine Pm.of fun N => ?_
  refine (show Pv (ab_T (L_X10_restore Z_X7_copyFrom Z_X6_copyFrom Z_X5_copyFrom Z_X2_forget)) N 0 [some (.ref 0), some (.int (Int32.ofNat k)), none] [] F Q from ?_)
  refine Pv.iload rfl rfl ?_
  refine Pv.if0 rfl (fun c => ?_) (fun c => ?_)
  · exact absurd ((i_lt (a := k) (b := 0) (by omega) (by omega)).mp (of_decide_eq_true c)) (by omega)
  refine Pv.iload rfl rfl ?_
  refine Pv.lit rfl ?_
  refine Pv.icmp rfl (fun c => ?_) (fun c => ?_)
  · refine Pv.aload rfl rfl ?_
    refine Pv.getR (v := .ref 41) rfl rfl (hG.at (a := 0) (k := 9) (b := 41) (by decide)) ?_
    refine Pv.iload rfl rfl ?_
    refine Pv.aald (v := F.2.1 41 k) rfl (by rw [i_toNat (by omega)]) ?_
    have h' := h N
    rcases hv with e | ⟨v, e⟩ <;> rw [e] at h' ⊢
    · exact Pv.astoreN rfl rfl h'
    · exact Pv.astore rfl rfl h'
  · exact absurd hk (fun c2 => absurd ((i_lt (a := k) (b := 2) (by omega) (by omega)).mpr c2) (of_decide_eq_false c))
theorem o_restore_n (h : nd 2 x = none) : Pm Z_X10_restore [.ref 0, .int x] F (fun r F' => r = some (.int 0) ∧ F' = F) := by
  refine Pm.of fun N => ?_
  refine (show Pv (ab_T (L_X10_restore Z_X7_copyFrom Z_X6_copyFrom Z_X5_copyFrom Z_X2_forget)) N 0 [some (.ref 0), some (.int x), none] [] F _ from ?_)
  refine Pv.iload rfl rfl ?_
  refine Pv.if0 rfl (fun c => ?_) (fun c => ?_)
  · refine Pv.lit rfl ?_
    exact Pv.zret rfl ⟨rfl, rfl⟩
  refine Pv.iload rfl rfl ?_
  refine Pv.lit rfl ?_
  refine Pv.icmp rfl (fun c2 => ?_) (fun c2 => ?_)
  · have e : (nd 2 x).isSome = true := by
      rw [← nd_le (by decide), decide_eq_true (Int32.not_lt.mp (of_decide_eq_false c))]
      exact c2
    rw [h] at e
    cases e
  · refine Pv.lit rfl ?_
    exact Pv.zret rfl ⟨rfl, rfl⟩
theorem o_restore_0 (hG : GW F) (hk : k < 2) (hv : F.2.1 41 k = .null) : Pm Z_X10_restore [.ref 0, .int (Int32.ofNat k)] F (fun r F' => r = some (.int 0) ∧ F' = F) := by
  refine o_restore11 hG hk (fun N => ?_) (Or.inl hv)
  rw [hv]
  refine Pv.aloadN rfl rfl ?_
  refine Pv.nonnullN rfl ?_
  refine Pv.lit rfl ?_
  exact Pv.zret rfl ⟨rfl, rfl⟩
set_option maxRecDepth 100000 in
set_option maxHeartbeats 4000000 in
theorem o_restore_1 (hG : GW F) (hk : k < 2) (hv : F.2.1 41 k = .ref v) (h88 : 88 ≤ v) (hO : O3i F v) (hT' : TR F (v + 1) T') (hN' : NMC F (v + 1) T' nm') (hS' : SHR F (v + 9) (t_m T') S') (hE' : SE F (v + 17) E') (ht : F.2.1 0 13 = .ref t) (hT : TR F t T) (j0 : t = 45 ∨ t = 53) (hu : F.2.1 0 15 = .ref u) (ju : u = 61 ∨ u = 65) (hE : SE F u E) :
    Pm Z_X10_restore [.ref 0, .int (Int32.ofNat k)] F (fun r F' => r = some (.int 1) ∧ FX (fun q => (t ≤ q ∧ q ≤ t + 7) ∨ (12 ≤ q ∧ q ≤ 19) ∨ (u ≤ q ∧ q ≤ u + 3) ∨ q = 10) F F' ∧ TR F' t T' ∧ NMC F' t T' nm' ∧ SHR F' 12 (t_m T') S' ∧ SE F' u E' ∧ F'.1 10 1 = 0) := by
  refine o_restore11 hG hk (fun N => ?_) (Or.inr ⟨v, hv⟩)
  rw [hv]
  have b3 := hT'.mb
  refine Pv.aload rfl rfl ?_
  refine Pv.nonnullR rfl ?_
  refine Pv.aload rfl rfl ?_
  refine Pv.getR (v := .ref t) rfl rfl ht ?_
  refine Pv.aload rfl rfl ?_
  refine Pv.getR (v := .ref (v + 1)) rfl rfl hO.1 ?_
  refine Pv.callV (as := [.ref t, .ref (v + 1)]) (rest := []) rfl rfl rfl (f_stCopy hT.o hT' hN' (by omega)) ?_
  rintro _ G1 ⟨rfl, x1, t1, n1⟩
  refine (show Pv _ _ 35 [some (.ref 0), some (.int (Int32.ofNat k)), some (.ref v)] [] G1 _ from ?_)
  refine Pv.aload rfl rfl ?_
  refine Pv.getR (v := .ref 12) rfl rfl ((hG.fx x1).at (a := 0) (k := 4) (b := 12) (by decide)) ?_
  refine Pv.aload rfl rfl ?_
  refine Pv.getR (v := .ref (v + 9)) rfl rfl (by rw [x1.2.2.1]; exact hO.2.1) ?_
  refine Pv.callV (as := [.ref 12, .ref (v + 9)]) (rest := []) rfl rfl rfl (f_shCopy (x1.O7 hG.o12) (hS'.fx x1 (fun q a b (c : t ≤ q ∧ q ≤ t + 7) => by omega)) b3 (by omega)) ?_
  rintro _ G2 ⟨rfl, x2, s2⟩
  refine (show Pv _ _ 46 [some (.ref 0), some (.int (Int32.ofNat k)), some (.ref v)] [] G2 _ from ?_)
  refine Pv.aload rfl rfl ?_
  refine Pv.getR (v := .ref u) rfl rfl (by rw [x2.2.2.1, x1.2.2.1]; exact hu) ?_
  refine Pv.aload rfl rfl ?_
  refine Pv.getR (v := .ref (v + 17)) rfl rfl (by rw [x2.2.2.1, x1.2.2.1]; exact hO.2.2) ?_
  refine Pv.callV (as := [.ref u, .ref (v + 17)]) (rest := []) rfl rfl rfl (f_seCopy (x2.O3 (x1.O3 hE.o)) ((hE'.fx x1 (fun q a b (c : t ≤ q ∧ q ≤ t + 7) => by omega)).fx x2 (fun q a b (c : 12 ≤ q ∧ q ≤ 12 + 7) => by omega)) (by omega)) ?_
  rintro _ G3 ⟨rfl, x3, e3⟩
  refine (show Pv _ _ 57 [some (.ref 0), some (.int (Int32.ofNat k)), some (.ref v)] [] G3 _ from ?_)
  refine Pv.aload rfl rfl ?_
  refine Pv.getR (v := .ref 10) rfl rfl (by rw [x3.2.2.1, x2.2.2.1, x1.2.2.1]; exact hG.at (a := 0) (k := 3) (b := 10) (by decide)) ?_
  refine Pv.callVU (as := [.ref 10]) (rest := []) rfl rfl rfl f_forget ?_
  refine Pv.lit rfl ?_
  have y1 := x1.wd (P' := fun q => (t ≤ q ∧ q ≤ t + 7) ∨ (12 ≤ q ∧ q ≤ 19) ∨ (u ≤ q ∧ q ≤ u + 3) ∨ q = 10) (fun q c => Or.inl c)
  have y2 := x2.wd (P' := fun q => (t ≤ q ∧ q ≤ t + 7) ∨ (12 ≤ q ∧ q ≤ 19) ∨ (u ≤ q ∧ q ≤ u + 3) ∨ q = 10) (fun q c => Or.inr (Or.inl c))
  have y3 := x3.wd (P' := fun q => (t ≤ q ∧ q ≤ t + 7) ∨ (12 ≤ q ∧ q ≤ 19) ∨ (u ≤ q ∧ q ≤ u + 3) ∨ q = 10) (fun q c => Or.inr (Or.inr (Or.inl c)))
  have y4 : FX (fun q => q = 10) G3 (fp G3 10 1 0) := FX.rf.fp rfl
  exact Pv.zret rfl ⟨rfl, ((y1.tr y2).tr y3).fp (Or.inr (Or.inr (Or.inr rfl))),
    ((t1.fx x2 (fun q a b (c : 12 ≤ q ∧ q ≤ 12 + 7) => by omega)).fx x3 (fun q a b (c : u ≤ q ∧ q ≤ u + 3) => by omega)).fx y4 (fun q a b (c : q = 10) => by omega),
    ((n1.fx x2 (fun (c : 12 ≤ t + 1 ∧ t + 1 ≤ 12 + 7) => by omega) (fun (c : 12 ≤ t + 2 ∧ t + 2 ≤ 12 + 7) => by omega)).fx x3 (fun (c : u ≤ t + 1 ∧ t + 1 ≤ u + 3) => by omega) (fun (c : u ≤ t + 2 ∧ t + 2 ≤ u + 3) => by omega)).fx y4 (fun (c : t + 1 = 10) => by omega) (fun (c : t + 2 = 10) => by omega),
    (s2.fx x3 (fun q a b (c : u ≤ q ∧ q ≤ u + 3) => by omega)).fx y4 (fun q a b (c : q = 10) => by omega), e3.fx y4 (fun a h1 h2 (c : a = 10) => by omega), fp_eq⟩
end IMG
