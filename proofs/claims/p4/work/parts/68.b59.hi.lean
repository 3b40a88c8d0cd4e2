set_option maxRecDepth 100000 in
set_option maxHeartbeats 4000000 in
theorem f_dropOldest {F : FW} {q : Nat → Nat} (hG : GW F) (hq : ∀ j, j < 8 → F.2.1 11 j = .ref (q j)) : Pm Z_X2_dropOldest [.ref 10] F (fun r F' => r = none ∧ F'.1 = (fp F 10 1 7).1 ∧ F'.2.2 = F.2.2 ∧ (∀ a j, a ≠ 11 → F'.2.1 a j = F.2.1 a j) ∧ ∀ j, j < 8 → F'.2.1 11 j = .ref (if j < 7 then q (j + 1) else q 0)) := by
  refine Pm.of fun N => ?_
  obtain ⟨Q, hQ⟩ : ∃ Q : Option Value → FW → Prop, Q = (fun r F' => r = none ∧ F'.1 = (fp F 10 1 7).1 ∧ F'.2.2 = F.2.2 ∧ (∀ a j, a ≠ 11 → F'.2.1 a j = F.2.1 a j) ∧ ∀ j, j < 8 → F'.2.1 11 j = .ref (if j < 7 then q (j + 1) else q 0)) := ⟨_, rfl⟩
  rw [← hQ]
  refine (show Pv (ab_T L_X2_dropOldest) N 0 [some (.ref 10), none, none] [] F Q from ?_)
  refine Pv.aload rfl rfl ?_
  refine Pv.getR (v := .ref 11) rfl rfl (GW.at (a := 10) (k := 0) (b := 11) hG (by decide)) ?_
  refine Pv.lit rfl ?_
  refine Pv.aald (v := .ref (q 0)) rfl (hq 0 (by omega)) ?_
  refine Pv.astore (lo' := [some (.ref 10), some (.ref (q 0)), none]) rfl rfl ?_
  refine Pv.lit rfl ?_
  refine Pv.istore (lo' := [some (.ref 10), some (.ref (q 0)), some (.int 1)]) rfl rfl ?_
  refine Pv.lp (ι := Nat × FW) (lof := fun ⟨k, G⟩ => [some (.ref 10), some (.ref (q 0)), some (.int (Int32.ofNat k))]) (Ff := fun ⟨k, G⟩ => G) (P := fun ⟨k, G⟩ => 1 ≤ k ∧ k ≤ 8 ∧ G.1 = F.1 ∧ G.2.2 = F.2.2 ∧ (∀ a j, a ≠ 11 → G.2.1 a j = F.2.1 a j) ∧ ∀ j, j < 8 → G.2.1 11 j = .ref (if j + 1 < k then q (j + 1) else q j)) ?_ (1, F) (⟨Nat.le_refl _, by omega, rfl, rfl, fun _ _ _ => rfl, fun j hj => (hq j hj).trans (congrArg Value.ref (if_neg (by omega)).symm)⟩)
  rintro N1 hN2 ⟨k, G⟩ hi3 ih4
  refine (show Pv _ _ 9 [some (.ref 10), some (.ref (q 0)), some (.int (Int32.ofNat k))] [] G Q from ?_)
  obtain ⟨hk, hk8, hC, hE, hB, hA⟩ := hi3
  have hx5 : G.2.1 10 0 = .ref 11 := (hB 10 0 (by decide)).trans (GW.at (a := 10) (k := 0) (b := 11) hG (by decide))
  refine Pv.iloadS rfl rfl ?_
  refine Pv.lit rfl ?_
  refine Pv.icmp rfl (fun c6 => ?_) (fun c6 => ?_)
  · skip
    replace c6 := (i_le (a := 8) (b := k) (by omega) (by omega)).mp (of_decide_eq_true c6)
    refine Pv.aload rfl rfl ?_
    refine Pv.getR (v := .ref 11) rfl rfl (hx5) ?_
    refine Pv.lit rfl ?_
    refine Pv.aload rfl rfl ?_
    refine Pv.aastk (k := 7) rfl (rfl) ?_
    refine Pv.aload rfl rfl ?_
    refine Pv.lit rfl ?_
    refine Pv.putI rfl rfl ?_
    exact Pv.vret rfl (by rw [hQ]; exact ⟨rfl, by show (fp _ 10 1 7).1 = _; unfold fp; dsimp only; rw [show (fpr G 11 7 (.ref (q 0))).1 = F.1 from hC], hE, fun a j c => (fpr_ne (Or.inl c)).trans (hB a j c), fun j hj => Or.elim (Classical.em (j = 7)) (fun e => by rw [e]; exact fpr_eq) (fun e => (fpr_ne (Or.inr e)).trans ((hA j hj).trans (congrArg Value.ref ((if_pos (by omega)).trans (if_pos (by omega)).symm))))⟩)
  · skip
    replace c6 := mt (i_le (a := 8) (b := k) (by omega) (by omega)).mpr (of_decide_eq_false c6)
    refine Pv.aload rfl rfl ?_
    refine Pv.getR (v := .ref 11) rfl rfl (hx5) ?_
    refine Pv.iload rfl rfl ?_
    refine Pv.lit rfl ?_
    refine Pv.bin (z := Int32.ofNat (k - 1)) rfl (i_subN (by omega)) ?_
    refine Pv.aload rfl rfl ?_
    refine Pv.getR (v := .ref 11) rfl rfl (hx5) ?_
    refine Pv.iload rfl rfl ?_
    refine Pv.aald (v := .ref (q k)) rfl (by rw [i_toNat (by omega)]; exact (hA k (by omega)).trans (congrArg Value.ref (if_neg (by omega)))) ?_
    refine Pv.aastk (k := k - 1) rfl (i_toNat (by omega)) ?_
    refine Pv.iinc (y := Int32.ofNat (k + 1)) (lo' := [some (.ref 10), some (.ref (q 0)), some (.int (Int32.ofNat (k + 1)))]) rfl rfl (i_add k 1) rfl ?_
    refine Pv.goto rfl ?_
    exact ih4 (k + 1, (fpr G 11 (k - 1) (.ref (q k)))) (⟨by omega, by omega, hC, hE, fun a j c => (fpr_ne (Or.inl c)).trans (hB a j c), fun j hj => Or.elim (Classical.em (j = k - 1)) (fun e => by rw [e]; exact fpr_eq.trans (congrArg Value.ref (by rw [if_pos (by omega), show k - 1 + 1 = k by omega]))) (fun e => (fpr_ne (Or.inr e)).trans ((hA j hj).trans (congrArg Value.ref (ifn (by omega)))))⟩)
set_option maxRecDepth 100000 in
set_option maxHeartbeats 4000000 in
theorem f_forget {F : FW} : Pm Z_X2_forget [.ref 10] F (fun r F' => r = none ∧ F' = fp F 10 1 0) := by
  refine Pm.of fun N => ?_
  obtain ⟨Q, hQ⟩ : ∃ Q : Option Value → FW → Prop, Q = (fun r F' => r = none ∧ F' = fp F 10 1 0) := ⟨_, rfl⟩
  rw [← hQ]
  refine (show Pv (ab_T L_X2_forget) N 0 [some (.ref 10)] [] F Q from ?_)
  refine Pv.aload rfl rfl ?_
  refine Pv.lit rfl ?_
  refine Pv.putI rfl rfl ?_
  exact Pv.vret rfl (by rw [hQ]; exact ⟨rfl, rfl⟩)
