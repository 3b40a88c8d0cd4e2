theorem IXC.bl {F G : FW} {k : Nat} {o : Option Imx} (h : IXC F k o) (e : ∀ i, i < 434 → G.1 84 (434 * k + i) = F.1 84 (434 * k + i)) (e6 : G.1 86 k = F.1 86 k) (e5 : ∀ i, i < 14 → G.2.2.1 85 (14 * k + i) = F.2.2.1 85 (14 * k + i)) : IXC G k o := by
  unfold IXC at h ⊢
  cases o with
  | none => exact e6.trans h
  | some x =>
    obtain ⟨h1, h2, h3, h4, h5⟩ := h
    have q : ∀ j, j < 434 → (fcp G 84 71 (434 * k) 0 434).1 71 j = (fcp F 84 71 (434 * k) 0 434).1 71 j := fun j hj => by
      rw [fcp_in (by omega), fcp_in (by omega)]
      exact e _ (by omega)
    have b1 := h2.gb
    have b2 := h2.mb
    exact ⟨by rw [e6]; exact h1, h2.of fun j hj => q j (by omega), h3.of b2 fun j a1 a2 => q j (by omega), fun g hg => by rw [e5 _ (by omega)]; exact h4 g hg, fun g hg => by rw [e5 _ (by omega)]; exact h5 g hg⟩
theorem e_image {F : FW} {D : DD} (h : XR F D) (x : Int32) : Pm Z_X11_image [.ref 69, .int x] F (fun r F' => (∃ z, r = some (.int z)) ∧ XR F' (dImo D (nd 2 x)) ∧ KC F F') := by
  cases hx : nd 2 x with
  | none => exact QO3q (Q := fun r => ∃ z, r = some (.int z)) h ((q_image_n hx).imp fun r F' q => ⟨⟨_, q.1⟩, q.2⟩)
  | some k =>
    obtain ⟨hk, rfl⟩ := nd_some hx
    refine (q_image_y h.G hk).imp ?_
    rintro r F' ⟨er, z, e1, e2, e9, e6, e7, l1, l2⟩
    have e71 : ∀ j, F'.1 71 j = F.1 71 j := fun j => z.1 71 j (by decide)
    have l74 : ∀ j, F'.2.2.1 74 j = F.2.2.1 74 j := fun j => z.2.1 74 j (by decide)
    have q : ∀ j, j < 434 → (fcp F' 84 71 (434 * k) 0 434).1 71 j = F.1 71 j := fun j hj => by
      rw [fcp_in (by omega)]
      have := e1 j hj
      rw [show j - 0 = j by omega]
      exact this
    have b1 := h.T.gb
    have b2 := h.T.mb
    refine ⟨⟨_, er⟩, ⟨h.G.fx z, h.T.of fun j _ => e71 j, h.s.of b2 fun j _ _ => e71 j, HSX.same h.h b2 (e9 25 (by decide)) (fun j => z.1 77 j (by decide)), ⟨fun g hg => by rw [l74]; exact h.n.1 g hg, fun g hg => by rw [l74]; exact h.n.2 g hg⟩, fun j hj => (congrArg Int64.toInt (z.2.1 75 j (by decide))).trans (h.w j hj), fun j hj => ?_⟩, z.kc (fun q (c : q = 69 ∨ q = 84 ∨ q = 85 ∨ q = 86) => by omega)⟩
    show IXC F' j (if j = k then some (dT D, dN D, dS D) else dI D j)
    by_cases c : j = k
    · rw [if_pos c, c]
      refine ⟨by rw [e6]; decide, h.T.of fun i hi => q i (by omega), h.s.of b2 fun i a1 a2 => q i (by omega), fun g hg => ?_, fun g hg => ?_⟩
      · have hg' : g < t_g (dT D) := hg
        rw [l1 _ (by omega)]
        exact h.n.1 g hg
      · have hg' : g < t_m (dT D) := hg
        rw [l1 _ (by omega)]
        exact h.n.2 g hg
    · rw [if_neg c]
      exact (h.i hj).bl (fun i hi => e2 _ (by omega)) (e7 j c) (fun i hi => l2 _ (by omega))
theorem e_restore {F : FW} {D : DD} (h : XR F D) (x : Int32) : Pm Z_X11_restore [.ref 69, .int x] F (fun r F' => (∃ z, r = some (.int z)) ∧ XR F' (dRso D (nd 2 x)) ∧ KC F F') := by
  cases hx : nd 2 x with
  | none => exact QO3q (Q := fun r => ∃ z, r = some (.int z)) h ((q_restore_n hx).imp fun r F' q => ⟨⟨_, q.1⟩, q.2⟩)
  | some k =>
    obtain ⟨hk, rfl⟩ := nd_some hx
    have ik := h.i hk
    unfold IXC at ik
    show Pm _ _ _ (fun r F' => (∃ z, r = some (.int z)) ∧ XR F' (dRs D k) ∧ KC F F')
    unfold dRs
    cases e : dI D k with
    | none =>
      rw [e] at ik
      exact QO3q (Q := fun r => ∃ z, r = some (.int z)) h ((q_restore_z h.G hk rfl ik).imp fun r F' q => ⟨⟨_, q.1⟩, q.2⟩)
    | some y =>
      rw [e] at ik
      obtain ⟨i1, i2, i3, i4, i5⟩ := ik
      refine (q_restore_y h.G hk rfl i1).imp ?_
      rintro r F' ⟨er, z, e1, e9, e25, l1, l2⟩
      have q : ∀ j, j < 434 → F'.1 71 j = (fcp F 84 71 (434 * k) 0 434).1 71 j := fun j hj => by
        rw [fcp_in (by omega), show j - 0 = j by omega]
        exact e1 j hj
      have b1 := i2.gb
      have b2 := i2.mb
      exact ⟨⟨_, er⟩, ⟨h.G.fx z, i2.of fun j hj => q j (by omega), i3.of b2 fun j a1 a2 => q j (by omega), ⟨e25, Nat.zero_le _, fun j hj => absurd hj (Nat.not_lt_zero j)⟩, ⟨fun g (hg : g < t_g y.1) => by rw [l1 _ (by omega)]; exact i4 g hg, fun g (hg : g < t_m y.1) => by rw [l1 _ (by omega)]; exact i5 g hg⟩, fun j hj => (congrArg Int64.toInt (z.2.1 75 j (by decide))).trans (h.w j hj), fun j hj => (h.i hj).ce (fun i => z.1 84 i (by decide)) (z.1 86 j (by decide)) (fun i => z.2.1 85 i (by decide))⟩, z.kc (fun q (c : q = 69 ∨ q = 71 ∨ q = 74) => by omega)⟩
