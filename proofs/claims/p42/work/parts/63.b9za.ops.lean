theorem XR.sf {F G : FW} {D : DD} (h : XR F D) (x : SFX F G) : XR G D :=
  ⟨h.G.fx x.1, h.T.of fun k _ => x.1.1 71 k (by decide), h.s.of h.T.mb fun k _ _ => x.1.1 71 k (by decide), HSX.same h.h h.T.mb (x.2.1 25 (by decide) (by decide) (by decide) (by decide) (by decide) (by decide) (by decide) (by decide) (by decide) (by decide) (by decide) (by decide) (by decide) (by decide)) (fun k => x.1.1 77 k (by decide)), ⟨fun q hq => by rw [x.2.2.2 _ (by have := h.T.gb; omega)]; exact h.n.1 q hq, fun q hq => by rw [x.2.2.2 _ (by have := h.T.mb; omega)]; exact h.n.2 q hq⟩, x.W h.w, fun k hk => (h.i hk).ce (fun j => x.1.1 84 j (by decide)) (x.1.1 86 k (by decide)) (fun j => x.1.2.1 85 j (by decide))⟩
theorem e_strait {F : FW} {D : DD} {tn : Nat} (h : XR F D) (h2 : F.1 69 2 = Int32.ofNat tn) (htn : tn ≤ 940) : Pm Z_X11_strait [.ref 69] F (fun v F' => ∃ l i s a f, lns (tok (RBF F tn) tn 900) l = some (s, i) ∧ stp (tok (RBF F tn) tn 900) l s i = some (a, f) ∧ (∃ z, v = some (.int z)) ∧ (F'.1 69 15).toInt = f ∧ XR F' (dSt D s f) ∧ KC F F') := by
  refine (q_strait h.G h2 htn h.w).imp ?_
  rintro r F' ⟨K, sf, k2, l, i, s, hl, c⟩
  have hK := h.sf sf
  have kc1 : KC F K := sf.1.kc (fun q (c : q = 69 ∨ q = 72 ∨ q = 74 ∨ q = 76) => by omega)
  rcases c with ⟨hst, e, sr, z15, x⟩ | ⟨f, v, hst, hf, e, e15, rfl⟩
  · refine ⟨l, i, s, _, _, hl, hst, ⟨_, e⟩, by rw [x.2.1 15 (by decide), z15]; rfl, ?_, kc1.tr (x.1.kc (fun q (c : q = 69 ∨ q = 71 ∨ q = 74) => by omega))⟩
    have k := lns_psk hl
    show XR F' (if (0 : Int) = 0 then (psT s, s.nm, psS (psT s), 0, dH D, dI D) else D)
    rw [if_pos rfl]
    exact ⟨hK.G.fx x.1, x.xt sr k, x.xs sr k, ⟨x.2.2.1, Nat.zero_le _, fun j hj => absurd hj (Nat.not_lt_zero j)⟩, x.ng sr, fun j hj => (congrArg Int64.toInt (x.1.2.1 75 j (by decide))).trans (hK.w j hj), fun j hj => (hK.i hj).ce (fun q => x.1.1 84 q (by decide)) (x.1.1 86 j (by decide)) (fun q => x.1.2.1 85 q (by decide))⟩
  · refine ⟨l, i, s, _, _, hl, hst, ⟨_, e⟩, e15, ?_, kc1⟩
    unfold dSt
    rw [if_neg hf]
    exact hK
/-- what a LOG makes of all that is -/
def dLg (D : DD) (l : Int32) (nl : Nat) (L : LN) (c : Int32) : DD := if c = 0 then dK (decide (l = 1) && decide (0 < jn nl (m_fst (jP (dT D) L (dS D)) nl))) (if l = 1 then jr (dT D) L (dS D) (jn nl (m_fst (jP (dT D) L (dS D)) nl)) else dS D) D else D
def aLg (D : DD) (K : Nat → TT) (nl : Nat) (L : LN) (c : Int32) (j : Nat) (r : Option Value) : Prop := (c = 0 → r = some (.int (oN (m_fst (jP (dT D) L (dS D)) nl)))) ∧ (¬ c = 0 → ∃ v, r = some (.int (-2 - v)) ∧ Int32.toInt v = (K j).pl)
theorem DOK.lg {D : DD} {K : Nat → TT} {nm : Nat → Int} {l c : Int32} {nl j : Nat} {L : LN} (h : DOK D) (hg : t_g (dT D) ≤ 6) (a : LGA K nm (t_g (dT D)) (t_m (dT D)) nl L c j) : DOK (dLg D l nl L c) := by
  unfold dLg
  split
  · refine h.k ?_
    split
    · exact INV_jr h.1 hg h.2.1 _ fun q hq => a.ok hg q (Nat.lt_of_lt_of_le hq jn_le)
    · exact h.2.1
  · exact h
theorem d_log {tt : Nat → Nat} {hp : ab_H} {tn : Nat} {D : DD} {l : Int32} (Hs : sf_h tt hp) (hce : sf_cE kq_X8_moveInto_v Z_X8_moveInto ke_X8_moveInto_v) (hn : sf_rd hp 1 1 = some (tn : Int)) (h : CR (fl hp) D) : Pj Z_X10_log [.ref 0, .int l] hp (fun r F' => KX (fl hp) F' ∧ ((¬ (l = 0 ∨ l = 1) ∧ r = some (.int (-1000)) ∧ CR F' D) ∨ ((l = 0 ∨ l = 1) ∧ ∃ nl L c j, LGA (tok (bv hp 2 tn) tn 400) (dN D) (t_g (dT D)) (t_m (dT D)) nl L c j ∧ aLg D (tok (bv hp 2 tn) tn 400) nl L c j r ∧ F'.1 0 18 = c ∧ CR F' (dLg D l nl L c)))) := by
  obtain ⟨t, h13, hT, j0, hN⟩ := h.t
  have w7 := o7w h.G
  refine (o_log (l := l) Hs hce hn h.G h13 hT j0 h.s w7.2.1 h.h h.c hN).imp ?_
  rintro r F' (⟨a, e, rfl⟩ | ⟨a, F1, mv, kf, x0, c⟩)
  · exact ⟨KX.rf, Or.inl ⟨a, e, h⟩⟩
  · have h1 := h.mv mv
    have kx := (KX.mv h.c mv).tr (KF.kx h1 kf (fun q c => by unfold LCP at c; omega))
    refine ⟨kx, Or.inr ⟨a, ?_⟩⟩
    rcases c with ⟨nl, L, j, hA, e, e18, hk, hs, -⟩ | ⟨v, e, hh, hs, -, nl, L, c, j, hA, hc, e18, ev⟩
    · refine ⟨nl, L, 0, j, hA, ⟨fun _ => e, fun q => absurd rfl q⟩, e18, ?_⟩
      unfold dLg
      rw [if_pos rfl]
      exact CR.kf h1 kf (fun q c => by unfold LCP at c; omega) hs (n' := if (decide (l = 1) && decide (0 < jn nl (m_fst (jP (dT D) L (dS D)) nl))) = true then m_kn (dn D) else dn D) (H' := if (decide (l = 1) && decide (0 < jn nl (m_fst (jP (dT D) L (dS D)) nl))) = true then m_kH (dn D) (dH D) (dS D) else dH D) (by
        cases b : (decide (l = 1) && decide (0 < jn nl (m_fst (jP (dT D) L (dS D)) nl))) with
        | false =>
          rw [b] at hk
          exact hk
        | true =>
          rw [b] at hk
          exact hk)
    · refine ⟨nl, L, c, j, hA, ⟨fun q => absurd q hc, fun _ => ⟨v, e, ev⟩⟩, e18, ?_⟩
      unfold dLg
      rw [if_neg hc]
      exact CR.kf h1 kf (fun q c => by unfold LCP at c; omega) hs hh
theorem e_log {F : FW} {D : DD} {tn : Nat} {l : Int32} (h : XR F D) (k : DOK D) (h2 : F.1 69 2 = Int32.ofNat tn) (htn : tn ≤ 940) : Pm Z_X11_log [.ref 69, .int l] F (fun r F' => KC F F' ∧ ((¬ (l = 0 ∨ l = 1) ∧ r = some (.int (-1000)) ∧ XR F' D) ∨ ((l = 0 ∨ l = 1) ∧ ∃ nl L c j, LGA (tok (RBF F tn) tn 400) (dN D) (t_g (dT D)) (t_m (dT D)) nl L c j ∧ aLg D (tok (RBF F tn) tn 400) nl L c j r ∧ F'.1 69 15 = c ∧ XR F' (dLg D l nl L c)))) := by
  refine (q_log (l := l) h.G h.T k.1 k.2.1 h.s h.h h.n.1 h.n.2 h.w h2 htn).imp ?_
  rintro r F' (⟨a, e, rfl⟩ | ⟨a, F1, tk, z2, c⟩)
  · exact ⟨KC.f69 (FX.rf.fp rfl), Or.inl ⟨a, e, h.f69 (FX.rf.fp rfl) (fp_ne (Or.inr (by decide)))⟩⟩
  · have n25 : F1.1 69 25 = F.1 69 25 := tk.2.1 25 (by decide) (by decide) (by decide) (by decide) (by decide) (by decide) (by decide) (by decide) (by decide) (by decide) (by decide)
    have h1 := h.f69 tk.1 n25
    have kc1 := KC.f69 tk.1
    have rz : ∀ G, RZX F1 G → XR G D ∧ KC F1 G := fun G x => ⟨h1.st x.1 (fun q (c : q = 69 ∨ q = 73) => by omega) (fun k _ => x.1.1 71 k (by decide)) (x.S h1.T.mb h1.s) (x.H h1.T.mb h1.h), x.1.kc (fun q (c : q = 69 ∨ q = 73) => by omega)⟩
    rcases c with ⟨nl, L, j, F2, hA, -, hz, z15, e, lx, xs, hk, -⟩ | ⟨v, e, nl, L, c, j, hA, hc, hz, e15, ev⟩
    · obtain ⟨hx, kc2⟩ := rz F2 hz
      refine ⟨(kc1.tr kc2).tr (lx.1.kc (fun q (c : q = 69 ∨ q = 71 ∨ q = 77 ∨ q = 78 ∨ q = 81) => by omega)), Or.inr ⟨a, nl, L, 0, j, hA, ⟨fun _ => e, fun q => absurd rfl q⟩, (lx.2.2 15 (by decide) (by decide) (by decide) (by decide) (by decide)).trans z15, ?_⟩⟩
      unfold dLg
      rw [if_pos rfl]
      exact hx.st lx.1 (fun q (c : q = 69 ∨ q = 71 ∨ q = 77 ∨ q = 78 ∨ q = 81) => by omega) (fun k hk => lx.2.1 k (Or.inl hk)) xs (n' := if (decide (l = 1) && decide (0 < jn nl (m_fst (jP (dT D) L (dS D)) nl))) = true then m_kn (dn D) else dn D) (H' := if (decide (l = 1) && decide (0 < jn nl (m_fst (jP (dT D) L (dS D)) nl))) = true then m_kH (dn D) (dH D) (dS D) else dH D) (by
        cases b : (decide (l = 1) && decide (0 < jn nl (m_fst (jP (dT D) L (dS D)) nl))) with
        | false =>
          rw [b] at hk
          exact hk
        | true =>
          rw [b] at hk
          exact hk)
    · obtain ⟨hx, kc2⟩ := rz F' hz
      refine ⟨kc1.tr kc2, Or.inr ⟨a, nl, L, c, j, hA, ⟨fun q => absurd q hc, fun _ => ⟨v, e, ev⟩⟩, e15, ?_⟩⟩
      unfold dLg
      rw [if_neg hc]
      exact hx
