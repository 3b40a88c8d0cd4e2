/-! ===== the log's facts: kept beside the days ===== -/
def LGQ (f : Nat → Int32) (F : FW) : Prop := AR F 44 4 f ∧ ((F.1 69 32 = 1 ∧ AR F 81 4 f) ∨ (F.1 69 32 = 0 ∧ ∀ k, k < 4 → f k = -1))
theorem LGQ_fr {W : List (Nat × Nat × Nat)} {t t' : Nat → Nat} {hp hp' : ab_H} {f : Nat → Int32} (H : sf_h t hp) (x : sf_fr W t hp t' hp') (h1 : sf_inW W 11 32 = false) (h2 : W.all (fun w => decide (w.1 ≠ 130)) = true) (h3 : W.all (fun w => decide (w.1 ≠ 142)) = true) (h : LGQ f (fl hp)) : LGQ f (fl hp') := by
  obtain ⟨a, b⟩ := h
  have e1 := gi_fr H x (g := 11) rfl (by decide) rfl h1
  refine ⟨fun j hj => (ga_fr H x (g := 130) rfl h2).trans (a j hj), ?_⟩
  rcases b with ⟨b1, b2⟩ | ⟨b1, b2⟩
  · exact Or.inl ⟨e1.trans b1, fun j hj => (ga_fr H x (g := 142) rfl h3).trans (b2 j hj)⟩
  · exact Or.inr ⟨e1.trans b1, b2⟩
/-- how long an array that stands alone is -/
theorem gn_al {t : Nat → Nat} {hp : ab_H} {g p : Nat} (H : sf_h t hp) (hP : sf_P g = some p) (hg : 100 ≤ g) : (fl hp).2.2.2.2 p = (sf_A g).2.1 := by
  obtain ⟨a1, a2⟩ := H.2.2.1 g p hP
  have c := H.1 p a1
  rw [a2] at c
  unfold sf_c at c
  show gn hp p = _
  unfold gn
  split at c
  · exact absurd c.2.1 (by omega)
  · rename_i x hx
    obtain ⟨-, c1, c2, c3⟩ := c
    first | exact c2 | (rw [hx]; exact c2)
theorem d_logged {t : Nat → Nat} {hp : ab_H} {D : DD} {f : Nat → Int32} (H : sf_h t hp) (h : CR (fl hp) D) (q : LGQ f (fl hp)) (w : Int32) : Pm Z_X10_logged [.ref 0, .int w] (fl hp) (fun r F' => r = some (.int (a_logged f w)) ∧ CR F' D ∧ KX (fl hp) F') := by
  obtain ⟨t0, ht, hT, j0, -⟩ := h.t
  exact CO1 h (o_logged h.G ht hT h.s j0 q.1 ((gn_al H (g := 130) rfl (by decide)).trans rfl) w)
theorem e_logged {F : FW} {D : DD} {f : Nat → Int32} (h : XR F D) (q : LGQ f F) (w : Int32) : Pm Z_X11_logged [.ref 69, .int w] F (fun r F' => r = some (.int (a_logged f w)) ∧ XR F' D ∧ KC F F') := by
  rcases q.2 with ⟨b1, b2⟩ | ⟨b1, b2⟩
  · exact QO3 h (q_logged1 h.G b1 b2 w)
  · exact QO3 h (q_logged0 h.G b1 b2 w)
theorem d_logF {tt : Nat → Nat} {hp : ab_H} {tn : Nat} {D : DD} {l : Int32} (Hs : sf_h tt hp) (hce : sf_cE kq_X8_moveInto_v Z_X8_moveInto ke_X8_moveInto_v) (hn : sf_rd hp 1 1 = some (tn : Int)) (h : CR (fl hp) D) : Pj Z_X10_log [.ref 0, .int l] hp (fun r F' => (¬ (l = 0 ∨ l = 1)) ∨ ∃ nl L c j, LGA (tok (bv hp 2 tn) tn 400) (dN D) (t_g (dT D)) (t_m (dT D)) nl L c j ∧ (c = 0 → LCF F' (jc (dT D) L (dS D) (m_fst (jP (dT D) L (dS D)) nl)) (jn nl (m_fst (jP (dT D) L (dS D)) nl)) (dS D) (jr (dT D) L (dS D) (jn nl (m_fst (jP (dT D) L (dS D)) nl)))) ∧ (¬ c = 0 → ∀ k, F'.1 44 k = (fl hp).1 44 k)) := by
  obtain ⟨t, h13, hT, j0, hN⟩ := h.t
  have w7 := o7w h.G
  refine (o_log (l := l) Hs hce hn h.G h13 hT j0 h.s w7.2.1 h.h h.c hN).imp ?_
  rintro r F' (⟨a, e, rfl⟩ | ⟨a, F1, mv, kf, x0, c⟩)
  · exact Or.inl a
  · rcases c with ⟨nl, L, j, hA, e, e18, hk, hs, f⟩ | ⟨v, e, hh, hs, e44, nl, L, c, j, hA, hc, e18, ev⟩
    · exact Or.inr ⟨nl, L, 0, j, hA, fun _ => f, fun q => absurd rfl q⟩
    · exact Or.inr ⟨nl, L, c, j, hA, fun q => absurd q hc, fun _ k => (e44 k).trans ((mv.1.2 44 (by have := h.c; omega) (by unfold MVP; omega)).1 k)⟩
theorem e_logF {F : FW} {D : DD} {tn : Nat} {l : Int32} (h : XR F D) (k : DOK D) (h2 : F.1 69 2 = Int32.ofNat tn) (htn : tn ≤ 940) : Pm Z_X11_log [.ref 69, .int l] F (fun r F' => (¬ (l = 0 ∨ l = 1)) ∨ ∃ nl L c j, LGA (tok (RBF F tn) tn 400) (dN D) (t_g (dT D)) (t_m (dT D)) nl L c j ∧ (c = 0 → LGF F' (jc (dT D) L (dS D) (m_fst (jP (dT D) L (dS D)) nl)) (jn nl (m_fst (jP (dT D) L (dS D)) nl)) (dS D) (jr (dT D) L (dS D) (jn nl (m_fst (jP (dT D) L (dS D)) nl)))) ∧ (¬ c = 0 → (∀ k, F'.1 81 k = F.1 81 k) ∧ F'.1 69 32 = F.1 69 32)) := by
  refine (q_log (l := l) h.G h.T k.1 k.2.1 h.s h.h h.n.1 h.n.2 h.w h2 htn).imp ?_
  rintro r F' (⟨a, e, rfl⟩ | ⟨a, F1, tk, z2, c⟩)
  · exact Or.inl a
  · rcases c with ⟨nl, L, j, F2, hA, -, hz, z15, e, lx, xs, hk, f⟩ | ⟨v, e, nl, L, c, j, hA, hc, hz, e15, ev⟩
    · exact Or.inr ⟨nl, L, 0, j, hA, fun _ => f, fun q => absurd rfl q⟩
    · exact Or.inr ⟨nl, L, c, j, hA, fun q => absurd q hc, fun _ => ⟨fun i => (hz.1.1 81 i (by decide)).trans (tk.1.1 81 i (by decide)), (hz.2.1 32 (by decide) (by decide) (by decide) (by decide) (by decide) (by decide) (by decide) (by decide) (by decide)).trans (tk.2.1 32 (by decide) (by decide) (by decide) (by decide) (by decide) (by decide) (by decide) (by decide) (by decide) (by decide) (by decide))⟩⟩
theorem lw_logF {W1 W2 : List (Nat × Nat × Nat)} {t t1 t2 : Nat → Nat} {hp hp1 hp2 : ab_H} {r1 r2 : Option Value} {D : DD} {tn : Nat} {l : Int32} {f : Nat → Int32} (H : sf_h t hp) (H1 : sf_h t1 hp1) (hce : sf_cE kq_X8_moveInto_v Z_X8_moveInto ke_X8_moveInto_v) (hD : DOK D) (hC : CR (fl hp) D) (hX1 : XR (fl hp1) D) (htn : tn ≤ 940) (hn : sf_rd hp 1 1 = some (tn : Int)) (hm : sf_rd hp1 69 2 = some (tn : Int)) (hb : bv hp1 70 tn = bv hp 2 tn) (hl : l = 0 ∨ l = 1) (hq : LGQ f (fl hp))
    (y1 : sf_fr W1 t hp t1 hp1) (u1 : sf_inW W1 11 32 = false) (u2 : W1.all (fun w => decide (w.1 ≠ 142)) = true) (y2 : sf_fr W2 t1 hp1 t2 hp2) (u3 : W2.all (fun w => decide (w.1 ≠ 130)) = true) (x1 : sf_eqn Z_X10_log [.ref 0, .int l] hp r1 hp1) (x2 : sf_eqn Z_X11_log [.ref 69, .int l] hp1 r2 hp2) : ∃ f, LGQ f (fl hp2) := by
  have c1 := (d_logF (l := l) H hce hn hC _ x1).2
  have c2 := pE H1 (e_logF (l := l) hX1 hD (nat_rd hm htn) htn) x2
  have e44 : ∀ k, (fl hp2).1 44 k = (fl hp1).1 44 k := fun k => ga_fr H1 y2 (g := 130) rfl u3
  have e81 : ∀ k, (fl hp1).1 81 k = (fl hp).1 81 k := fun k => ga_fr H y1 (g := 142) rfl u2
  have e32 : (fl hp1).1 69 32 = (fl hp).1 69 32 := gi_fr H y1 (g := 11) rfl (by decide) rfl u1
  rcases c1 with c1 | ⟨nl, L, c, j, g1, p1, n1⟩
  · exact absurd hl c1
  rcases c2 with c2 | ⟨nl', L', c', j', g2, p2, n2⟩
  · exact absurd hl c2
  rw [RBF_bv H1 htn, hb] at g2
  obtain ⟨e1, e2, e3, e4⟩ := LGA_one g1 g2
  rw [← e1, ← e2, ← e3] at p2
  rw [← e3] at n2
  by_cases z : c = 0
  · obtain ⟨a0, a1, a2, a3⟩ := p1 z
    obtain ⟨b0, b1, b2, b3, b4⟩ := p2 z
    refine ⟨(fl hp2).1 81, fun k hk => ?_, Or.inl ⟨b4, fun k hk => rfl⟩⟩
    rw [e44]
    match k, hk with
    | 0, _ => exact a0.trans b0.symm
    | 1, _ => exact a1.trans b1.symm
    | 2, _ => exact a2.trans b2.symm
    | 3, _ => exact a3.trans b3.symm
    | k + 4, h => exact absurd h (by omega)
  · have a := n1 z
    obtain ⟨b1, b2⟩ := n2 z
    refine ⟨f, fun k hk => ((e44 k).trans (a k)).trans (hq.1 k hk), ?_⟩
    rcases hq.2 with ⟨q1, q2⟩ | ⟨q1, q2⟩
    · exact Or.inl ⟨(b2.trans e32).trans q1, fun k hk => ((b1 k).trans (e81 k)).trans (q2 k hk)⟩
    · exact Or.inr ⟨(b2.trans e32).trans q1, q2⟩
theorem lg_01 {l : Int32} (h : 0 ≤ l.toInt ∧ l.toInt ≤ 1) : l = 0 ∨ l = 1 := by
  rcases (show l.toInt = 0 ∨ l.toInt = 1 by omega) with e | e
  · exact Or.inl (Int32.toInt_inj.mp (e.trans (by decide)))
  · exact Or.inr (Int32.toInt_inj.mp (e.trans (by decide)))
