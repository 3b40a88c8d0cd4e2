/-! ===== one operation on both sides: what the law wants ===== -/
def sf_eqn (X : List Value → ab_H → Option ab_O) (as : List Value) (hp : ab_H) (r : Option Value) (hp' : ab_H) : Prop := X as hp = some (r, hp')
theorem sf_cX {K : sf_Q} {X : List Value → ab_H → Option ab_O} (h : sf_ct K X) : sf_cE K X (sf_eqn X) := fun t hp as a1 a2 a3 a4 => by
  obtain ⟨r, hp', t', h1, h2, h3, h4, h5⟩ := h t hp as a1 a2 a3 a4
  exact ⟨r, hp', t', h1, h2, h3, h4, h5, h1⟩
theorem sf_cXE {K : sf_Q} {X : List Value → ab_H → Option ab_O} {E : List Value → ab_H → Option Value → ab_H → Prop} (h : sf_cE K X E) : sf_cE K X (fun as hp r hp' => E as hp r hp' ∧ sf_eqn X as hp r hp') := fun t hp as a1 a2 a3 a4 => by
  obtain ⟨r, hp', t', h1, h2, h3, h4, h5, h6⟩ := h t hp as a1 a2 a3 a4
  exact ⟨r, hp', t', h1, h2, h3, h4, h5, h6, h1⟩
theorem sf_cXG {K : sf_Q} {X : List Value → ab_H → Option ab_O} {G : ab_H → Prop} {E : List Value → ab_H → Option Value → ab_H → Prop} (h : sf_cG K X G E) : sf_cG K X G (fun as hp r hp' => E as hp r hp' ∧ sf_eqn X as hp r hp') := fun t hp as a1 a2 a3 a4 g => by
  obtain ⟨r, hp', t', h1, h2, h3, h4, h5, h6⟩ := h t hp as a1 a2 a3 a4 g
  exact ⟨r, hp', t', h1, h2, h3, h4, h5, h6, h1⟩
section PCX
variable {Z : List Value → ab_H → Option ab_O} {as : List Value} {t : Nat → Nat} {hp hp' : ab_H} {r : Option Value} {D D' : DD} {A : Option Value → Prop}
theorem pC (H : sf_h t hp) (p : Pm Z as (fl hp) (fun r F' => A r ∧ CR F' D' ∧ KX (fl hp) F')) (e : sf_eqn Z as hp r hp') (hX : XR (fl hp) D) : A r ∧ CR (fl hp') D' ∧ XR (fl hp') D := by
  obtain ⟨-, q1, q2, q3⟩ := p hp _ (wt_of H) rfl e
  exact ⟨q1, q2, q3 _ hX⟩
theorem pX (H : sf_h t hp) (p : Pm Z as (fl hp) (fun r F' => A r ∧ XR F' D' ∧ KC (fl hp) F')) (e : sf_eqn Z as hp r hp') (hC : CR (fl hp) D) : A r ∧ XR (fl hp') D' ∧ CR (fl hp') D := by
  obtain ⟨-, q1, q2, q3⟩ := p hp _ (wt_of H) rfl e
  exact ⟨q1, q2, q3 _ hC⟩
end PCX
/-- the element of an array of numbers that stands alone, read -/
theorem el_rd {t : Nat → Nat} {hp : ab_H} {g p k n : Nat} (H : sf_h t hp) (hP : sf_P g = some p) (hg : 100 ≤ g) (h1 : (sf_A g).1 < 4) (h2 : (sf_A g).1 ≠ 2) (hn : (sf_A g).2.1 = n) (hk : k < n) : sf_rd hp p k = some ((fl hp).1 p k).toInt := by
  obtain ⟨a1, a2⟩ := H.2.2.1 g p hP
  have c := H.1 p a1
  rw [a2] at c
  unfold sf_c at c
  have q : ∃ v : Int, sf_rd hp p k = some v := by
    unfold sf_rd
    split at c
    · exact absurd c.2.1 (by omega)
    · rename_i x hx
      obtain ⟨-, c1, c2, c3⟩ := c
      split at c3
      · rename_i y hy
        first | rw [hy] | (rw [hx]; dsimp only; rw [hy])
        dsimp only
        rw [decide_eq_true (show k < x.2.1 by omega)]
        exact ⟨_, rfl⟩
      · exact absurd (c1.symm.trans c3) h2
      · exact absurd c3.1 (by omega)
      · exact absurd c3 id
  obtain ⟨v, hv⟩ := q
  rw [gi_rd hv, hv]
theorem RBF_bv {t : Nat → Nat} {hp : ab_H} {n : Nat} (H : sf_h t hp) (hn : n ≤ 940) : RBF (fl hp) n = bv hp 70 n := funext fun q => by
  unfold RBF bv
  by_cases c : q < n
  · rw [if_pos c, if_pos c, el_rd H (g := 131) (n := 940) rfl (by decide) (by decide) (by decide) rfl (by omega)]
    unfold bI
    exact n_and255 _
  · rw [if_neg c, if_neg c]
theorem nat_rd {hp : ab_H} {a k tn : Nat} (h : sf_rd hp a k = some (tn : Int)) (hn : tn ≤ 940) : (fl hp).1 a k = Int32.ofNat tn := Int32.toInt_inj.mp ((gi_rd h).trans (i_toInt (by omega)).symm)
section LWS
variable {t t1 t2 : Nat → Nat} {hp hp1 hp2 : ab_H} {r1 r2 : Option Value} {D : DD} {tn : Nat}
/-- a Strait on both sides -/
theorem lw_strait (H : sf_h t hp) (H1 : sf_h t1 hp1) (hce : sf_cE kq_X8_moveInto_v Z_X8_moveInto ke_X8_moveInto_v) (hD : DOK D) (hC : CR (fl hp) D) (hX : XR (fl hp) D) (htn : tn ≤ 940) (hn : sf_rd hp 1 1 = some (tn : Int)) (hm : sf_rd hp1 69 2 = some (tn : Int)) (hb : bv hp1 70 tn = bv hp 2 tn) (x1 : sf_eqn Z_X10_strait [.ref 0] hp r1 hp1) (x2 : sf_eqn Z_X11_strait [.ref 69] hp1 r2 hp2) : (∃ D', DOK D' ∧ CR (fl hp2) D' ∧ XR (fl hp2) D') ∧ ((fl hp1).1 0 18).toInt = ((fl hp2).1 69 15).toInt := by
  obtain ⟨-, l, i, s, a, f, l1, s1, -, f1, hC1, kx⟩ := d_strait H hce hn hC _ x1
  have hX1 := kx _ hX
  obtain ⟨-, l', i', s', a', f', l2, s2, -, f2, hX2, kc⟩ := e_strait hX1 (nat_rd hm htn) htn hp1 _ (wt_of H1) rfl x2
  rw [RBF_bv H1 htn, hb] at l2 s2
  obtain ⟨-, es, ex⟩ := stp_one l1 s1 l2 s2
  have ef : f = f' := congrArg Prod.snd ex
  rw [← es, ← ef] at hX2
  exact ⟨⟨_, hD.st l1, kc _ hC1, hX2⟩, f1.trans (ef.trans f2.symm)⟩
/-- a Log on both sides -/
theorem lw_log {l : Int32} (H : sf_h t hp) (H1 : sf_h t1 hp1) (hce : sf_cE kq_X8_moveInto_v Z_X8_moveInto ke_X8_moveInto_v) (hD : DOK D) (hC : CR (fl hp) D) (hX : XR (fl hp) D) (htn : tn ≤ 940) (hn : sf_rd hp 1 1 = some (tn : Int)) (hm : sf_rd hp1 69 2 = some (tn : Int)) (hb : bv hp1 70 tn = bv hp 2 tn) (x1 : sf_eqn Z_X10_log [.ref 0, .int l] hp r1 hp1) (x2 : sf_eqn Z_X11_log [.ref 69, .int l] hp1 r2 hp2) : (∃ D', DOK D' ∧ CR (fl hp2) D' ∧ XR (fl hp2) D') ∧ r1 = r2 ∧ ((l = 0 ∨ l = 1) → (fl hp1).1 0 18 = (fl hp2).1 69 15) := by
  obtain ⟨-, kx, c1⟩ := d_log (l := l) H hce hn hC _ x1
  have hX1 := kx _ hX
  obtain ⟨-, kc, c2⟩ := e_log (l := l) hX1 hD (nat_rd hm htn) htn hp1 _ (wt_of H1) rfl x2
  rcases c1 with ⟨a1, e1, hC1⟩ | ⟨a1, nl, L, c, j, g1, b1, f1, hC1⟩
  · rcases c2 with ⟨a2, e2, hX2⟩ | ⟨a2, -⟩
    · exact ⟨⟨D, hD, kc _ hC1, hX2⟩, e1.trans e2.symm, fun q => absurd q a1⟩
    · exact absurd a2 a1
  · rcases c2 with ⟨a2, -⟩ | ⟨a2, nl', L', c', j', g2, b2, f2, hX2⟩
    · exact absurd a1 a2
    · rw [RBF_bv H1 htn, hb] at g2 b2
      obtain ⟨e1, e2, e3, e4⟩ := LGA_one g1 g2
      rw [← e1, ← e2, ← e3] at hX2
      rw [← e1, ← e2, ← e3, ← e4] at b2
      refine ⟨⟨_, hD.lg hX.T.gb g1, kc _ hC1, hX2⟩, ?_, fun _ => f1.trans (e3.trans f2.symm)⟩
      by_cases z : c = 0
      · exact (b1.1 z).trans (b2.1 z).symm
      · obtain ⟨v, q1, q2⟩ := b1.2 z
        obtain ⟨v', q3, q4⟩ := b2.2 z
        have q5 : v = v' := Int32.toInt_inj.mp (q2.trans q4.symm)
        rw [← q5] at q3
        exact Eq.trans q1 (Eq.symm q3)
end LWS
theorem DOK.imo {D : DD} {o : Option Nat} (h : DOK D) : DOK (dImo D o) := by
  cases o with
  | none => exact h
  | some k => exact h.im
theorem DOK.rso {D : DD} {o : Option Nat} (h : DOK D) : DOK (dRso D o) := by
  cases o with
  | none => exact h
  | some k => exact h.rs
