theorem l_man {F : FW} {t : Nat} {T : St} {S : Sh} (hG : GW F) (ht : F.2.1 0 13 = .ref t) (hT : TR F t T) (hS : SHR F 12 (t_m T) S) (j0 : t = 45 ∨ t = 53) (x w : Int32) : Pm Z_L_man [.ref 0, .int x, .int w, .ref 87] F (fun r F' => (a_man T S x w = none ∧ r = some (.int 1)) ∨ ∃ v, a_man T S x w = some v ∧ r = some (.int 0) ∧ F'.2.2.1 87 0 = v.toInt64) := by
  refine Pm.of fun N => ?_
  obtain ⟨Q, hQ⟩ : ∃ Q : Option Value → FW → Prop, Q = (fun r F' => (a_man T S x w = none ∧ r = some (.int 1)) ∨ ∃ v, a_man T S x w = some v ∧ r = some (.int 0) ∧ F'.2.2.1 87 0 = v.toInt64) := ⟨_, rfl⟩
  rw [← hQ]
  refine (show Pv (ab_T (L_L_man Z_X10_man)) N 0 [some (.ref 0), some (.int x), some (.int w), some (.ref 87), none] [] F Q from ?_)
  refine Pv.aload rfl rfl ?_
  refine Pv.lit rfl ?_
  refine Pv.aload rfl rfl ?_
  refine Pv.iload rfl rfl ?_
  refine Pv.iload rfl rfl ?_
  refine Pv.callX (as := [.ref 0, .int x, .int w]) (rest := [.int 0, .ref 87]) rfl rfl rfl (o_man hG ht hT hS j0 x w) (fun r F' hr q => ?_) (fun F' G q => ?_)
  · obtain ⟨e, rfl⟩ := q
    cases ea : a_man T S x w with
    | none =>
      rw [ea] at e
      exact absurd e hr
    | some v =>
      rw [ea] at e
      rw [e]
      refine (show Pv (ab_T (L_L_man Z_X10_man)) N 8 [some (.ref 0), some (.int x), some (.int w), some (.ref 87), none] [.int v, .int 0, .ref 87] F' Q from ?_)
      refine Pv.i2l (z := v.toInt64) rfl rfl ?_
      refine Pv.last rfl ?_
      refine Pv.goto rfl ?_
      refine Pv.lit rfl ?_
      exact Pv.ret rfl (by rw [hQ]; exact Or.inr ⟨v, ea, rfl, (show (if (87 : Nat) = 87 ∧ 0 = Int32.toNatClampNeg 0 then v.toInt64 else F'.2.2.1 87 0) = v.toInt64 from if_pos ⟨rfl, by decide⟩)⟩)
  · have e := q.1
    cases ea : a_man T S x w with
    | none =>
      refine Pv.lit rfl ?_
      exact Pv.ret rfl (by rw [hQ]; exact Or.inl ⟨ea, rfl⟩)
    | some v =>
      rw [ea] at e
      cases e
theorem gl_cl {hp hp' : ab_H} {a k : Nat} (e : hp'.2 a = hp.2 a) : (fl hp').2.2.1 a k = (fl hp).2.2.1 a k := by
  show gl hp' a k = gl hp a k
  unfold gl
  rw [e]
/-- man on both sides: thrown alike, answered alike -/
theorem lw_man {W : List (Nat × Nat × Nat)} {t t1 t2 : Nat → Nat} {hp hp1 hp2 : ab_H} {r1 r2 : Option Value} {D : DD} {x w : Int32} (H : sf_h t hp) (H1 : sf_h t1 hp1) (hC : CR (fl hp) D) (hX1 : XR (fl hp1) D) (y2 : sf_fr W t1 hp1 t2 hp2) (u : W.all (fun w => decide (w.1 ≠ 148)) = true) (x1 : sf_eqn Z_L_man [.ref 0, .int x, .int w, .ref 87] hp r1 hp1) (x2 : sf_eqn Z_X11_man [.ref 69, .int x, .int w] hp1 r2 hp2) : (r1 = some (.int 1) ∧ (fl hp2).1 69 0 = 1) ∨ ∃ v : Int32, r1 = some (.int 0) ∧ (fl hp2).1 69 0 = 0 ∧ r2 = some (.int v) ∧ (fl hp2).2.2.1 87 0 = v.toInt64 := by
  obtain ⟨t0, ht, hT, j0, -⟩ := hC.t
  have a := pE H (l_man hC.G ht hT hC.s j0 x w) x1
  obtain ⟨b1, b2⟩ := pE H1 (q_man hX1.T hX1.s hX1.G x w) x2
  obtain ⟨p1, p2⟩ := H1.2.2.1 148 87 rfl
  have e := y2.2.2.2.1 87 p1 (by rw [p2]; exact u)
  have c : (fl hp2).1 69 0 = oT (a_man (dT D) (dS D) x w) := by
    rw [b2]
    exact fp_eq
  rcases a with ⟨a1, a2⟩ | ⟨v, a1, a2, a3⟩
  · exact Or.inl ⟨a2, by rw [c, a1]; rfl⟩
  · exact Or.inr ⟨v, a2, by rw [c, a1]; rfl, by rw [b1, a1]; rfl, (gl_cl e).trans a3⟩
