/-- which leaf a word is -/
def zlf (k : Int) : Int32 := if 80 ≤ k ∧ k ≤ 88 then Int32.ofNat (k.toNat - 80) else -1
theorem r_leafOf {F : FW} {X : TT} (hN : NTF F X) (hW : WOK X) : Pm Z_X11_leafOf [.ref 69] F (fun r F' => r = some (.int (zlf X.k)) ∧ F' = F) := by
  refine Pm.of fun N => ?_
  obtain ⟨Q, hQ⟩ : ∃ Q : Option Value → FW → Prop, Q = (fun r F' => r = some (.int (zlf X.k)) ∧ F' = F) := ⟨_, rfl⟩
  rw [← hQ]
  refine (show Pv (ab_T (L_X11_leafOf Z_X11_isWord)) N 0 [some (.ref 69)] [] F Q from ?_)
  refine Pv.aload rfl rfl ?_
  refine Pv.lit rfl ?_
  refine Pv.callVI (as := [.ref 69, .long 119165535610212]) (rest := []) (z := b2i (decide (X.k = 64 + ((16 : Nat) : Int)))) rfl rfl rfl (r_isWord (j := 16) hN hW (by decide) (by decide +kernel)) ?_
  by_cases c0 : X.k = 64 + ((16 : Nat) : Int)
  · rw [decide_eq_true c0]
    refine Pv.if0 rfl (fun c => absurd c (by decide)) (fun _ => ?_)
    refine Pv.lit rfl ?_
    refine Pv.goto rfl ?_
    have e : zlf X.k = 0 := by
      unfold zlf
      rw [if_pos (by omega), show X.k.toNat - 80 = 0 by omega]
      rfl
    exact Pv.ret rfl (by rw [hQ, e]; exact ⟨rfl, rfl⟩)
  rw [decide_eq_false c0]
  refine Pv.if0 rfl (fun _ => ?_) (fun c => absurd c (by decide))
  refine Pv.aload rfl rfl ?_
  refine Pv.lit rfl ?_
  refine Pv.callVI (as := [.ref 69, .long 29395861899601252]) (rest := []) (z := b2i (decide (X.k = 64 + ((17 : Nat) : Int)))) rfl rfl rfl (r_isWord (j := 17) hN hW (by decide) (by decide +kernel)) ?_
  by_cases c1 : X.k = 64 + ((17 : Nat) : Int)
  · rw [decide_eq_true c1]
    refine Pv.if0 rfl (fun c => absurd c (by decide)) (fun _ => ?_)
    refine Pv.lit rfl ?_
    refine Pv.goto rfl ?_
    have e : zlf X.k = 1 := by
      unfold zlf
      rw [if_pos (by omega), show X.k.toNat - 80 = 1 by omega]
      rfl
    exact Pv.ret rfl (by rw [hQ, e]; exact ⟨rfl, rfl⟩)
  rw [decide_eq_false c1]
  refine Pv.if0 rfl (fun _ => ?_) (fun c => absurd c (by decide))
  refine Pv.aload rfl rfl ?_
  refine Pv.lit rfl ?_
  refine Pv.callVI (as := [.ref 69, .long 1835099237]) (rest := []) (z := b2i (decide (X.k = 64 + ((18 : Nat) : Int)))) rfl rfl rfl (r_isWord (j := 18) hN hW (by decide) (by decide +kernel)) ?_
  by_cases c2 : X.k = 64 + ((18 : Nat) : Int)
  · rw [decide_eq_true c2]
    refine Pv.if0 rfl (fun c => absurd c (by decide)) (fun _ => ?_)
    refine Pv.lit rfl ?_
    refine Pv.goto rfl ?_
    have e : zlf X.k = 2 := by
      unfold zlf
      rw [if_pos (by omega), show X.k.toNat - 80 = 2 by omega]
      rfl
    exact Pv.ret rfl (by rw [hQ, e]; exact ⟨rfl, rfl⟩)
  rw [decide_eq_false c2]
  refine Pv.if0 rfl (fun _ => ?_) (fun c => absurd c (by decide))
  refine Pv.aload rfl rfl ?_
  refine Pv.lit rfl ?_
  refine Pv.callVI (as := [.ref 69, .long 435426714990]) (rest := []) (z := b2i (decide (X.k = 64 + ((19 : Nat) : Int)))) rfl rfl rfl (r_isWord (j := 19) hN hW (by decide) (by decide +kernel)) ?_
  by_cases c3 : X.k = 64 + ((19 : Nat) : Int)
  · rw [decide_eq_true c3]
    refine Pv.if0 rfl (fun c => absurd c (by decide)) (fun _ => ?_)
    refine Pv.lit rfl ?_
    refine Pv.goto rfl ?_
    have e : zlf X.k = 3 := by
      unfold zlf
      rw [if_pos (by omega), show X.k.toNat - 80 = 3 by omega]
      rfl
    exact Pv.ret rfl (by rw [hQ, e]; exact ⟨rfl, rfl⟩)
  rw [decide_eq_false c3]
  refine Pv.if0 rfl (fun _ => ?_) (fun c => absurd c (by decide))
  refine Pv.aload rfl rfl ?_
  refine Pv.lit rfl ?_
  refine Pv.callVI (as := [.ref 69, .long 439721161573]) (rest := []) (z := b2i (decide (X.k = 64 + ((20 : Nat) : Int)))) rfl rfl rfl (r_isWord (j := 20) hN hW (by decide) (by decide +kernel)) ?_
  by_cases c4 : X.k = 64 + ((20 : Nat) : Int)
  · rw [decide_eq_true c4]
    refine Pv.if0 rfl (fun c => absurd c (by decide)) (fun _ => ?_)
    refine Pv.lit rfl ?_
    refine Pv.goto rfl ?_
    have e : zlf X.k = 4 := by
      unfold zlf
      rw [if_pos (by omega), show X.k.toNat - 80 = 4 by omega]
      rfl
    exact Pv.ret rfl (by rw [hQ, e]; exact ⟨rfl, rfl⟩)
  rw [decide_eq_false c4]
  refine Pv.if0 rfl (fun _ => ?_) (fun c => absurd c (by decide))
  refine Pv.aload rfl rfl ?_
  refine Pv.lit rfl ?_
  refine Pv.callVI (as := [.ref 69, .long 1852137842]) (rest := []) (z := b2i (decide (X.k = 64 + ((21 : Nat) : Int)))) rfl rfl rfl (r_isWord (j := 21) hN hW (by decide) (by decide +kernel)) ?_
  by_cases c5 : X.k = 64 + ((21 : Nat) : Int)
  · rw [decide_eq_true c5]
    refine Pv.if0 rfl (fun c => absurd c (by decide)) (fun _ => ?_)
    refine Pv.lit rfl ?_
    refine Pv.goto rfl ?_
    have e : zlf X.k = 5 := by
      unfold zlf
      rw [if_pos (by omega), show X.k.toNat - 80 = 5 by omega]
      rfl
    exact Pv.ret rfl (by rw [hQ, e]; exact ⟨rfl, rfl⟩)
  rw [decide_eq_false c5]
  refine Pv.if0 rfl (fun _ => ?_) (fun c => absurd c (by decide))
  refine Pv.aload rfl rfl ?_
  refine Pv.lit rfl ?_
  refine Pv.callVI (as := [.ref 69, .long 6709618]) (rest := []) (z := b2i (decide (X.k = 64 + ((22 : Nat) : Int)))) rfl rfl rfl (r_isWord (j := 22) hN hW (by decide) (by decide +kernel)) ?_
  by_cases c6 : X.k = 64 + ((22 : Nat) : Int)
  · rw [decide_eq_true c6]
    refine Pv.if0 rfl (fun c => absurd c (by decide)) (fun _ => ?_)
    refine Pv.lit rfl ?_
    refine Pv.goto rfl ?_
    have e : zlf X.k = 6 := by
      unfold zlf
      rw [if_pos (by omega), show X.k.toNat - 80 = 6 by omega]
      rfl
    exact Pv.ret rfl (by rw [hQ, e]; exact ⟨rfl, rfl⟩)
  rw [decide_eq_false c6]
  refine Pv.if0 rfl (fun _ => ?_) (fun c => absurd c (by decide))
  refine Pv.aload rfl rfl ?_
  refine Pv.lit rfl ?_
  refine Pv.callVI (as := [.ref 69, .long 27991845698233700]) (rest := []) (z := b2i (decide (X.k = 64 + ((23 : Nat) : Int)))) rfl rfl rfl (r_isWord (j := 23) hN hW (by decide) (by decide +kernel)) ?_
  by_cases c7 : X.k = 64 + ((23 : Nat) : Int)
  · rw [decide_eq_true c7]
    refine Pv.if0 rfl (fun c => absurd c (by decide)) (fun _ => ?_)
    refine Pv.lit rfl ?_
    refine Pv.goto rfl ?_
    have e : zlf X.k = 7 := by
      unfold zlf
      rw [if_pos (by omega), show X.k.toNat - 80 = 7 by omega]
      rfl
    exact Pv.ret rfl (by rw [hQ, e]; exact ⟨rfl, rfl⟩)
  rw [decide_eq_false c7]
  refine Pv.if0 rfl (fun _ => ?_) (fun c => absurd c (by decide))
  refine Pv.aload rfl rfl ?_
  refine Pv.lit rfl ?_
  refine Pv.callVI (as := [.ref 69, .long 121450625394034]) (rest := []) (z := b2i (decide (X.k = 64 + ((24 : Nat) : Int)))) rfl rfl rfl (r_isWord (j := 24) hN hW (by decide) (by decide +kernel)) ?_
  by_cases c8 : X.k = 64 + ((24 : Nat) : Int)
  · rw [decide_eq_true c8]
    refine Pv.if0 rfl (fun c => absurd c (by decide)) (fun _ => ?_)
    refine Pv.lit rfl ?_
    refine Pv.goto rfl ?_
    have e : zlf X.k = 8 := by
      unfold zlf
      rw [if_pos (by omega), show X.k.toNat - 80 = 8 by omega]
      rfl
    exact Pv.ret rfl (by rw [hQ, e]; exact ⟨rfl, rfl⟩)
  rw [decide_eq_false c8]
  refine Pv.if0 rfl (fun _ => ?_) (fun c => absurd c (by decide))
  refine Pv.lit rfl ?_
  have e : zlf X.k = -1 := if_neg (by omega)
  exact Pv.ret rfl (by rw [hQ, e]; exact ⟨rfl, rfl⟩)
/-- the reference stands at M -/
def ZX (F : FW) (B : Nat → Int) (n : Nat) (M : ZM) : Prop := GW F ∧ RTK F B n 200 M.1 ∧ F.1 69 35 = Int32.ofNat M.2.1 ∧ XC F M.2.2.1 ∧ XK F M.2.2.2.1 ∧ F.1 69 38 = cond M.2.2.2.2 1 0 ∧ F.1 69 15 = 0
def ZXQ (B : Nat → Int) (n : Nat) (F' : FW) (r : Option Value) (x : ZM ⊕ ZR) : Prop := match x with
  | .inl M => r = some (.int 1) ∧ ZX F' B n M
  | .inr (.inl _) => False
  | .inr (.inr e) => r = some (.int 0) ∧ F'.1 69 15 = e.1 ∧ (F'.1 69 16).toInt = (tok B n 200 e.2).pl
section ZXS
variable {F G : FW} {B : Nat → Int} {n i o : Nat} {cs : List ZO} {st : List Nat} {wh : Bool}
theorem ZX.nx (h : ZX F B n (i, o, cs, st, wh)) (x : RNX F G) (t : RTK G B n 200 (i + 1)) : ZX G B n (i + 1, o, cs, st, wh) := by
  have e : ∀ k, k ≠ 4 → k ≠ 11 → k ≠ 12 → k ≠ 13 → k ≠ 14 → G.1 69 k = F.1 69 k := x.2.1
  exact ⟨x.G h.1, t, (e 35 (by decide) (by decide) (by decide) (by decide) (by decide)).trans h.2.2.1, h.2.2.2.1.of (e 34 (by decide) (by decide) (by decide) (by decide) (by decide)) (fun k => x.1.1 73 k (by decide)), h.2.2.2.2.1.of (e 36 (by decide) (by decide) (by decide) (by decide) (by decide)) (e 37 (by decide) (by decide) (by decide) (by decide) (by decide)) (fun k => x.1.1 82 k (by decide)), (e 38 (by decide) (by decide) (by decide) (by decide) (by decide)).trans h.2.2.2.2.2.1, (e 15 (by decide) (by decide) (by decide) (by decide) (by decide)).trans h.2.2.2.2.2.2⟩
theorem ZX.lx (h : ZX F B n (i, o, cs, st, wh)) (x : RLX F G) {j : Nat} (t : RTK G B n 200 j) (e15 : G.1 69 15 = F.1 69 15) : ZX G B n (j, o, cs, st, wh) := by
  have e : ∀ k, k = 34 ∨ k = 35 ∨ k = 36 ∨ k = 37 ∨ k = 38 → G.1 69 k = F.1 69 k := fun k c => x.2.1 k (by omega) (by omega) (by omega) (by omega) (by omega) (by omega) (by omega) (by omega)
  exact ⟨x.G h.1, t, (e 35 (by omega)).trans h.2.2.1, h.2.2.2.1.of (e 34 (by omega)) (fun k => x.1.1 73 k (by decide)), h.2.2.2.2.1.of (e 36 (by omega)) (e 37 (by omega)) (fun k => x.1.1 82 k (by decide)), (e 38 (by omega)).trans h.2.2.2.2.2.1, e15.trans h.2.2.2.2.2.2⟩
theorem ZX.zf (h : ZX F B n (i, o, cs, st, wh)) (x : ZF1 F G) {cs2 : List ZO} {st2 : List Nat} (c : XC G cs2) (k : XK G st2) : ZX G B n (i, o, cs2, st2, wh) :=
  ⟨x.G h.1, h.2.1.zf x, (x.2.1 35 (by decide) (by decide) (by decide)).trans h.2.2.1, c, k, (x.2.1 38 (by decide) (by decide) (by decide)).trans h.2.2.2.2.2.1, (x.2.1 15 (by decide) (by decide) (by decide)).trans h.2.2.2.2.2.2⟩
/-- whether an operand stands, told anew -/
theorem RTK.p38 {v : Int32} (t : RTK F B n 200 i) {k : Nat} (c : k = 35 ∨ k = 38) : RTK (fp F 69 k v) B n 200 i := by
  have e : ∀ j, j ≠ 35 → j ≠ 38 → (fp F 69 k v).1 69 j = F.1 69 j := fun j h1 h2 => fp_ne (Or.inr (by omega))
  refine ⟨(e 3 (by decide) (by decide)).trans t.1, (e 5 (by decide) (by decide)).trans t.2.1, (RBF_same fun k => fp_ne (Or.inl (by decide))).trans t.2.2.1, ?_, t.2.2.2.2⟩
  unfold NTF
  rw [e 12 (by decide) (by decide), e 4 (by decide) (by decide), e 11 (by decide) (by decide), e 14 (by decide) (by decide)]
  exact t.2.2.2.1
theorem ZX.p38 (h : ZX F B n (i, o, cs, st, wh)) (b : Bool) : ZX (fp F 69 38 (cond b 1 0)) B n (i, o, cs, st, b) :=
  ⟨h.1.fx (FX.fp (P := fun q => q = 69) FX.rf rfl), h.2.1.p38 (Or.inr rfl), (fp_ne (Or.inr (by decide))).trans h.2.2.1, h.2.2.2.1.of (fp_ne (Or.inr (by decide))) (fun k => fp_ne (Or.inl (by decide))), h.2.2.2.2.1.of (fp_ne (Or.inr (by decide))) (fp_ne (Or.inr (by decide))) (fun k => fp_ne (Or.inl (by decide))), fp_eq, (fp_ne (Or.inr (by decide))).trans h.2.2.2.2.2.2⟩
theorem ZX.p35 (h : ZX F B n (i, o, cs, st, wh)) (o2 : Nat) : ZX (fp F 69 35 (Int32.ofNat o2)) B n (i, o2, cs, st, wh) :=
  ⟨h.1.fx (FX.fp (P := fun q => q = 69) FX.rf rfl), h.2.1.p38 (Or.inl rfl), fp_eq, h.2.2.2.1.of (fp_ne (Or.inr (by decide))) (fun k => fp_ne (Or.inl (by decide))), h.2.2.2.2.1.of (fp_ne (Or.inr (by decide))) (fp_ne (Or.inr (by decide))) (fun k => fp_ne (Or.inl (by decide))), (fp_ne (Or.inr (by decide))).trans h.2.2.2.2.2.1, (fp_ne (Or.inr (by decide))).trans h.2.2.2.2.2.2⟩
theorem x_bad {c : Int32} {F' : FW} (t : RTK F B n 200 i) (e : F' = fp (fp F 69 15 c) 69 16 (F.1 69 12)) : ZXQ B n F' (some (.int 0)) (.inr (zn c i)) := by
  subst e
  exact ⟨rfl, (fp_ne (Or.inr (by decide))).trans fp_eq, (congrArg Int32.toInt fp_eq).trans t.2.2.2.1.1⟩
/-- codes written -/
theorem ZX.cd (h : ZX F B n (i, o, cs, st, wh)) (x : ZO) : ZX (fp (fp (fp (fp F 73 (3 * cs.length) (zc3 x).1) 73 (3 * cs.length + 1) (zc3 x).2.1) 73 (3 * cs.length + 2) (zc3 x).2.2) 69 34 (Int32.ofNat (cs.length + 1))) B n (i, o, cs ++ [x], st, wh) :=
  h.zf ((((ZF1.rf.c).c).c).p (Or.inl rfl)) (h.2.2.2.1.add x) (h.2.2.2.2.1.of ((fp_ne (Or.inr (by decide))).trans ((fp_ne (Or.inl (by decide))).trans ((fp_ne (Or.inl (by decide))).trans (fp_ne (Or.inl (by decide)))))) ((fp_ne (Or.inr (by decide))).trans ((fp_ne (Or.inl (by decide))).trans ((fp_ne (Or.inl (by decide))).trans (fp_ne (Or.inl (by decide)))))) (fun k => (fp_ne (Or.inl (by decide))).trans ((fp_ne (Or.inl (by decide))).trans ((fp_ne (Or.inl (by decide))).trans (fp_ne (Or.inl (by decide)))))))
/-- laid on the stack -/
theorem ZX.pu (h : ZX F B n (i, o, cs, st, wh)) (x : Nat) {d : Nat} (hd : zm_dp (x :: st) = d) : ZX (fp (fp (fp F 82 st.length (zs1 x)) 69 36 (Int32.ofNat (st.length + 1))) 69 37 (Int32.ofNat (1 + d))) B n (i, o, cs, x :: st, wh) :=
  h.zf (((ZF1.rf.s).p (Or.inr (Or.inl rfl))).p (Or.inr (Or.inr rfl))) (h.2.2.2.1.of ((fp_ne (Or.inr (by decide))).trans ((fp_ne (Or.inr (by decide))).trans (fp_ne (Or.inl (by decide))))) (fun k => (fp_ne (Or.inl (by decide))).trans ((fp_ne (Or.inl (by decide))).trans (fp_ne (Or.inl (by decide)))))) (h.2.2.2.2.1.pu ((fp_ne (Or.inr (by decide))).trans fp_eq) (fp_eq.trans (by rw [hd])) ((fp_ne (Or.inl (by decide))).trans ((fp_ne (Or.inl (by decide))).trans fp_eq)) (fun k hk => (fp_ne (Or.inl (by decide))).trans ((fp_ne (Or.inl (by decide))).trans (fp_ne (Or.inr hk)))))
/-- laid on the stack, no deeper -/
theorem ZX.pu0 (h : ZX F B n (i, o, cs, st, wh)) (x : Nat) (hx : ¬ (x = 79 ∨ x = 40)) : ZX (fp (fp F 82 st.length (zs1 x)) 69 36 (Int32.ofNat (st.length + 1))) B n (i, o, cs, x :: st, wh) :=
  h.zf ((ZF1.rf.s).p (Or.inr (Or.inl rfl))) (h.2.2.2.1.of ((fp_ne (Or.inr (by decide))).trans (fp_ne (Or.inl (by decide)))) (fun k => (fp_ne (Or.inl (by decide))).trans (fp_ne (Or.inl (by decide))))) (h.2.2.2.2.1.pu fp_eq ((fp_ne (Or.inr (by decide))).trans ((fp_ne (Or.inl (by decide))).trans (h.2.2.2.2.1.2.1.trans (by rw [zdp_0 hx])))) ((fp_ne (Or.inl (by decide))).trans fp_eq) (fun k hk => (fp_ne (Or.inl (by decide))).trans (fp_ne (Or.inr hk))))
end ZXS
theorem x_operand {F : FW} {B : Nat → Int} {n i o : Nat} {cs : List ZO} {st : List Nat} (h : ZX F B n (i, o, cs, st, false)) (ho : o ≤ 20) (hb : cs.length + st.length ≤ 50) : Pm Z_X11_operand [.ref 69] F (fun r F' => ZXQ B n F' r (zm_opd (tok B n 200) i o cs st)) := by
  refine Pm.of fun N => ?_
  obtain ⟨Q, hQ⟩ : ∃ Q : Option Value → FW → Prop, Q = (fun r F' => ZXQ B n F' r (zm_opd (tok B n 200) i o cs st)) := ⟨_, rfl⟩
  rw [← hQ]
  obtain ⟨hG, hT, h35, hC, hK, h38, h15⟩ := id h
  replace hT : RTK F B n 200 i := hT
  replace h35 : F.1 69 35 = Int32.ofNat o := h35
  replace hC : XC F cs := hC
  replace hK : XK F st := hK
  have hN := hT.2.2.2.1
  have e40 : (40 : Int32).toInt = 40 := rfl
  have dl := zdp_le st
  have p56 : z_is (tok B n 200) i → (20 ≤ o ∨ 8 ≤ zm_dp st) → Pv (ab_T (L_X11_operand Z_X11_isWord Z_X11_isSign Z_X11_leafOf Z_X11_bad Z_X11_next Z_X11_takes Z_X11_code)) N 56 [some (.ref 69), some (.int (b2i (decide ((tok B n 200 i).k = 64 + ((15 : Nat) : Int))))), some (.int (b2i (decide ((tok B n 200 i).k = (40 : Int32).toInt)))), some (.int (zlf (tok B n 200 i).k)), none] [] F Q := fun ci cm => by
    have ez : zm_opd (tok B n 200) i o cs st = .inr (zn 4 i) := (if_pos ci).trans (if_pos cm)
    refine Pv.aload rfl rfl ?_
    refine Pv.lit rfl ?_
    refine Pv.callV (as := [.ref 69, .int 4]) (rest := []) rfl rfl rfl (r_bad (c := 4) hG) (fun r2 G2 p => ?_)
    obtain ⟨rfl, e2⟩ := p
    refine (show Pv (ab_T (L_X11_operand Z_X11_isWord Z_X11_isSign Z_X11_leafOf Z_X11_bad Z_X11_next Z_X11_takes Z_X11_code)) N 61 [some (.ref 69), some (.int (b2i (decide ((tok B n 200 i).k = 64 + ((15 : Nat) : Int))))), some (.int (b2i (decide ((tok B n 200 i).k = (40 : Int32).toInt)))), some (.int (zlf (tok B n 200 i).k)), none] [.int 0] G2 Q from ?_)
    exact Pv.zret rfl (by rw [hQ, ez]; exact x_bad (i := i) hT e2)
  have p84 : ∀ (x : Nat) (v : Int32) (F3 : FW), ((x = 79 ∧ (tok B n 200 i).k = 79) ∨ (x = 40 ∧ (tok B n 200 i).k = 40)) → ZX F3 B n (i + 1, o + 1, cs, st, false) → zm_opd (tok B n 200) i o cs st = .inl (i + 1, o + 1, cs, x :: st, false) → Pv (ab_T (L_X11_operand Z_X11_isWord Z_X11_isSign Z_X11_leafOf Z_X11_bad Z_X11_next Z_X11_takes Z_X11_code)) N 84 [some (.ref 69), some (.int (b2i (decide ((tok B n 200 i).k = 64 + ((15 : Nat) : Int))))), some (.int (b2i (decide ((tok B n 200 i).k = (40 : Int32).toInt)))), some (.int (zlf (tok B n 200 i).k)), none] [] F3 Q := fun x v F3 hx h3 ez => by
    obtain ⟨g3, t3, -, -, k3, -, -⟩ := id h3
    replace k3 : XK F3 st := k3
    have dx : zm_dp (x :: st) = 1 + zm_dp st := zdp_1 (by omega)
    have e36 : ∀ w : Int32, (fp F3 82 st.length w).1 69 36 = Int32.ofNat st.length := fun w => (fp_ne (Or.inl (by decide))).trans k3.1
    refine Pv.aload rfl rfl ?_
    refine Pv.getR (v := .ref 82) rfl rfl (GW.at (a := 69) (k := 33) (b := 82) g3 (by decide)) ?_
    refine Pv.aload rfl rfl ?_
    refine Pv.getI (z := Int32.ofNat st.length) rfl rfl k3.1 ?_
    refine Pv.iload rfl rfl ?_
    have tail : Pv (ab_T (L_X11_operand Z_X11_isWord Z_X11_isSign Z_X11_leafOf Z_X11_bad Z_X11_next Z_X11_takes Z_X11_code)) N 103 [some (.ref 69), some (.int (b2i (decide ((tok B n 200 i).k = 64 + ((15 : Nat) : Int))))), some (.int (b2i (decide ((tok B n 200 i).k = (40 : Int32).toInt)))), some (.int (zlf (tok B n 200 i).k)), none] [.int (zs1 x), .int (Int32.ofNat st.length), .ref 82] F3 Q := by
      refine Pv.astk (k := st.length) (z := zs1 x) rfl (i_toNat (by omega)) rfl ?_
      refine Pv.aload rfl rfl ?_
      refine Pv.dup rfl ?_
      refine Pv.getI (z := Int32.ofNat st.length) rfl rfl (e36 _) ?_
      refine Pv.lit rfl ?_
      refine Pv.bin (z := Int32.ofNat (st.length + 1)) rfl (i_add st.length 1) ?_
      refine Pv.putI rfl rfl ?_
      refine Pv.aload rfl rfl ?_
      refine Pv.dup rfl ?_
      refine Pv.getI (z := Int32.ofNat (1 + zm_dp st)) rfl rfl ((fp_ne (Or.inr (by decide))).trans ((fp_ne (Or.inl (by decide))).trans k3.2.1)) ?_
      refine Pv.lit rfl ?_
      refine Pv.bin (z := Int32.ofNat (1 + (1 + zm_dp st))) rfl ((i_add (1 + zm_dp st) 1).trans (congrArg Int32.ofNat (by omega))) ?_
      refine Pv.putI rfl rfl ?_
      refine Pv.lit rfl ?_
      exact Pv.zret rfl (by rw [hQ, ez]; exact ⟨rfl, h3.pu x dx⟩)
    rcases hx with ⟨rfl, hx⟩ | ⟨rfl, hx⟩
    · rw [show decide ((tok B n 200 i).k = 64 + ((15 : Nat) : Int)) = true from decide_eq_true (by omega)] at tail ⊢
      refine Pv.if0 rfl (fun c => absurd c (by decide)) (fun _ => ?_)
      refine Pv.lit rfl ?_
      refine Pv.goto rfl ?_
      exact tail
    · rw [show decide ((tok B n 200 i).k = 64 + ((15 : Nat) : Int)) = false from decide_eq_false (by omega)] at tail ⊢
      refine Pv.if0 rfl (fun _ => ?_) (fun c => absurd c (by decide))
      refine Pv.lit rfl ?_
      exact tail
  have p126 : (80 ≤ (tok B n 200 i).k ∧ (tok B n 200 i).k ≤ 88) → ∀ F3 : FW, ZX F3 B n (i + 1, o + 1, cs, st, false) → zm_opd (tok B n 200) i o cs st = zm_lf st (z_leaf (tok B n 200) i (o + 1) cs) → Pv (ab_T (L_X11_operand Z_X11_isWord Z_X11_isSign Z_X11_leafOf Z_X11_bad Z_X11_next Z_X11_takes Z_X11_code)) N 126 [some (.ref 69), some (.int (b2i (decide ((tok B n 200 i).k = 64 + ((15 : Nat) : Int))))), some (.int (b2i (decide ((tok B n 200 i).k = (40 : Int32).toInt)))), some (.int (zlf (tok B n 200 i).k)), none] [] F3 Q := fun hk F3 h3 ez => by
    have ek : zlf (tok B n 200 i).k = Int32.ofNat ((tok B n 200 i).k.toNat - 80) := if_pos hk
    refine Pv.aload rfl rfl ?_
    refine Pv.lit rfl ?_
    refine Pv.putI rfl rfl ?_
    have h4 : ZX (fp F3 69 38 1) B n (i + 1, o + 1, cs, st, true) := h3.p38 true
    obtain ⟨F4, hF4⟩ : ∃ F4 : FW, F4 = fp F3 69 38 1 := ⟨_, rfl⟩
    rw [← hF4] at h4 ⊢
    refine (show Pv (ab_T (L_X11_operand Z_X11_isWord Z_X11_isSign Z_X11_leafOf Z_X11_bad Z_X11_next Z_X11_takes Z_X11_code)) N 131 [some (.ref 69), some (.int (b2i (decide ((tok B n 200 i).k = 64 + ((15 : Nat) : Int))))), some (.int (b2i (decide ((tok B n 200 i).k = (40 : Int32).toInt)))), some (.int (zlf (tok B n 200 i).k)), none] [] F4 Q from ?_)
    rw [ek]
    refine Pv.iload rfl rfl ?_
    refine Pv.lit rfl ?_
    refine Pv.icmp rfl (fun c => ?_) (fun c => ?_)
    · have q := (i_le (a := 5) (b := (tok B n 200 i).k.toNat - 80) (by omega) (by omega)).mp (of_decide_eq_true c)
      have h84 : ¬ (tok B n 200 i).k ≤ 84 := by omega
      have hN4 : NTF F4 (tok B n 200 (i + 1)) := h4.2.1.2.2.2.1
      have bad1 : ¬ ((tok B n 200 (i + 1)).k = 60 ∨ (tok B n 200 (i + 1)).k = 61 ∨ (tok B n 200 (i + 1)).k = 62) → Pv (ab_T (L_X11_operand Z_X11_isWord Z_X11_isSign Z_X11_leafOf Z_X11_bad Z_X11_next Z_X11_takes Z_X11_code)) N 185 [some (.ref 69), some (.int (b2i (decide ((tok B n 200 i).k = 64 + ((15 : Nat) : Int))))), some (.int (b2i (decide ((tok B n 200 i).k = (40 : Int32).toInt)))), some (.int (Int32.ofNat ((tok B n 200 i).k.toNat - 80))), none] [] F4 Q := fun cb => by
        have el : z_leaf (tok B n 200) i (o + 1) cs = zn 1 (i + 1) := (if_neg h84).trans (if_neg cb)
        rw [el] at ez
        refine Pv.aload rfl rfl ?_
        refine Pv.lit rfl ?_
        refine Pv.callV (as := [.ref 69, .int 1]) (rest := []) rfl rfl rfl (r_bad (c := 1) h4.1) (fun r2 G2 p => ?_)
        obtain ⟨rfl, e2⟩ := p
        refine (show Pv (ab_T (L_X11_operand Z_X11_isWord Z_X11_isSign Z_X11_leafOf Z_X11_bad Z_X11_next Z_X11_takes Z_X11_code)) N 190 [some (.ref 69), some (.int (b2i (decide ((tok B n 200 i).k = 64 + ((15 : Nat) : Int))))), some (.int (b2i (decide ((tok B n 200 i).k = (40 : Int32).toInt)))), some (.int (Int32.ofNat ((tok B n 200 i).k.toNat - 80))), none] [.int 0] G2 Q from ?_)
        exact Pv.zret rfl (by rw [hQ, ez]; exact x_bad (i := i + 1) h4.2.1 e2)
      have good : ((tok B n 200 (i + 1)).k = 60 ∨ (tok B n 200 (i + 1)).k = 61 ∨ (tok B n 200 (i + 1)).k = 62) → Pv (ab_T (L_X11_operand Z_X11_isWord Z_X11_isSign Z_X11_leafOf Z_X11_bad Z_X11_next Z_X11_takes Z_X11_code)) N 191 [some (.ref 69), some (.int (b2i (decide ((tok B n 200 i).k = 64 + ((15 : Nat) : Int))))), some (.int (b2i (decide ((tok B n 200 i).k = (40 : Int32).toInt)))), some (.int (Int32.ofNat ((tok B n 200 i).k.toNat - 80))), none] [] F4 Q := fun cg => by
        have rk : rkk (tok B n 200 (i + 1)).k = 3 := by rcases cg with e | e | e <;> rw [e] <;> rfl
        have e14 : F4.1 69 14 = Int32.ofNat (tok B n 200 (i + 1)).k.toNat := i_ofv (hN4.2.2.2.2.1 rk) (by omega)
        refine Pv.aload rfl rfl ?_
        refine Pv.getI (z := Int32.ofNat (tok B n 200 (i + 1)).k.toNat) rfl rfl e14 ?_
        refine Pv.istore (lo' := [some (.ref 69), some (.int (b2i (decide ((tok B n 200 i).k = 64 + ((15 : Nat) : Int))))), some (.int (b2i (decide ((tok B n 200 i).k = (40 : Int32).toInt)))), some (.int (Int32.ofNat ((tok B n 200 i).k.toNat - 80))), some (.int (Int32.ofNat (tok B n 200 (i + 1)).k.toNat))]) rfl rfl ?_
        refine Pv.aload rfl rfl ?_
        refine Pv.callV (as := [.ref 69]) (rest := []) rfl rfl rfl (r_next h4.1 h4.2.1) (fun r5 F5 p => ?_)
        obtain ⟨rfl, x5, t5⟩ := p
        have h5 := h4.nx x5 t5
        have hN5 : NTF F5 (tok B n 200 (i + 1 + 1)) := h5.2.1.2.2.2.1
        refine (show Pv (ab_T (L_X11_operand Z_X11_isWord Z_X11_isSign Z_X11_leafOf Z_X11_bad Z_X11_next Z_X11_takes Z_X11_code)) N 201 [some (.ref 69), some (.int (b2i (decide ((tok B n 200 i).k = 64 + ((15 : Nat) : Int))))), some (.int (b2i (decide ((tok B n 200 i).k = (40 : Int32).toInt)))), some (.int (Int32.ofNat ((tok B n 200 i).k.toNat - 80))), some (.int (Int32.ofNat (tok B n 200 (i + 1)).k.toNat))] [] F5 Q from ?_)
        refine Pv.aload rfl rfl ?_
        refine Pv.getI (z := F5.1 69 11) rfl rfl rfl ?_
        refine Pv.lit rfl ?_
        refine Pv.icmp rfl (fun c2 => ?_) (fun c2 => ?_)
        · have k3 : (tok B n 200 (i + 1 + 1)).k = 3 := rkk_2 (hN5.2.2.1.symm.trans (congrArg Int32.toInt (of_decide_eq_true c2)))
          have v5 := tok_v999 B n 200 (i + 1 + 1) k3
          have e14b : F5.1 69 14 = Int32.ofNat (tok B n 200 (i + 1 + 1)).v.toNat := i_ofv (hN5.2.2.2.1 (by rw [k3]; rfl)) v5.1
          have el : z_leaf (tok B n 200) i (o + 1) cs = zy (i + 3) (o + 1) (cs ++ [((tok B n 200 i).k.toNat, (tok B n 200 (i + 1)).k.toNat, (tok B n 200 (i + 1 + 1)).v.toNat)]) := ((if_neg h84).trans (if_pos cg)).trans (if_pos k3)
          rw [el] at ez
          have z3 : zc3 ((tok B n 200 i).k.toNat, (tok B n 200 (i + 1)).k.toNat, (tok B n 200 (i + 1 + 1)).v.toNat) = (Int32.ofNat ((tok B n 200 i).k.toNat - 80), Int32.ofNat (tok B n 200 (i + 1)).k.toNat, Int32.ofNat (tok B n 200 (i + 1 + 1)).v.toNat) := ((((if_neg (by show ¬ (tok B n 200 i).k.toNat = 79; omega)).trans (if_neg (by show ¬ (tok B n 200 i).k.toNat = 78; omega))).trans (if_neg (by show ¬ (tok B n 200 i).k.toNat = 77; omega))).trans (if_neg (by show ¬ (tok B n 200 i).k.toNat ≤ 84; omega)))
          refine Pv.aload rfl rfl ?_
          refine Pv.iload rfl rfl ?_
          refine Pv.iload rfl rfl ?_
          refine Pv.aload rfl rfl ?_
          refine Pv.getI (z := Int32.ofNat (tok B n 200 (i + 1 + 1)).v.toNat) rfl rfl e14b ?_
          refine Pv.callV (as := [.ref 69, .int (Int32.ofNat ((tok B n 200 i).k.toNat - 80)), .int (Int32.ofNat (tok B n 200 (i + 1)).k.toNat), .int (Int32.ofNat (tok B n 200 (i + 1 + 1)).v.toNat)]) (rest := []) rfl rfl rfl (r_code (z := cs.length) h5.1 h5.2.2.2.1.1 (by omega) _ _ _) (fun r6 F6 p => ?_)
          obtain ⟨rfl, e6⟩ := p
          have h6 := h5.cd ((tok B n 200 i).k.toNat, (tok B n 200 (i + 1)).k.toNat, (tok B n 200 (i + 1 + 1)).v.toNat)
          rw [z3] at h6
          replace h6 : ZX F6 B n (i + 1 + 1, o + 1, cs ++ [((tok B n 200 i).k.toNat, (tok B n 200 (i + 1)).k.toNat, (tok B n 200 (i + 1 + 1)).v.toNat)], st, true) := by rw [e6]; exact h6
          refine (show Pv (ab_T (L_X11_operand Z_X11_isWord Z_X11_isSign Z_X11_leafOf Z_X11_bad Z_X11_next Z_X11_takes Z_X11_code)) N 226 [some (.ref 69), some (.int (b2i (decide ((tok B n 200 i).k = 64 + ((15 : Nat) : Int))))), some (.int (b2i (decide ((tok B n 200 i).k = (40 : Int32).toInt)))), some (.int (Int32.ofNat ((tok B n 200 i).k.toNat - 80))), some (.int (Int32.ofNat (tok B n 200 (i + 1)).k.toNat))] [] F6 Q from ?_)
          refine Pv.aload rfl rfl ?_
          refine Pv.callV (as := [.ref 69]) (rest := []) rfl rfl rfl (r_next h6.1 h6.2.1) (fun r7 F7 p => ?_)
          obtain ⟨rfl, x7, t7⟩ := p
          refine (show Pv (ab_T (L_X11_operand Z_X11_isWord Z_X11_isSign Z_X11_leafOf Z_X11_bad Z_X11_next Z_X11_takes Z_X11_code)) N 230 [some (.ref 69), some (.int (b2i (decide ((tok B n 200 i).k = 64 + ((15 : Nat) : Int))))), some (.int (b2i (decide ((tok B n 200 i).k = (40 : Int32).toInt)))), some (.int (Int32.ofNat ((tok B n 200 i).k.toNat - 80))), some (.int (Int32.ofNat (tok B n 200 (i + 1)).k.toNat))] [] F7 Q from ?_)
          refine Pv.lit rfl ?_
          exact Pv.zret rfl (by rw [hQ, ez]; exact ⟨rfl, h6.nx x7 t7⟩)
        · have k3 : ¬ (tok B n 200 (i + 1 + 1)).k = 3 := fun e => of_decide_eq_false c2 (Int32.toInt_inj.mp (hN5.2.2.1.trans (by rw [e]; rfl)))
          have el : z_leaf (tok B n 200) i (o + 1) cs = zn 1 (i + 1 + 1) := ((if_neg h84).trans (if_pos cg)).trans (if_neg k3)
          rw [el] at ez
          refine Pv.aload rfl rfl ?_
          refine Pv.lit rfl ?_
          refine Pv.callV (as := [.ref 69, .int 1]) (rest := []) rfl rfl rfl (r_bad (c := 1) h5.1) (fun r2 G2 p => ?_)
          obtain ⟨rfl, e2⟩ := p
          refine (show Pv (ab_T (L_X11_operand Z_X11_isWord Z_X11_isSign Z_X11_leafOf Z_X11_bad Z_X11_next Z_X11_takes Z_X11_code)) N 214 [some (.ref 69), some (.int (b2i (decide ((tok B n 200 i).k = 64 + ((15 : Nat) : Int))))), some (.int (b2i (decide ((tok B n 200 i).k = (40 : Int32).toInt)))), some (.int (Int32.ofNat ((tok B n 200 i).k.toNat - 80))), some (.int (Int32.ofNat (tok B n 200 (i + 1)).k.toNat))] [.int 0] G2 Q from ?_)
          exact Pv.zret rfl (by rw [hQ, ez]; exact x_bad (i := i + 1 + 1) h5.2.1 e2)
      refine Pv.aload rfl rfl ?_
      refine Pv.getI (z := F4.1 69 11) rfl rfl rfl ?_
      refine Pv.lit rfl ?_
      have e3 : (3 : Int32).toInt = 3 := rfl
      have e60 : (60 : Int32).toInt = 60 := rfl
      have e62 : (62 : Int32).toInt = 62 := rfl
      refine Pv.icmp rfl (fun c2 => ?_) (fun c2 => ?_)
      · replace c2 : decide (F4.1 69 11 = 3) = false := by simpa using c2
        have n3 : ¬ rkk (tok B n 200 (i + 1)).k = 3 := fun e => of_decide_eq_false c2 (Int32.toInt_inj.mp (hN4.2.2.1.trans (e.trans e3.symm)))
        exact bad1 (fun cg => n3 (by rcases cg with e | e | e <;> rw [e] <;> rfl))
      · replace c2 : decide (F4.1 69 11 = 3) = true := by simpa using c2
        have r3 : rkk (tok B n 200 (i + 1)).k = 3 := hN4.2.2.1.symm.trans ((congrArg Int32.toInt (of_decide_eq_true c2)).trans e3)
        have v14 := hN4.2.2.2.2.1 r3
        refine Pv.aload rfl rfl ?_
        refine Pv.getI (z := F4.1 69 14) rfl rfl rfl ?_
        refine Pv.lit rfl ?_
        refine Pv.icmp rfl (fun c3 => ?_) (fun c3 => ?_)
        · have q3 := Int32.lt_iff_toInt_lt.mp (of_decide_eq_true c3)
          rw [v14, e60] at q3
          exact bad1 (by omega)
        · have q3 := mt Int32.lt_iff_toInt_lt.mpr (of_decide_eq_false c3)
          rw [v14, e60] at q3
          refine Pv.aload rfl rfl ?_
          refine Pv.getI (z := F4.1 69 14) rfl rfl rfl ?_
          refine Pv.lit rfl ?_
          refine Pv.icmp rfl (fun c4 => ?_) (fun c4 => ?_)
          · have q4 := Int32.le_iff_toInt_le.mp (of_decide_eq_true c4)
            rw [v14, e62] at q4
            exact good (by omega)
          · have q4 := mt Int32.le_iff_toInt_le.mpr (of_decide_eq_false c4)
            rw [v14, e62] at q4
            exact bad1 (by omega)
    · have q := mt (i_le (a := 5) (b := (tok B n 200 i).k.toNat - 80) (by omega) (by omega)).mpr (of_decide_eq_false c)
      have h84 : (tok B n 200 i).k ≤ 84 := by omega
      refine Pv.aload rfl rfl ?_
      refine Pv.lit rfl ?_
      refine Pv.lit rfl ?_
      refine Pv.callV (as := [.ref 69, .int 0, .int 1]) (rest := []) rfl rfl rfl (r_takes h4.1 h4.2.1 0 1) (fun r5 F5 p => ?_)
      obtain ⟨rfl, sp, v18⟩ := p
      have e0 : (0 : Int32).toInt = 0 := rfl
      have e1 : (1 : Int32).toInt = 1 := rfl
      rw [e0, e1] at sp v18 ⊢
      by_cases ct : tnN (tok B n 200 (i + 1)) 0 1 = 0
      · have kn := tnN_k ct
        obtain ⟨t5, f15⟩ := sp.2.1 ct
        have h5 := h4.lx sp.1 t5 f15
        have e18 : F5.1 69 18 = Int32.ofNat (tok B n 200 (i + 1)).v.toNat := i_ofv (v18 ct) kn.2.1
        have el : z_leaf (tok B n 200) i (o + 1) cs = zy (i + 2) (o + 1) (cs ++ [((tok B n 200 i).k.toNat, (tok B n 200 (i + 1)).v.toNat, 0)]) := (if_pos h84).trans (if_pos ct)
        rw [el] at ez
        have z3 : zc3 ((tok B n 200 i).k.toNat, (tok B n 200 (i + 1)).v.toNat, 0) = (Int32.ofNat ((tok B n 200 i).k.toNat - 80), 0, Int32.ofNat (tok B n 200 (i + 1)).v.toNat) := ((((if_neg (by show ¬ (tok B n 200 i).k.toNat = 79; omega)).trans (if_neg (by show ¬ (tok B n 200 i).k.toNat = 78; omega))).trans (if_neg (by show ¬ (tok B n 200 i).k.toNat = 77; omega))).trans (if_pos (by show (tok B n 200 i).k.toNat ≤ 84; omega)))
        rw [decide_eq_true ct]
        refine (show Pv (ab_T (L_X11_operand Z_X11_isWord Z_X11_isSign Z_X11_leafOf Z_X11_bad Z_X11_next Z_X11_takes Z_X11_code)) N 142 [some (.ref 69), some (.int (b2i (decide ((tok B n 200 i).k = 64 + ((15 : Nat) : Int))))), some (.int (b2i (decide ((tok B n 200 i).k = (40 : Int32).toInt)))), some (.int (Int32.ofNat ((tok B n 200 i).k.toNat - 80))), none] [.int 1] F5 Q from ?_)
        refine Pv.if0 rfl (fun _ => ?_) (fun c => absurd c (by decide))
        refine Pv.aload rfl rfl ?_
        refine Pv.iload rfl rfl ?_
        refine Pv.lit rfl ?_
        refine Pv.aload rfl rfl ?_
        refine Pv.getI (z := Int32.ofNat (tok B n 200 (i + 1)).v.toNat) rfl rfl e18 ?_
        refine Pv.callV (as := [.ref 69, .int (Int32.ofNat ((tok B n 200 i).k.toNat - 80)), .int 0, .int (Int32.ofNat (tok B n 200 (i + 1)).v.toNat)]) (rest := []) rfl rfl rfl (r_code (z := cs.length) h5.1 h5.2.2.2.1.1 (by omega) _ _ _) (fun r6 F6 p => ?_)
        obtain ⟨rfl, e6⟩ := p
        have h6 := h5.cd ((tok B n 200 i).k.toNat, (tok B n 200 (i + 1)).v.toNat, 0)
        rw [z3] at h6
        refine (show Pv (ab_T (L_X11_operand Z_X11_isWord Z_X11_isSign Z_X11_leafOf Z_X11_bad Z_X11_next Z_X11_takes Z_X11_code)) N 157 [some (.ref 69), some (.int (b2i (decide ((tok B n 200 i).k = 64 + ((15 : Nat) : Int))))), some (.int (b2i (decide ((tok B n 200 i).k = (40 : Int32).toInt)))), some (.int (Int32.ofNat ((tok B n 200 i).k.toNat - 80))), none] [] F6 Q from ?_)
        refine Pv.lit rfl ?_
        exact Pv.zret rfl (by rw [hQ, ez]; exact ⟨rfl, by rw [e6]; exact h6⟩)
      · have el : z_leaf (tok B n 200) i (o + 1) cs = zn (tnN (tok B n 200 (i + 1)) 0 1) (i + 1) := (if_pos h84).trans (if_neg ct)
        rw [el] at ez
        have f5 := sp.2.2 ct
        rw [decide_eq_false ct]
        refine (show Pv (ab_T (L_X11_operand Z_X11_isWord Z_X11_isSign Z_X11_leafOf Z_X11_bad Z_X11_next Z_X11_takes Z_X11_code)) N 142 [some (.ref 69), some (.int (b2i (decide ((tok B n 200 i).k = 64 + ((15 : Nat) : Int))))), some (.int (b2i (decide ((tok B n 200 i).k = (40 : Int32).toInt)))), some (.int (Int32.ofNat ((tok B n 200 i).k.toNat - 80))), none] [.int 0] F5 Q from ?_)
        refine Pv.if0 rfl (fun c => absurd c (by decide)) (fun _ => ?_)
        refine Pv.lit rfl ?_
        exact Pv.zret rfl (by rw [hQ, ez]; exact ⟨rfl, f5.1, f5.2⟩)
  have p38 : z_is (tok B n 200) i → Pv (ab_T (L_X11_operand Z_X11_isWord Z_X11_isSign Z_X11_leafOf Z_X11_bad Z_X11_next Z_X11_takes Z_X11_code)) N 38 [some (.ref 69), some (.int (b2i (decide ((tok B n 200 i).k = 64 + ((15 : Nat) : Int))))), some (.int (b2i (decide ((tok B n 200 i).k = (40 : Int32).toInt)))), some (.int (zlf (tok B n 200 i).k)), none] [] F Q := fun ci => by
    refine Pv.aload rfl rfl ?_
    refine Pv.getI (z := Int32.ofNat o) rfl rfl h35 ?_
    refine Pv.lit rfl ?_
    refine Pv.icmp rfl (fun c => ?_) (fun c => ?_)
    · have q := (i_eq (a := o) (b := 20) (by omega) (by omega)).mp (of_decide_eq_true c)
      exact p56 ci (Or.inl (by omega))
    · have q := mt (i_eq (a := o) (b := 20) (by omega) (by omega)).mpr (of_decide_eq_false c)
      refine Pv.aload rfl rfl ?_
      refine Pv.getI (z := Int32.ofNat (1 + zm_dp st)) rfl rfl hK.2.1 ?_
      refine Pv.lit rfl ?_
      refine Pv.icmp rfl (fun c2 => ?_) (fun c2 => ?_)
      · have q2 := (i_le (a := 1 + zm_dp st) (b := 8) (by omega) (by omega)).mp (of_decide_eq_true c2)
        have cn : ¬ (20 ≤ o ∨ 8 ≤ zm_dp st) := by omega
        have ez : zm_opd (tok B n 200) i o cs st = (if (tok B n 200 i).k = 40 then .inl (i + 1, o + 1, cs, 40 :: st, false) else if (tok B n 200 i).k = 79 then .inl (i + 1, o + 1, cs, 79 :: st, false) else zm_lf st (z_leaf (tok B n 200) i (o + 1) cs)) := (if_pos ci).trans (if_neg cn)
        refine Pv.aload rfl rfl ?_
        refine Pv.dup rfl ?_
        refine Pv.getI (z := Int32.ofNat o) rfl rfl h35 ?_
        refine Pv.lit rfl ?_
        refine Pv.bin (z := Int32.ofNat (o + 1)) rfl (i_add o 1) ?_
        refine Pv.putI rfl rfl ?_
        have h2 := h.p35 (o + 1)
        obtain ⟨F2, hF2⟩ : ∃ F2 : FW, F2 = fp F 69 35 (Int32.ofNat (o + 1)) := ⟨_, rfl⟩
        rw [← hF2] at h2 ⊢
        refine (show Pv (ab_T (L_X11_operand Z_X11_isWord Z_X11_isSign Z_X11_leafOf Z_X11_bad Z_X11_next Z_X11_takes Z_X11_code)) N 72 [some (.ref 69), some (.int (b2i (decide ((tok B n 200 i).k = 64 + ((15 : Nat) : Int))))), some (.int (b2i (decide ((tok B n 200 i).k = (40 : Int32).toInt)))), some (.int (zlf (tok B n 200 i).k)), none] [] F2 Q from ?_)
        refine Pv.aload rfl rfl ?_
        refine Pv.callV (as := [.ref 69]) (rest := []) rfl rfl rfl (r_next h2.1 h2.2.1) (fun r3 F3 p => ?_)
        obtain ⟨rfl, x3, t3⟩ := p
        have h3 := h2.nx x3 t3
        refine (show Pv (ab_T (L_X11_operand Z_X11_isWord Z_X11_isSign Z_X11_leafOf Z_X11_bad Z_X11_next Z_X11_takes Z_X11_code)) N 76 [some (.ref 69), some (.int (b2i (decide ((tok B n 200 i).k = 64 + ((15 : Nat) : Int))))), some (.int (b2i (decide ((tok B n 200 i).k = (40 : Int32).toInt)))), some (.int (zlf (tok B n 200 i).k)), none] [] F3 Q from ?_)
        refine Pv.iload rfl rfl ?_
        by_cases k40 : (tok B n 200 i).k = 40
        · rw [if_pos k40] at ez
          have q84 := p84 40 0 F3 (Or.inr ⟨rfl, k40⟩) h3 ez
          rw [show decide ((tok B n 200 i).k = 64 + ((15 : Nat) : Int)) = false from decide_eq_false (by omega)] at q84 ⊢
          refine Pv.if0 rfl (fun c => absurd c (by decide)) (fun _ => ?_)
          refine Pv.iload rfl rfl ?_
          rw [show decide ((tok B n 200 i).k = (40 : Int32).toInt) = true from decide_eq_true (by omega)] at q84 ⊢
          refine Pv.if0 rfl (fun c => absurd c (by decide)) (fun _ => ?_)
          exact q84
        · rw [if_neg k40] at ez
          by_cases k79 : (tok B n 200 i).k = 79
          · rw [if_pos k79] at ez
            have q84 := p84 79 0 F3 (Or.inl ⟨rfl, k79⟩) h3 ez
            rw [show decide ((tok B n 200 i).k = 64 + ((15 : Nat) : Int)) = true from decide_eq_true (by omega)] at q84 ⊢
            refine Pv.if0 rfl (fun _ => ?_) (fun c => absurd c (by decide))
            exact q84
          · rw [if_neg k79] at ez
            have q126 := p126 (by omega) F3 h3 ez
            rw [show decide ((tok B n 200 i).k = 64 + ((15 : Nat) : Int)) = false from decide_eq_false (by omega)] at q126 ⊢
            refine Pv.if0 rfl (fun c => absurd c (by decide)) (fun _ => ?_)
            refine Pv.iload rfl rfl ?_
            rw [show decide ((tok B n 200 i).k = (40 : Int32).toInt) = false from decide_eq_false (by omega)] at q126 ⊢
            refine Pv.if0 rfl (fun _ => ?_) (fun c => absurd c (by decide))
            exact q126
      · have q2 := mt (i_le (a := 1 + zm_dp st) (b := 8) (by omega) (by omega)).mpr (of_decide_eq_false c2)
        exact p56 ci (Or.inr (by omega))
  have p32 : ¬ z_is (tok B n 200) i → Pv (ab_T (L_X11_operand Z_X11_isWord Z_X11_isSign Z_X11_leafOf Z_X11_bad Z_X11_next Z_X11_takes Z_X11_code)) N 32 [some (.ref 69), some (.int (b2i (decide ((tok B n 200 i).k = 64 + ((15 : Nat) : Int))))), some (.int (b2i (decide ((tok B n 200 i).k = (40 : Int32).toInt)))), some (.int (zlf (tok B n 200 i).k)), none] [] F Q := fun ci => by
    have ez : zm_opd (tok B n 200) i o cs st = .inr (zn 1 i) := if_neg ci
    refine Pv.aload rfl rfl ?_
    refine Pv.lit rfl ?_
    refine Pv.callV (as := [.ref 69, .int 1]) (rest := []) rfl rfl rfl (r_bad (c := 1) hG) (fun r2 G2 p => ?_)
    obtain ⟨rfl, e2⟩ := p
    refine (show Pv (ab_T (L_X11_operand Z_X11_isWord Z_X11_isSign Z_X11_leafOf Z_X11_bad Z_X11_next Z_X11_takes Z_X11_code)) N 37 [some (.ref 69), some (.int (b2i (decide ((tok B n 200 i).k = 64 + ((15 : Nat) : Int))))), some (.int (b2i (decide ((tok B n 200 i).k = (40 : Int32).toInt)))), some (.int (zlf (tok B n 200 i).k)), none] [.int 0] G2 Q from ?_)
    exact Pv.zret rfl (by rw [hQ, ez]; exact x_bad (i := i) hT e2)
  refine (show Pv (ab_T (L_X11_operand Z_X11_isWord Z_X11_isSign Z_X11_leafOf Z_X11_bad Z_X11_next Z_X11_takes Z_X11_code)) N 0 [some (.ref 69), none, none, none, none] [] F Q from ?_)
  refine Pv.aload rfl rfl ?_
  refine Pv.lit rfl ?_
  refine Pv.callVI (as := [.ref 69, .long 7237492]) (rest := []) (z := b2i (decide ((tok B n 200 i).k = 64 + ((15 : Nat) : Int)))) rfl rfl rfl (r_isWord (j := 15) hN (tok_wok _ _ _ _) (by decide) (by decide +kernel)) ?_
  refine Pv.istore (lo' := [some (.ref 69), some (.int (b2i (decide ((tok B n 200 i).k = 64 + ((15 : Nat) : Int))))), none, none, none]) rfl rfl ?_
  refine Pv.aload rfl rfl ?_
  refine Pv.lit rfl ?_
  refine Pv.callVI (as := [.ref 69, .int 40]) (rest := []) (z := b2i (decide ((tok B n 200 i).k = (40 : Int32).toInt))) rfl rfl rfl (r_isSign hN rfl) ?_
  refine Pv.istore (lo' := [some (.ref 69), some (.int (b2i (decide ((tok B n 200 i).k = 64 + ((15 : Nat) : Int))))), some (.int (b2i (decide ((tok B n 200 i).k = (40 : Int32).toInt)))), none, none]) rfl rfl ?_
  refine Pv.aload rfl rfl ?_
  refine Pv.callVI (as := [.ref 69]) (rest := []) (z := zlf (tok B n 200 i).k) rfl rfl rfl (r_leafOf hN (tok_wok _ _ _ _)) ?_
  refine Pv.istore (lo' := [some (.ref 69), some (.int (b2i (decide ((tok B n 200 i).k = 64 + ((15 : Nat) : Int))))), some (.int (b2i (decide ((tok B n 200 i).k = (40 : Int32).toInt)))), some (.int (zlf (tok B n 200 i).k)), none]) rfl rfl ?_
  refine Pv.iload rfl rfl ?_
  by_cases k79 : (tok B n 200 i).k = 79
  · have q := p38 (Or.inr ⟨by omega, by omega⟩)
    rw [show decide ((tok B n 200 i).k = 64 + ((15 : Nat) : Int)) = true from decide_eq_true (by omega)] at q ⊢
    refine Pv.if0 rfl (fun _ => ?_) (fun c => absurd c (by decide))
    exact q
  · have e79 : decide ((tok B n 200 i).k = 64 + ((15 : Nat) : Int)) = false := decide_eq_false (by omega)
    by_cases k40 : (tok B n 200 i).k = 40
    · have q := p38 (Or.inl k40)
      rw [e79] at q ⊢
      refine Pv.if0 rfl (fun c => absurd c (by decide)) (fun _ => ?_)
      refine Pv.iload rfl rfl ?_
      rw [show decide ((tok B n 200 i).k = (40 : Int32).toInt) = true from decide_eq_true (by omega)] at q ⊢
      refine Pv.if0 rfl (fun _ => ?_) (fun c => absurd c (by decide))
      exact q
    · have e4 : decide ((tok B n 200 i).k = (40 : Int32).toInt) = false := decide_eq_false (by omega)
      by_cases kl : 80 ≤ (tok B n 200 i).k ∧ (tok B n 200 i).k ≤ 88
      · have q := p38 (Or.inr ⟨by omega, by omega⟩)
        rw [e79, e4] at q
        rw [e79]
        refine Pv.if0 rfl (fun c => absurd c (by decide)) (fun _ => ?_)
        refine Pv.iload rfl rfl ?_
        rw [e4]
        refine Pv.if0 rfl (fun c => absurd c (by decide)) (fun _ => ?_)
        refine Pv.iload rfl rfl ?_
        refine Pv.if0 rfl (fun _ => ?_) (fun c => ?_)
        · exact q
        · rw [show zlf (tok B n 200 i).k = Int32.ofNat ((tok B n 200 i).k.toNat - 80) from if_pos kl] at c
          have c2 := mt (i_le (a := 0) (b := (tok B n 200 i).k.toNat - 80) (by omega) (by omega)).mpr (of_decide_eq_false c)
          omega
      · have q := p32 (by omega)
        rw [e79, e4] at q
        rw [e79]
        refine Pv.if0 rfl (fun c => absurd c (by decide)) (fun _ => ?_)
        refine Pv.iload rfl rfl ?_
        rw [e4]
        refine Pv.if0 rfl (fun c => absurd c (by decide)) (fun _ => ?_)
        refine Pv.iload rfl rfl ?_
        refine Pv.if0 rfl (fun c => ?_) (fun _ => ?_)
        · rw [show zlf (tok B n 200 i).k = -1 from if_neg kl] at c
          exact absurd c (by decide)
        · exact q
