/-! ===== the reference reads a Strait ===== -/
def PSB (s : PS) : Prop := 0 ≤ s.h 0 ∧ s.h 0 ≤ 6 ∧ 0 ≤ s.h 1 ∧ s.h 1 ≤ 8 ∧ 0 ≤ s.h 3 ∧ s.h 3 ≤ 20
/-- what is being read, as it lies at 72, 74, 76 -/
def SRF (F : FW) (s : PS) : Prop := (∀ i, i < 120 → (F.1 72 i).toInt = s.h i) ∧ F.1 69 20 = (if s.ld = true then 1 else 0) ∧ (∀ w, w < 4 → ∀ k, k < 12 → xbit (F.1 76 w) k = s.tl (12 * w + k)) ∧ (∀ g : Nat, (g : Int) < s.h 0 → (F.2.2.1 74 (14 + g)).toInt = s.nm g) ∧ (∀ g : Nat, (g : Int) < s.h 1 → (F.2.2.1 74 (20 + g)).toInt = s.nm (6 + g)) ∧ PSB s
theorem SRF.h {F : FW} {s : PS} (h : SRF F s) {i : Nat} (hi : i < 120) : (F.1 72 i).toInt = s.h i := h.1 i hi
theorem SRF.ld {F : FW} {s : PS} (h : SRF F s) : F.1 69 20 = (if s.ld = true then 1 else 0) := h.2.1
theorem SRF.tl {F : FW} {s : PS} (h : SRF F s) {w k : Nat} (hw : w < 4) (hk : k < 12) : xbit (F.1 76 w) k = s.tl (12 * w + k) := h.2.2.1 w hw k hk
theorem SRF.b {F : FW} {s : PS} (h : SRF F s) : PSB s := h.2.2.2.2.2
theorem SRF.at {F : FW} {s : PS} (h : SRF F s) {i k : Nat} (hi : i < 120) (e : s.h i = (k : Int)) : F.1 72 i = Int32.ofNat k := by
  have := i_ofv (h.h hi) (by omega)
  rw [this, e]
  rfl
def sn (s : PS) : Nat → Int := fun x => s.nm (x - 14)
theorem SRF.g {F : FW} {s : PS} (h : SRF F s) {g : Nat} (hg : s.h 0 = (g : Int)) : ∀ j, j < g → (F.2.2.1 74 (14 + j)).toInt = sn s (14 + j) := fun j hj => (h.2.2.2.1 j (by omega)).trans (by
  show s.nm j = s.nm (14 + j - 14)
  rw [show 14 + j - 14 = j by omega])
theorem SRF.m {F : FW} {s : PS} (h : SRF F s) {m : Nat} (hm : s.h 1 = (m : Int)) : ∀ j, j < m → (F.2.2.1 74 (20 + j)).toInt = sn s (20 + j) := fun j hj => (h.2.2.2.2.1 j (by omega)).trans (by
  show s.nm (6 + j) = s.nm (20 + j - 14)
  rw [show 20 + j - 14 = 6 + j by omega])
theorem sn_g {s : PS} {v : Int} : fP (sn s) 14 v = fP s.nm 0 v := funext fun g => by
  show decide (s.nm (14 + g - 14) = v) = decide (s.nm (0 + g) = v)
  rw [show 14 + g - 14 = 0 + g by omega]
theorem sn_m {s : PS} {v : Int} : fP (sn s) 20 v = fP s.nm 6 v := funext fun g => by
  show decide (s.nm (20 + g - 14) = v) = decide (s.nm (6 + g) = v)
  rw [show 20 + g - 14 = 6 + g by omega]
theorem fndf_oN {nm : Nat → Int} {o : Nat} {v : Int} : ∀ {f k : Nat}, m_fst (fP nm o v) k = none → k + f ≤ 1000 → (oN (m_fst (fP nm o v) (k + f))).toInt = fndf nm o v f k
  | 0, k, h, _ => by
    rw [Nat.add_zero, h]
    rfl
  | f + 1, k, h, hb => by
    show _ = (if nm (o + k) = v then (k : Int) else fndf nm o v f (k + 1))
    by_cases c : nm (o + k) = v
    · rw [if_pos c, m_fst_e h (show fP nm o v k = true from decide_eq_true c) (show k < k + (f + 1) by omega)]
      exact i_toInt (by omega)
    · rw [if_neg c, show k + (f + 1) = k + 1 + f by omega]
      exact fndf_oN (m_fst_n h (show fP nm o v k = false from decide_eq_false c)) (by omega)
theorem fnd_oN {nm : Nat → Int} {o q : Nat} {v : Int} (hq : q ≤ 20) : (oN (m_fst (fP nm o v) q)).toInt = fnd nm o (q : Int) v := by
  have h := fndf_oN (nm := nm) (o := o) (v := v) (f := q) (k := 0) rfl (by omega)
  rw [Nat.zero_add] at h
  rw [h]
  show _ = fndf nm o v ((q : Int)).toNat 0
  rw [show ((q : Int)).toNat = q by omega]
/-- a new name: 1 none, 3 not new -/
def fsc (s : PS) (X : TT) : Int32 := if X.k = 2 then (if 0 ≤ fnd s.nm 0 (s.h 0) X.v ∨ 0 ≤ fnd s.nm 6 (s.h 1) X.v then 3 else 0) else 1
theorem lnew_y {T : Nat → TT} {s : PS} {j : Nat} {k : Int → LR} (h : fsc s (T j) = 0) : lnew T s j k = k (T j).v := by
  unfold fsc at h
  unfold lnew
  by_cases c : (T j).k = 2
  · rw [if_pos c] at h
    by_cases d : 0 ≤ fnd s.nm 0 (s.h 0) (T j).v ∨ 0 ≤ fnd s.nm 6 (s.h 1) (T j).v
    · rw [if_pos d] at h
      exact absurd h (by decide)
    · rw [if_neg (fun e => e c), if_neg d]
  · rw [if_neg c] at h
    exact absurd h (by decide)
theorem lnew_n {T : Nat → TT} {s : PS} {j : Nat} {k : Int → LR} (h : ¬ fsc s (T j) = 0) : lnew T s j k = LR.bad (fsc s (T j)).toInt j := by
  unfold fsc at h ⊢
  unfold lnew
  by_cases c : (T j).k = 2
  · rw [if_pos c] at h
    rw [if_pos c]
    by_cases d : 0 ≤ fnd s.nm 0 (s.h 0) (T j).v ∨ 0 ≤ fnd s.nm 6 (s.h 1) (T j).v
    · rw [if_pos d, if_neg (fun e => e c), if_pos d]
      rfl
    · rw [if_neg d] at h
      exact absurd rfl h
  · rw [if_neg c, if_pos c]
    rfl
theorem lnum_y {T : Nat → TT} {j : Nat} {lo hi : Int} {k : Int → LR} (h : tnN (T j) lo hi = 0) : lnum T j lo hi k = k (T j).v := by
  have := tnN_k h
  unfold lnum
  rw [if_neg (fun e => e this.1), if_neg (by omega)]
theorem lnum_n {T : Nat → TT} {j : Nat} {lo hi : Int} {k : Int → LR} (h : ¬ tnN (T j) lo hi = 0) : lnum T j lo hi k = LR.bad (tnN (T j) lo hi).toInt j := by
  unfold tnN at h ⊢
  unfold lnum
  by_cases c : (T j).k = 3
  · rw [if_pos c] at h
    rw [if_pos c]
    by_cases d : (T j).v < lo ∨ hi < (T j).v
    · rw [if_pos d, if_neg (fun e => e c), if_pos d]
      rfl
    · rw [if_neg d] at h
      exact absurd rfl h
  · rw [if_neg c, if_pos c]
    rfl
theorem fP_f {nm nm' : Nat → Int} {o o' : Nat} {v : Int} (h : fP nm' o' v = fP nm o v) {q : Nat} (hq : q ≤ 20) : (oN (m_fst (fP nm' o' v) q)).toInt = fnd nm o (q : Int) v := by
  rw [h]
  exact fnd_oN hq
theorem lold_y {T : Nat → TT} {s : PS} {nm' : Nat → Int} {o o' q j : Nat} (hf : ∀ v, fP nm' o' v = fP s.nm o v) (hq : q ≤ 8) (h : lkc nm' o' q (T j) = 0) : ∃ w, w < q ∧ m_fst (fP nm' o' (T j).v) q = some w ∧ ∀ k : Int → LR, lold T s o (q : Int) j k = k (w : Int) := by
  obtain ⟨k2, w, hw, hwq⟩ := lkc_y hq h
  have e : fnd s.nm o (q : Int) (T j).v = (w : Int) := by
    rw [← fP_f (hf _) (by omega), hw]
    exact i_toInt (by omega)
  refine ⟨w, hwq, hw, fun k => ?_⟩
  unfold lold
  rw [if_neg (fun z => z k2), if_neg (by omega), e]
theorem lold_n {T : Nat → TT} {s : PS} {nm' : Nat → Int} {o o' q j : Nat} {k : Int → LR} (hf : ∀ v, fP nm' o' v = fP s.nm o v) (hq : q ≤ 8) (h : ¬ lkc nm' o' q (T j) = 0) : lold T s o (q : Int) j k = LR.bad (lkc nm' o' q (T j)).toInt j := by
  unfold lkc at h ⊢
  unfold lold
  by_cases c : (T j).k = 2
  · rw [if_pos c] at h
    rw [if_pos c]
    by_cases d : oN (m_fst (fP nm' o' (T j).v) q) = -1
    · rw [if_pos d, if_neg (fun e => e c), if_pos]
      · rfl
      · rw [← fP_f (hf _) (by omega), d]
        decide
    · rw [if_neg d] at h
      exact absurd rfl h
  · rw [if_neg c, if_pos c]
    rfl
def RSX (F G : FW) : Prop := FX (fun q => q = 69 ∨ q = 72 ∨ q = 74 ∨ q = 76) F G ∧ (∀ k, k ≠ 4 → k ≠ 11 → k ≠ 12 → k ≠ 13 → k ≠ 14 → k ≠ 15 → k ≠ 16 → k ≠ 18 → k ≠ 20 → G.1 69 k = F.1 69 k) ∧ (∀ k, k ≠ 17 → G.2.2.1 69 k = F.2.2.1 69 k) ∧ ∀ k, k < 14 → G.2.2.1 74 k = F.2.2.1 74 k
theorem RSX.rf {F : FW} : RSX F F := ⟨FX.rf, fun _ _ _ _ _ _ _ _ _ _ => rfl, fun _ _ => rfl, fun _ _ => rfl⟩
theorem RSX.tr {F G K : FW} (a : RSX F G) (b : RSX G K) : RSX F K := ⟨a.1.tr b.1, fun k c1 c2 c3 c4 c5 c6 c7 c8 c9 => (b.2.1 k c1 c2 c3 c4 c5 c6 c7 c8 c9).trans (a.2.1 k c1 c2 c3 c4 c5 c6 c7 c8 c9), fun k c => (b.2.2.1 k c).trans (a.2.2.1 k c), fun k c => (b.2.2.2 k c).trans (a.2.2.2 k c)⟩
theorem RSX.of {F G : FW} (h : RLX F G) : RSX F G := ⟨h.1.wd fun _ e => Or.inl e, fun k c1 c2 c3 c4 c5 c6 c7 c8 _ => h.2.1 k c1 c2 c3 c4 c5 c6 c7 c8, h.2.2, fun k _ => h.1.2.1 74 k (by decide)⟩
theorem RSX.lx {F G K : FW} (a : RSX F G) (h : RLX G K) : RSX F K := a.tr (RSX.of h)
theorem RSX.G {F G : FW} (h : RSX F G) (g : GW F) : GW G := g.fx h.1
theorem RSX.W {F G : FW} (h : RSX F G) (r : RWF F) : RWF G := fun j hj => (congrArg Int64.toInt (h.1.2.1 75 j (by decide))).trans (r j hj)
theorem RSX.p72 {F G : FW} {k : Nat} {v : Int32} (h : RSX F G) : RSX F (fp G 72 k v) := ⟨h.1.fp (Or.inr (Or.inl rfl)), fun k c1 c2 c3 c4 c5 c6 c7 c8 c9 => (fp_ne (Or.inl (by decide))).trans (h.2.1 k c1 c2 c3 c4 c5 c6 c7 c8 c9), h.2.2.1, h.2.2.2⟩
theorem RSX.p76 {F G : FW} {k : Nat} {v : Int32} (h : RSX F G) : RSX F (fp G 76 k v) := ⟨h.1.fp (Or.inr (Or.inr (Or.inr rfl))), fun k c1 c2 c3 c4 c5 c6 c7 c8 c9 => (fp_ne (Or.inl (by decide))).trans (h.2.1 k c1 c2 c3 c4 c5 c6 c7 c8 c9), h.2.2.1, h.2.2.2⟩
theorem RSX.p20 {F G : FW} {v : Int32} (h : RSX F G) : RSX F (fp G 69 20 v) := ⟨h.1.fp (Or.inl rfl), fun k c1 c2 c3 c4 c5 c6 c7 c8 c9 => (fp_ne (Or.inr c9)).trans (h.2.1 k c1 c2 c3 c4 c5 c6 c7 c8 c9), h.2.2.1, h.2.2.2⟩
theorem RSX.l74 {F G : FW} {k : Nat} {w : Int64} (h : RSX F G) (hk : 14 ≤ k) : RSX F (fpl G 74 k w) := ⟨h.1.fpl (Or.inr (Or.inr (Or.inl rfl))), h.2.1, fun j c => (fpl_ne (Or.inl (by decide))).trans (h.2.2.1 j c), fun j c => (fpl_ne (Or.inr (by omega))).trans (h.2.2.2 j c)⟩
theorem RTK.oth {F : FW} {B : Nat → Int} {n lim i a k : Nat} {v : Int32} (h : RTK F B n lim i) (c : a = 72 ∨ a = 76 ∨ (a = 69 ∧ (k = 20 ∨ k = 19))) : RTK (fp F a k v) B n lim i := by
  have e : ∀ j, j ≠ 20 → j ≠ 19 → (fp F a k v).1 69 j = F.1 69 j := fun j h1 h2 => fp_ne (by omega)
  have q := h.2.2.2.1
  exact ⟨(e 3 (by decide) (by decide)).trans h.1, (e 5 (by decide) (by decide)).trans h.2.1, (RBF_same fun k => fp_ne (by omega)).trans h.2.2.1, ⟨(congrArg Int32.toInt (e 12 (by decide) (by decide))).trans q.1, (e 4 (by decide) (by decide)).trans q.2.1, (congrArg Int32.toInt (e 11 (by decide) (by decide))).trans q.2.2.1, fun z => (congrArg Int32.toInt (e 14 (by decide) (by decide))).trans (q.2.2.2.1 z), fun z => (congrArg Int32.toInt (e 14 (by decide) (by decide))).trans (q.2.2.2.2.1 z), q.2.2.2.2.2⟩, h.2.2.2.2⟩
theorem RTK.l74 {F : FW} {B : Nat → Int} {n lim i k : Nat} {w : Int64} (h : RTK F B n lim i) : RTK (fpl F 74 k w) B n lim i := by
  have q := h.2.2.2.1
  exact ⟨h.1, h.2.1, h.2.2.1, ⟨q.1, q.2.1, q.2.2.1, q.2.2.2.1, q.2.2.2.2.1, fun z => (congrArg Int64.toInt (fpl_ne (Or.inl (by decide)))).trans (q.2.2.2.2.2 z)⟩, h.2.2.2.2⟩
theorem SRF.sm {F G : FW} {s : PS} (h : SRF F s) (e72 : ∀ k, G.1 72 k = F.1 72 k) (e20 : G.1 69 20 = F.1 69 20) (e76 : ∀ k, G.1 76 k = F.1 76 k) (e74 : ∀ k, G.2.2.1 74 k = F.2.2.1 74 k) : SRF G s :=
  ⟨fun i hi => by rw [e72]; exact h.1 i hi, e20.trans h.2.1, fun w hw k hk => by rw [e76]; exact h.2.2.1 w hw k hk, fun g hg => by rw [e74]; exact h.2.2.2.1 g hg, fun g hg => by rw [e74]; exact h.2.2.2.2.1 g hg, h.b⟩
theorem SRF.lx {F G : FW} {s : PS} (h : SRF F s) (x : RLX F G) : SRF G s := h.sm (fun k => x.1.1 72 k (by decide)) (x.2.1 20 (by decide) (by decide) (by decide) (by decide) (by decide) (by decide) (by decide) (by decide)) (fun k => x.1.1 76 k (by decide)) (fun k => x.1.2.1 74 k (by decide))
theorem SRF.ld1 {F : FW} {s : PS} (h : SRF F s) : SRF (fp F 69 20 1) (s.h, s.nm, true, s.tl) :=
  ⟨fun i hi => (congrArg Int32.toInt (fp_ne (Or.inl (by decide)))).trans (h.1 i hi), fp_eq, fun w hw k hk => (congrArg (fun z => xbit z k) (fp_ne (Or.inl (by decide)))).trans (h.2.2.1 w hw k hk), h.2.2.2.1, h.2.2.2.2.1, h.b⟩
theorem SRF.put {F : FW} {s : PS} {k : Nat} {v : Int32} {a : Int} (h : SRF F s) (hk : k ≠ 0 ∧ k ≠ 1 ∧ k ≠ 3) (hv : v.toInt = a) : SRF (fp F 72 k v) (ups s.h k a, s.2) := by
  have e0 : ups s.h k a 0 = s.h 0 := ups_ne (by omega)
  have e1 : ups s.h k a 1 = s.h 1 := ups_ne (by omega)
  have e3 : ups s.h k a 3 = s.h 3 := ups_ne (by omega)
  refine ⟨fun i hi => ?_, (fp_ne (Or.inl (by decide))).trans h.2.1, fun w hw j hj => (congrArg (fun z => xbit z j) (fp_ne (Or.inl (by decide)))).trans (h.2.2.1 w hw j hj), fun g hg => h.2.2.2.1 g (by rw [← e0]; exact hg), fun g hg => h.2.2.2.2.1 g (by rw [← e1]; exact hg), ?_⟩
  · show _ = ups s.h k a i
    by_cases c : i = k
    · rw [c, ups_eq, fp_eq]
      exact hv
    · rw [ups_ne c, fp_ne (Or.inr c)]
      exact h.1 i hi
  · show 0 ≤ ups s.h k a 0 ∧ ups s.h k a 0 ≤ 6 ∧ 0 ≤ ups s.h k a 1 ∧ ups s.h k a 1 ≤ 8 ∧ 0 ≤ ups s.h k a 3 ∧ ups s.h k a 3 ≤ 20
    rw [e0, e1, e3]
    exact h.b
theorem SRF.fl {F : FW} {s : PS} {g m a : Nat} {w : Int64} (h : SRF F s) (hg : s.h 0 = (g : Int)) (hm : s.h 1 = (m : Int)) (c : (a = 14 + g ∧ g < 6) ∨ a = 20 + m) : SRF (fpl F 74 a w) s := by
  have b := h.b
  unfold PSB at b
  exact ⟨h.1, h.2.1, h.2.2.1, fun j hj => (congrArg Int64.toInt (fpl_ne (Or.inr (by omega)))).trans (h.2.2.2.1 j hj), fun j hj => (congrArg Int64.toInt (fpl_ne (Or.inr (by omega)))).trans (h.2.2.2.2.1 j hj), h.b⟩
theorem SRF.good {F : FW} {s : PS} {g : Nat} {v : Int} (h : SRF F s) (hg : s.h 0 = (g : Int)) (h6 : g < 6) (hn : (F.2.2.1 74 (14 + g)).toInt = v) : SRF (fp F 72 0 (Int32.ofNat (g + 1))) (ups s.h 0 (s.h 0 + 1), ups s.nm (s.h 0).toNat v, s.ld, s.tl) := by
  have e1 : ups s.h 0 (s.h 0 + 1) 1 = s.h 1 := ups_ne (by decide)
  have e3 : ups s.h 0 (s.h 0 + 1) 3 = s.h 3 := ups_ne (by decide)
  have e0 : ups s.h 0 (s.h 0 + 1) 0 = s.h 0 + 1 := ups_eq
  have b := h.b
  unfold PSB at b
  have tg : (s.h 0).toNat = g := by omega
  refine ⟨fun i hi => ?_, (fp_ne (Or.inl (by decide))).trans h.2.1, fun w hw j hj => (congrArg (fun z => xbit z j) (fp_ne (Or.inl (by decide)))).trans (h.2.2.1 w hw j hj), fun j hj => ?_, fun j hj => ?_, ?_⟩
  · show _ = ups s.h 0 (s.h 0 + 1) i
    by_cases c : i = 0
    · rw [c, ups_eq, fp_eq, i_toInt (by omega)]
      omega
    · rw [ups_ne c, fp_ne (Or.inr c)]
      exact h.1 i hi
  · have hj' : (j : Int) < s.h 0 + 1 := by
      have : (j : Int) < ups s.h 0 (s.h 0 + 1) 0 := hj
      rw [e0] at this
      exact this
    show (F.2.2.1 74 (14 + j)).toInt = ups s.nm (s.h 0).toNat v j
    rw [tg]
    by_cases c : j = g
    · rw [c, ups_eq]
      exact hn
    · rw [ups_ne c]
      exact h.2.2.2.1 j (by omega)
  · have hj' : (j : Int) < s.h 1 := by
      have : (j : Int) < ups s.h 0 (s.h 0 + 1) 1 := hj
      rw [e1] at this
      exact this
    show (F.2.2.1 74 (20 + j)).toInt = ups s.nm (s.h 0).toNat v (6 + j)
    rw [ups_ne (by omega)]
    exact h.2.2.2.2.1 j hj'
  · show 0 ≤ ups s.h 0 (s.h 0 + 1) 0 ∧ ups s.h 0 (s.h 0 + 1) 0 ≤ 6 ∧ 0 ≤ ups s.h 0 (s.h 0 + 1) 1 ∧ ups s.h 0 (s.h 0 + 1) 1 ≤ 8 ∧ 0 ≤ ups s.h 0 (s.h 0 + 1) 3 ∧ ups s.h 0 (s.h 0 + 1) 3 ≤ 20
    rw [e0, e1, e3]
    omega
theorem SRF.man {F : FW} {s : PS} {m : Nat} {v : Int} (h : SRF F s) (hm : s.h 1 = (m : Int)) (h8 : m < 8) (hn : (F.2.2.1 74 (20 + m)).toInt = v) : SRF (fp F 72 1 (Int32.ofNat (m + 1))) (ups s.h 1 (s.h 1 + 1), ups s.nm (6 + m) v, s.ld, s.tl) := by
  have e1 : ups s.h 1 (s.h 1 + 1) 1 = s.h 1 + 1 := ups_eq
  have e3 : ups s.h 1 (s.h 1 + 1) 3 = s.h 3 := ups_ne (by decide)
  have e0 : ups s.h 1 (s.h 1 + 1) 0 = s.h 0 := ups_ne (by decide)
  have b := h.b
  unfold PSB at b
  refine ⟨fun i hi => ?_, (fp_ne (Or.inl (by decide))).trans h.2.1, fun w hw j hj => (congrArg (fun z => xbit z j) (fp_ne (Or.inl (by decide)))).trans (h.2.2.1 w hw j hj), fun j hj => ?_, fun j hj => ?_, ?_⟩
  · show _ = ups s.h 1 (s.h 1 + 1) i
    by_cases c : i = 1
    · rw [c, ups_eq, fp_eq, i_toInt (by omega)]
      omega
    · rw [ups_ne c, fp_ne (Or.inr c)]
      exact h.1 i hi
  · have hj' : (j : Int) < s.h 0 := by
      have : (j : Int) < ups s.h 1 (s.h 1 + 1) 0 := hj
      rw [e0] at this
      exact this
    show (F.2.2.1 74 (14 + j)).toInt = ups s.nm (6 + m) v j
    rw [ups_ne (by omega)]
    exact h.2.2.2.1 j hj'
  · have hj' : (j : Int) < s.h 1 + 1 := by
      have : (j : Int) < ups s.h 1 (s.h 1 + 1) 1 := hj
      rw [e1] at this
      exact this
    show (F.2.2.1 74 (20 + j)).toInt = ups s.nm (6 + m) v (6 + j)
    by_cases c : j = m
    · rw [c, ups_eq]
      exact hn
    · rw [ups_ne (by omega)]
      exact h.2.2.2.2.1 j (by omega)
  · show 0 ≤ ups s.h 1 (s.h 1 + 1) 0 ∧ ups s.h 1 (s.h 1 + 1) 0 ≤ 6 ∧ 0 ≤ ups s.h 1 (s.h 1 + 1) 1 ∧ ups s.h 1 (s.h 1 + 1) 1 ≤ 8 ∧ 0 ≤ ups s.h 1 (s.h 1 + 1) 3 ∧ ups s.h 1 (s.h 1 + 1) 3 ≤ 20
    rw [e0, e1, e3]
    omega
theorem SRF.miss {F : FW} {s : PS} {q : Nat} (h : SRF F s) (hq : s.h 3 = (q : Int)) (h20 : q < 20) : SRF (fp F 72 3 (Int32.ofNat (q + 1))) (ups s.h 3 (s.h 3 + 1), s.2) := by
  have e1 : ups s.h 3 (s.h 3 + 1) 1 = s.h 1 := ups_ne (by decide)
  have e3 : ups s.h 3 (s.h 3 + 1) 3 = s.h 3 + 1 := ups_eq
  have e0 : ups s.h 3 (s.h 3 + 1) 0 = s.h 0 := ups_ne (by decide)
  have b := h.b
  unfold PSB at b
  refine ⟨fun i hi => ?_, (fp_ne (Or.inl (by decide))).trans h.2.1, fun w hw j hj => (congrArg (fun z => xbit z j) (fp_ne (Or.inl (by decide)))).trans (h.2.2.1 w hw j hj), fun j hj => h.2.2.2.1 j (by rw [← e0]; exact hj), fun j hj => h.2.2.2.2.1 j (by rw [← e1]; exact hj), ?_⟩
  · show _ = ups s.h 3 (s.h 3 + 1) i
    by_cases c : i = 3
    · rw [c, ups_eq, fp_eq, i_toInt (by omega)]
      omega
    · rw [ups_ne c, fp_ne (Or.inr c)]
      exact h.1 i hi
  · show 0 ≤ ups s.h 3 (s.h 3 + 1) 0 ∧ ups s.h 3 (s.h 3 + 1) 0 ≤ 6 ∧ 0 ≤ ups s.h 3 (s.h 3 + 1) 1 ∧ ups s.h 3 (s.h 3 + 1) 1 ≤ 8 ∧ 0 ≤ ups s.h 3 (s.h 3 + 1) 3 ∧ ups s.h 3 (s.h 3 + 1) 3 ≤ 20
    rw [e0, e1, e3]
    omega
theorem SRF.told {F : FW} {s : PS} {w k : Nat} (h : SRF F s) (hw : w < 4) (hk : k < 12) : SRF (fp F 76 w (F.1 76 w ||| 1 <<< (Int32.ofNat k &&& 31))) (s.h, s.nm, s.ld, ups s.tl (12 * w + k) true) := by
  refine ⟨fun i hi => (congrArg Int32.toInt (fp_ne (Or.inl (by decide)))).trans (h.1 i hi), (fp_ne (Or.inl (by decide))).trans h.2.1, fun w' hw' j hj => ?_, h.2.2.2.1, h.2.2.2.2.1, h.b⟩
  show _ = ups s.tl (12 * w + k) true (12 * w' + j)
  by_cases c : w' = w
  · subst c
    rw [fp_eq, xbit_bt (by omega), bt_or, bt_sh (by omega), ← xbit_bt (by omega), h.tl hw' hj]
    by_cases d : k = j
    · subst d
      rw [ups_eq, decide_eq_true rfl, Bool.or_true]
    · rw [ups_ne (by omega), decide_eq_false d, Bool.or_false]
  · rw [fp_ne (Or.inr c), ups_ne (by omega)]
    exact h.tl hw' hj
