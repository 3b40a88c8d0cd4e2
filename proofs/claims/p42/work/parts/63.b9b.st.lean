theorem lns_y {T : Nat → TT} {l i j : Nat} {s s' : PS} (h : lns T l = some (s, i)) (h0 : (T i).k ≠ 0) (e : lnx T s i = LR.ok s' j) (k : (T j).k = 59) : lns T (l + 1) = some (s', j + 1) := by
  show nxt T (lns T l) = _
  rw [h]
  show (if (T i).k = 0 then none else lnj T (lnx T s i)) = _
  rw [if_neg h0, e]
  show (if (T j).k = 59 then some (s', j + 1) else none) = _
  rw [if_pos k]
theorem stp_0 {T : Nat → TT} {l i : Nat} {s : PS} (h : (T i).k = 0) : stp T l s i = some ((l : Int), 0) := if_pos h
theorem stp_b {T : Nat → TT} {l i j : Nat} {s : PS} {f : Int} (h0 : (T i).k ≠ 0) (e : lnx T s i = LR.bad f j) : stp T l s i = some (-1 - (T j).pl, f) := by
  unfold stp
  rw [if_neg h0, e]
  rfl
theorem stp_s {T : Nat → TT} {l i j : Nat} {s s' : PS} (h0 : (T i).k ≠ 0) (e : lnx T s i = LR.ok s' j) (k : ¬ (T j).k = 59) : stp T l s i = some (-1 - (T j).pl, 1) := by
  unfold stp
  rw [if_neg h0, e]
  show (if (T j).k = 59 then none else some (-1 - (T j).pl, (1 : Int))) = _
  rw [if_neg k]
/-- what is wrong is told by a number that isn't 0 -/
def BZ (x : LR) : Prop := ∀ f j, x = LR.bad f j → f ≠ 0
theorem BZ.b {f : Int} {j : Nat} (h : f ≠ 0) : BZ (LR.bad f j) := fun f' j' e => by
  have e2 := Sum.inr.inj e
  rw [← (Prod.mk.inj e2).1]
  exact h
theorem BZ.o {s : PS} {j : Nat} : BZ (LR.ok s j) := fun f' j' e => by cases e
theorem BZ.num {T : Nat → TT} {j : Nat} {lo hi : Int} {k : Int → LR} (h : ∀ v, BZ (k v)) : BZ (lnum T j lo hi k) := by
  unfold lnum
  split
  · exact BZ.b (by decide)
  · split
    · exact BZ.b (by decide)
    · exact h _
theorem BZ.old {T : Nat → TT} {s : PS} {o j : Nat} {n : Int} {k : Int → LR} (h : ∀ v, BZ (k v)) : BZ (lold T s o n j k) := by
  unfold lold
  split
  · exact BZ.b (by decide)
  · split
    · exact BZ.b (by decide)
    · exact h _
theorem BZ.new {T : Nat → TT} {s : PS} {j : Nat} {k : Int → LR} (h : ∀ v, BZ (k v)) : BZ (lnew T s j k) := by
  unfold lnew
  split
  · exact BZ.b (by decide)
  · split
    · exact BZ.b (by decide)
    · exact h _
theorem BZ.x {T : Nat → TT} {s : PS} {i : Nat} : BZ (lnx T s i) := by
  unfold lnx
  split
  · unfold lnLoad
    split
    · exact BZ.b (by decide)
    · exact BZ.num fun _ => BZ.o
  · split
    · unfold lnGood
      split
      · exact BZ.b (by decide)
      · exact BZ.new fun _ => BZ.o
    · split
      · unfold lnMan
        split
        · exact BZ.b (by decide)
        · exact BZ.new fun _ => BZ.num fun _ => BZ.o
      · split
        · unfold lnMiss
          split
          · exact BZ.b (by decide)
          · refine BZ.old fun _ => BZ.old fun _ => ?_
            split
            · exact BZ.b (by decide)
            · exact BZ.num fun _ => BZ.o
        · split
          · unfold lnAmt
            refine BZ.old fun _ => BZ.num fun _ => ?_
            split
            · exact BZ.b (by decide)
            · exact BZ.num fun _ => BZ.o
          · exact BZ.b (by decide)
theorem LRQ.y {F G : FW} {B : Nat → Int} {n lim : Nat} {z : Int32} {x : LR} (h : LRQ F G B n lim (some (.int z)) x) (hz : ¬ z = 0) : ∃ s j, x = LR.ok s j ∧ RSX F G ∧ RTK G B n lim j ∧ G.1 69 15 = F.1 69 15 ∧ SRF G s := by
  obtain ⟨h0, h⟩ := h
  cases x with
  | inl y => exact ⟨y.1, y.2, rfl, h0, h.2⟩
  | inr y => exact absurd (Value.int.inj (Option.some.inj h.1)) hz
theorem LRQ.n {F G : FW} {B : Nat → Int} {n lim : Nat} {z : Int32} {x : LR} (h : LRQ F G B n lim (some (.int z)) x) (hz : z = 0) : ∃ f j, x = LR.bad f j ∧ RSX F G ∧ (G.1 69 15).toInt = f ∧ (G.1 69 16).toInt = (tok B n lim j).pl := by
  obtain ⟨h0, h⟩ := h
  cases x with
  | inl y =>
    have e := Value.int.inj (Option.some.inj h.1)
    rw [hz] at e
    exact absurd e (by decide)
  | inr y => exact ⟨y.1, y.2, rfl, h0, h.2⟩
/-- what reading a Strait may have changed -/
def SFX (F G : FW) : Prop := FX (fun q => q = 69 ∨ q = 72 ∨ q = 74 ∨ q = 76) F G ∧ (∀ k, k ≠ 0 → k ≠ 2 → k ≠ 3 → k ≠ 4 → k ≠ 5 → k ≠ 11 → k ≠ 12 → k ≠ 13 → k ≠ 14 → k ≠ 15 → k ≠ 16 → k ≠ 18 → k ≠ 19 → k ≠ 20 → G.1 69 k = F.1 69 k) ∧ (∀ k, k ≠ 17 → G.2.2.1 69 k = F.2.2.1 69 k) ∧ ∀ k, k < 14 → G.2.2.1 74 k = F.2.2.1 74 k
theorem SFX.rf {F : FW} : SFX F F := ⟨FX.rf, fun _ _ _ _ _ _ _ _ _ _ _ _ _ _ _ => rfl, fun _ _ => rfl, fun _ _ => rfl⟩
theorem SFX.fp {F G : FW} {k : Nat} {v : Int32} (h : SFX F G) (c : k = 0 ∨ k = 2 ∨ k = 3 ∨ k = 4 ∨ k = 5 ∨ k = 15 ∨ k = 19 ∨ k = 20) : SFX F (fp G 69 k v) := ⟨h.1.fp (Or.inl rfl), fun j a0 a1 a2 a3 a4 a5 a6 a7 a8 a9 b0 b1 b2 b3 => (fp_ne (Or.inr (by omega))).trans (h.2.1 j a0 a1 a2 a3 a4 a5 a6 a7 a8 a9 b0 b1 b2 b3), h.2.2⟩
theorem SFX.ox {F G K : FW} (h : SFX F G) (x : FX (fun q => q = 72 ∨ q = 76) G K) : SFX F K := ⟨h.1.tr (x.wd fun q c => c.elim (fun e => Or.inr (Or.inl e)) (fun e => Or.inr (Or.inr (Or.inr e)))), fun j a0 a1 a2 a3 a4 a5 a6 a7 a8 a9 b0 b1 b2 b3 => (x.1 69 j (by decide)).trans (h.2.1 j a0 a1 a2 a3 a4 a5 a6 a7 a8 a9 b0 b1 b2 b3), fun k c => (x.2.1 69 k (by decide)).trans (h.2.2.1 k c), fun k c => (x.2.1 74 k (by decide)).trans (h.2.2.2 k c)⟩
theorem SFX.sx {F G K : FW} (h : SFX F G) (x : RSX G K) : SFX F K := ⟨h.1.tr x.1, fun j a0 a1 a2 a3 a4 a5 a6 a7 a8 a9 b0 b1 b2 b3 => (x.2.1 j a3 a5 a6 a7 a8 a9 b0 b1 b3).trans (h.2.1 j a0 a1 a2 a3 a4 a5 a6 a7 a8 a9 b0 b1 b2 b3), fun k c => (x.2.2.1 k c).trans (h.2.2.1 k c), fun k c => (x.2.2.2 k c).trans (h.2.2.2 k c)⟩
theorem SFX.G {F G : FW} (h : SFX F G) (g : GW F) : GW G := g.fx h.1
theorem SFX.W {F G : FW} (h : SFX F G) (r : RWF F) : RWF G := fun j hj => (congrArg Int64.toInt (h.1.2.1 75 j (by decide))).trans (r j hj)
theorem SRF.s0 {F : FW} (h72 : ∀ j, j < 120 → F.1 72 j = if j = 2 then 10 else 0) (h20 : F.1 69 20 = 0) (h76 : ∀ j, j < 4 → F.1 76 j = 0) : SRF F s0 := by
  refine ⟨fun i hi => ?_, h20, fun w hw k hk => ?_, fun g hg => ?_, fun g hg => ?_, show (0 : Int) ≤ 0 ∧ (0 : Int) ≤ 6 ∧ (0 : Int) ≤ 0 ∧ (0 : Int) ≤ 8 ∧ (0 : Int) ≤ 0 ∧ (0 : Int) ≤ 20 by decide⟩
  · rw [h72 i hi]
    show _ = (if i = 2 then (10 : Int) else 0)
    by_cases c : i = 2
    · rw [if_pos c, if_pos c]
      rfl
    · rw [if_neg c, if_neg c]
      rfl
  · rw [h76 w hw, xbit_bt (by omega), bt_0]
    rfl
  · exact absurd (show (g : Int) < 0 from hg) (by omega)
  · exact absurd (show (g : Int) < 0 from hg) (by omega)
def STW (F F' : FW) (tn : Nat) (r : Option Value) : Prop := ∃ K, SFX F K ∧ K.1 69 2 = 0 ∧ ∃ l i s, lns (tok (RBF F tn) tn 900) l = some (s, i) ∧
  ((stp (tok (RBF F tn) tn 900) l s i = some ((l : Int), 0) ∧ r = some (.int (Int32.ofNat l)) ∧ SRF K s ∧ K.1 69 15 = 0 ∧ STE K F') ∨
  (∃ f v, stp (tok (RBF F tn) tn 900) l s i = some (-1 - Int32.toInt v, f) ∧ f ≠ 0 ∧ r = some (.int (-1 - v)) ∧ (K.1 69 15).toInt = f ∧ F' = K))
theorem cell2 {C : FW} {j : Nat} (h : C.1 72 j = 0) : (fp C 72 2 10).1 72 j = if j = 2 then 10 else 0 := by
  by_cases c : j = 2
  · rw [if_pos c, c]
    exact fp_eq
  · rw [if_neg c]
    exact (fp_ne (Or.inr c)).trans h
theorem tnS_n {X : TT} {x : Int} (h : ¬ tnS X x = 0) : ¬ X.k = x := fun e => h (if_pos e)
