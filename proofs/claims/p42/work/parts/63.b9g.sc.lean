theorem fsc_k {s : PS} {X : TT} (h : fsc s X = 0) : X.k = 2 := by
  unfold fsc at h
  by_cases c : X.k = 2
  · exact c
  · rw [if_neg c] at h
    exact absurd h (by decide)
theorem SCF.eq5 {F : FW} {r k w : Nat} {s : PS} (h : SCF F r s) (hk : (k : Int) < s.h 3) (hw : w < 1000) : F.1 (r + 5) k = Int32.ofNat w ↔ s.h (60 + k) = (w : Int) := by
  rw [k_eq (h.ms hk).1, i_toInt (by omega)]
theorem SCF.eq6 {F : FW} {r k w : Nat} {s : PS} (h : SCF F r s) (hk : (k : Int) < s.h 3) (hw : w < 1000) : F.1 (r + 6) k = Int32.ofNat w ↔ s.h (80 + k) = (w : Int) := by
  rw [k_eq (h.ms hk).2.1, i_toInt (by omega)]
theorem mtold_up {h : Nat → Int} {m o : Int} {k : Nat} (e : mtold h m o k = true) : ∀ d, mtold h m o (k + d) = true
  | 0 => e
  | d + 1 => by
    show (mtold h m o (k + d) || _) = true
    rw [mtold_up e d]
    rfl
theorem mtold_y {h : Nat → Int} {m o : Int} {k q : Nat} (hk : k < q) (e1 : h (60 + k) = m) (e2 : h (80 + k) = o) : mtold h m o q = true := by
  have e : mtold h m o (k + 1) = true := by
    show (mtold h m o k || (decide (h (60 + k) = m) && decide (h (80 + k) = o))) = true
    rw [decide_eq_true e1, decide_eq_true e2]
    cases mtold h m o k <;> rfl
  have := mtold_up e (q - (k + 1))
  rwa [show k + 1 + (q - (k + 1)) = q by omega] at this
theorem mtold_s {h : Nat → Int} {m o : Int} {k : Nat} (hb : mtold h m o k = false) (e : ¬ (h (60 + k) = m ∧ h (80 + k) = o)) : mtold h m o (k + 1) = false := by
  show (mtold h m o k || (decide (h (60 + k) = m) && decide (h (80 + k) = o))) = false
  rw [hb]
  by_cases c : h (60 + k) = m
  · by_cases d : h (80 + k) = o
    · exact absurd ⟨c, d⟩ e
    · rw [decide_eq_false d, Bool.and_false]
      rfl
  · rw [decide_eq_false c]
    rfl
theorem lnMan_z {T : Nat → TT} {s : PS} {m i : Nat} (h8 : ¬ 8 ≤ s.h 1) (hm : s.h 1 = (m : Int)) (ez : fsc s (T (i + 1)) = 0) (ep : tnN (T (i + 2)) 0 1 = 0) : lnMan T s i = LR.ok (ups (ups s.h (52 + m) (T (i + 2)).v) 1 (s.h 1 + 1), ups s.nm (6 + m) (T (i + 1)).v, s.ld, s.tl) (i + 3) := by
  have e := lnMan_y h8 hm ez ep
  rw [ups_ne (show 1 ≠ 52 + m by omega)] at e
  exact e
theorem lnMiss_z {T : Nat → TT} {s : PS} {m q w1 w2 i : Nat} (h20 : ¬ 20 ≤ s.h 3) (hm : s.h 1 = (m : Int)) (hq : s.h 3 = (q : Int)) (l1 : ∀ k : Int → LR, lold T s 6 (m : Int) (i + 1) k = k (w1 : Int)) (l2 : ∀ k : Int → LR, lold T s 6 (m : Int) (i + 2) k = k (w2 : Int)) (hM : ¬ ((w1 : Int) = (w2 : Int) ∨ mtold s.h (w1 : Int) (w2 : Int) q = true)) (ep : tnN (T (i + 3)) 0 60 = 0) :
    lnMiss T s i = LR.ok (ups (ups (ups (ups s.h (60 + q) (w1 : Int)) (80 + q) (w2 : Int)) (100 + q) (T (i + 3)).v) 3 (s.h 3 + 1), s.2) (i + 4) := by
  have e := lnMiss_y h20 hm hq l1 l2 hM ep
  rw [ups_ne (show 3 ≠ 100 + q by omega), ups_ne (show 3 ≠ 80 + q by omega), ups_ne (show 3 ≠ 60 + q by omega)] at e
  exact e
theorem kd66 {a : Int32} {k : Int} {so : Nat} (h : a.toInt = k) (e : k = 66 + (so : Int)) (h4 : so < 4) : a - 66 = Int32.ofNat so := by
  have h1 : a = Int32.ofNat (66 + so) := by
    have := i_ofv h (by omega)
    rw [this, show k.toNat = 66 + so by omega]
  rw [h1]
  have z : ∀ so, so < 4 → Int32.ofNat (66 + so) - 66 = Int32.ofNat so := by decide
  exact z so h4
theorem tab8 {x : Int} (h : x < 64 ∨ 71 < x) : cond (decide (x < 64)) 104 ((([80, 86, 104, 104, 104, 104, 92, 98] : List Nat)[(x - 64).toNat]?).getD 104) = 104 := by
  rcases h with h | h
  · rw [decide_eq_true h]
    rfl
  · rw [decide_eq_false (by omega)]
    show (([80, 86, 104, 104, 104, 104, 92, 98] : List Nat)[(x - 64).toNat]?).getD 104 = 104
    rw [List.getElem?_eq_none_iff.mpr (by show 8 ≤ _; omega)]
    rfl
/-- a line that stands goes on -/
def BJ (i : Nat) (x : LR) : Prop := ∀ s j, x = LR.ok s j → i < j
theorem BJ.b {i j : Nat} {f : Int} : BJ i (LR.bad f j) := fun s' j' e => by cases e
theorem BJ.o {i j : Nat} {s : PS} (h : i < j) : BJ i (LR.ok s j) := fun s' j' e => by
  have e2 := Sum.inl.inj e
  rw [← (Prod.mk.inj e2).2]
  exact h
theorem BJ.num {T : Nat → TT} {i j : Nat} {lo hi : Int} {k : Int → LR} (h : ∀ v, BJ i (k v)) : BJ i (lnum T j lo hi k) := by
  unfold lnum
  split
  · exact BJ.b
  · split
    · exact BJ.b
    · exact h _
theorem BJ.old {T : Nat → TT} {s : PS} {i o j : Nat} {n : Int} {k : Int → LR} (h : ∀ v, BJ i (k v)) : BJ i (lold T s o n j k) := by
  unfold lold
  split
  · exact BJ.b
  · split
    · exact BJ.b
    · exact h _
theorem BJ.new {T : Nat → TT} {s : PS} {i j : Nat} {k : Int → LR} (h : ∀ v, BJ i (k v)) : BJ i (lnew T s j k) := by
  unfold lnew
  split
  · exact BJ.b
  · split
    · exact BJ.b
    · exact h _
theorem BJ.x {T : Nat → TT} {s : PS} {i : Nat} : BJ i (lnx T s i) := by
  unfold lnx
  split
  · unfold lnLoad
    split
    · exact BJ.b
    · exact BJ.num fun _ => BJ.o (by omega)
  · split
    · unfold lnGood
      split
      · exact BJ.b
      · exact BJ.new fun _ => BJ.o (by omega)
    · split
      · unfold lnMan
        split
        · exact BJ.b
        · exact BJ.new fun _ => BJ.num fun _ => BJ.o (by omega)
      · split
        · unfold lnMiss
          split
          · exact BJ.b
          · refine BJ.old fun _ => BJ.old fun _ => ?_
            split
            · exact BJ.b
            · exact BJ.num fun _ => BJ.o (by omega)
        · split
          · unfold lnAmt
            refine BJ.old fun _ => BJ.num fun _ => ?_
            split
            · exact BJ.b
            · exact BJ.num fun _ => BJ.o (by omega)
          · exact BJ.b
