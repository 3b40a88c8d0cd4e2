theorem SRF.eqv {F : FW} {s : PS} {i w : Nat} (h : SRF F s) (hi : i < 120) (hw : w < 1000) : F.1 72 i = Int32.ofNat w ↔ s.h i = (w : Int) := by
  rw [k_eq (h.h hi), i_toInt (by omega)]
theorem mt_0 {D M X : Bool} (h : b2i (!(D || M)) = 0) : 0 = b2i (!(D || (M || X))) := by
  cases D <;> cases M <;> cases X <;> first | rfl | exact absurd h (by decide)
theorem mt_1 {D M X : Bool} (h : ¬ b2i (!(D || M)) = 0) (x : X = false) : 1 = b2i (!(D || (M || X))) := by
  subst x
  cases D <;> cases M <;> first | rfl | exact absurd rfl h
theorem mt_x {D M X : Bool} (x : X = true) : 0 = b2i (!(D || (M || X))) := by
  subst x
  cases D <;> cases M <;> rfl
theorem mt_y {D M : Bool} (h : b2i (!(D || M)) = 0) : D = true ∨ M = true := by
  cases D <;> cases M <;> first | exact Or.inl rfl | exact Or.inr rfl | exact absurd h (by decide)
theorem mt_n {D M : Bool} (h : ¬ b2i (!(D || M)) = 0) : D = false ∧ M = false := by
  cases D <;> cases M <;> first | exact ⟨rfl, rfl⟩ | exact absurd rfl h
theorem lnMiss_y {T : Nat → TT} {s : PS} {m q w1 w2 i : Nat} (h20 : ¬ 20 ≤ s.h 3) (hm : s.h 1 = (m : Int)) (hq : s.h 3 = (q : Int)) (l1 : ∀ k : Int → LR, lold T s 6 (m : Int) (i + 1) k = k (w1 : Int)) (l2 : ∀ k : Int → LR, lold T s 6 (m : Int) (i + 2) k = k (w2 : Int)) (hM : ¬ ((w1 : Int) = (w2 : Int) ∨ mtold s.h (w1 : Int) (w2 : Int) q = true)) (ep : tnN (T (i + 3)) 0 60 = 0) :
    lnMiss T s i = LR.ok (ups (ups (ups (ups s.h (60 + q) (w1 : Int)) (80 + q) (w2 : Int)) (100 + q) (T (i + 3)).v) 3 (ups (ups (ups s.h (60 + q) (w1 : Int)) (80 + q) (w2 : Int)) (100 + q) (T (i + 3)).v 3 + 1), s.2) (i + 4) := by
  unfold lnMiss
  rw [if_neg h20, hm]
  refine (l1 _).trans ((l2 _).trans ?_)
  rw [show (s.h 3).toNat = q by omega, if_neg hM, lnum_y ep, ups_ne (show 3 ≠ 100 + q by omega), ups_ne (show 3 ≠ 80 + q by omega), ups_ne (show 3 ≠ 60 + q by omega)]
  rfl
theorem lnMiss_t {T : Nat → TT} {s : PS} {m q w1 w2 i : Nat} (h20 : ¬ 20 ≤ s.h 3) (hm : s.h 1 = (m : Int)) (hq : s.h 3 = (q : Int)) (l1 : ∀ k : Int → LR, lold T s 6 (m : Int) (i + 1) k = k (w1 : Int)) (l2 : ∀ k : Int → LR, lold T s 6 (m : Int) (i + 2) k = k (w2 : Int)) (hM : (w1 : Int) = (w2 : Int) ∨ mtold s.h (w1 : Int) (w2 : Int) q = true) : lnMiss T s i = LR.bad 3 (i + 2) := by
  unfold lnMiss
  rw [if_neg h20, hm]
  refine (l1 _).trans ((l2 _).trans ?_)
  rw [show (s.h 3).toNat = q by omega, if_pos hM]
theorem lnMiss_n {T : Nat → TT} {s : PS} {m q w1 w2 i : Nat} (h20 : ¬ 20 ≤ s.h 3) (hm : s.h 1 = (m : Int)) (hq : s.h 3 = (q : Int)) (l1 : ∀ k : Int → LR, lold T s 6 (m : Int) (i + 1) k = k (w1 : Int)) (l2 : ∀ k : Int → LR, lold T s 6 (m : Int) (i + 2) k = k (w2 : Int)) (hM : ¬ ((w1 : Int) = (w2 : Int) ∨ mtold s.h (w1 : Int) (w2 : Int) q = true)) (ep : ¬ tnN (T (i + 3)) 0 60 = 0) : lnMiss T s i = LR.bad (tnN (T (i + 3)) 0 60).toInt (i + 3) := by
  unfold lnMiss
  rw [if_neg h20, hm]
  refine (l1 _).trans ((l2 _).trans ?_)
  rw [show (s.h 3).toNat = q by omega, if_neg hM]
  exact lnum_n ep
