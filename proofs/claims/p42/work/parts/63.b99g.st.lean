theorem lnum_k {T : Nat → TT} {j : Nat} {lo hi : Int} {k : Int → LR} (h : ¬ (T j).k = 3) : lnum T j lo hi k = LR.bad 1 j := by
  unfold lnum
  rw [if_pos h]
theorem lnum_r {T : Nat → TT} {j : Nat} {lo hi : Int} {k : Int → LR} (h3 : (T j).k = 3) (h : (T j).v < lo ∨ hi < (T j).v) : lnum T j lo hi k = LR.bad 2 j := by
  unfold lnum
  rw [if_neg (fun e => e h3), if_pos h]
theorem lnum_v {T : Nat → TT} {j : Nat} {lo hi : Int} {k : Int → LR} {d : Nat} (h3 : (T j).k = 3) (hd : (T j).v = (d : Int)) (h : lo ≤ (d : Int) ∧ (d : Int) ≤ hi) : lnum T j lo hi k = k (d : Int) := by
  unfold lnum
  rw [if_neg (fun e => e h3), if_neg (by omega), hd]
theorem lnAmt_k {T : Nat → TT} {s : PS} {i so g w : Nat} (hg : s.h 0 = (g : Int)) (l1 : ∀ k : Int → LR, lold T s 0 (g : Int) (i + 1) k = k (w : Int)) (h : ¬ (T (i + 2)).k = 3) : lnAmt T s i so = LR.bad 1 (i + 2) := by
  unfold lnAmt
  rw [hg]
  exact (l1 _).trans (lnum_k h)
theorem lnAmt_r {T : Nat → TT} {s : PS} {i so g w : Nat} (hg : s.h 0 = (g : Int)) (l1 : ∀ k : Int → LR, lold T s 0 (g : Int) (i + 1) k = k (w : Int)) (h3 : (T (i + 2)).k = 3) (h : 1 < (T (i + 2)).v) : lnAmt T s i so = LR.bad 2 (i + 2) := by
  unfold lnAmt
  rw [hg]
  exact (l1 _).trans (lnum_r h3 (Or.inr h))
theorem lnAmt_t {T : Nat → TT} {s : PS} {i so g w d : Nat} (hg : s.h 0 = (g : Int)) (l1 : ∀ k : Int → LR, lold T s 0 (g : Int) (i + 1) k = k (w : Int)) (h3 : (T (i + 2)).k = 3) (hd : (T (i + 2)).v = (d : Int)) (d1 : d ≤ 1) (h : s.tl (12 * so + (2 * w + d)) = true) : lnAmt T s i so = LR.bad 3 (i + 2) := by
  unfold lnAmt
  rw [hg]
  refine (l1 _).trans ((lnum_v h3 hd (by omega)).trans ?_)
  rw [if_pos]
  rw [show (2 * (w : Int) + (d : Int)).toNat = 2 * w + d by omega]
  exact h
theorem lnAmt_p {T : Nat → TT} {s : PS} {i so g w d k : Nat} {b : Int} (hg : s.h 0 = (g : Int)) (l1 : ∀ k : Int → LR, lold T s 0 (g : Int) (i + 1) k = k (w : Int)) (h3 : (T (i + 2)).k = 3) (hd : (T (i + 2)).v = (d : Int)) (d1 : d ≤ 1) (h : ¬ s.tl (12 * so + (2 * w + d)) = true) (hb : (if so = 2 ∨ so = 3 then (20 : Int) else 250) = b) (hk : k = 4 + (12 * so + (2 * w + d))) : lnAmt T s i so = lnum T (i + 3) 0 b fun v => LR.ok (ups s.h k v, s.nm, s.ld, ups s.tl (12 * so + (2 * w + d)) true) (i + 4) := by
  unfold lnAmt
  rw [hg]
  refine (l1 _).trans ((lnum_v h3 hd (by omega)).trans ?_)
  have e : (2 * (w : Int) + (d : Int)).toNat = 2 * w + d := by omega
  rw [e, if_neg h, hb, hk]
theorem lnx_l {T : Nat → TT} {s : PS} {i : Nat} (h : (T i).k = 64) : lnx T s i = lnLoad T s i := if_pos h
theorem lnx_g {T : Nat → TT} {s : PS} {i : Nat} (h : (T i).k = 65) : lnx T s i = lnGood T s i := by
  unfold lnx
  rw [if_neg (by omega), if_pos h]
theorem lnx_m {T : Nat → TT} {s : PS} {i : Nat} (h : (T i).k = 70) : lnx T s i = lnMan T s i := by
  unfold lnx
  rw [if_neg (by omega), if_neg (by omega), if_pos h]
theorem lnx_s {T : Nat → TT} {s : PS} {i : Nat} (h : (T i).k = 71) : lnx T s i = lnMiss T s i := by
  unfold lnx
  rw [if_neg (by omega), if_neg (by omega), if_neg (by omega), if_pos h]
theorem lnx_a {T : Nat → TT} {s : PS} {i so : Nat} (h : (T i).k = 66 + (so : Int)) (h4 : so < 4) : lnx T s i = lnAmt T s i so := by
  unfold lnx
  rw [if_neg (by omega), if_neg (by omega), if_neg (by omega), if_neg (by omega), if_pos (by omega), show ((T i).k - 66).toNat = so by omega]
theorem lnx_n {T : Nat → TT} {s : PS} {i : Nat} (h : (T i).k < 64 ∨ 71 < (T i).k) : lnx T s i = LR.bad 1 i := by
  unfold lnx
  rw [if_neg (by omega), if_neg (by omega), if_neg (by omega), if_neg (by omega), if_neg (by omega)]
theorem LRQ.i {F G : FW} {B : Nat → Int} {n lim : Nat} {r : Option Value} {x : LR} (h : LRQ F G B n lim r x) : ∃ z, r = some (.int z) := by
  obtain ⟨-, h⟩ := h
  cases x with
  | inl y => exact ⟨1, h.1⟩
  | inr y => exact ⟨0, h.1⟩
