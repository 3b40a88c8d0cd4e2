def ups {α : Type} (f : Nat → α) (i : Nat) (x : α) : Nat → α := fun j => if j = i then x else f j
theorem ups_eq {α : Type} {f : Nat → α} {i : Nat} {x : α} : ups f i x i = x := if_pos rfl
theorem ups_ne {α : Type} {f : Nat → α} {i j : Nat} {x : α} (h : j ≠ i) : ups f i x j = f j := if_neg h
def PS.nm (s : PS) : Nat → Int := s.2.1
def PS.ld (s : PS) : Bool := s.2.2.1
def PS.tl (s : PS) : Nat → Bool := s.2.2.2
abbrev LR.ok (s : PS) (i : Nat) : LR := Sum.inl (s, i)
def fndf (nm : Nat → Int) (o : Nat) (v : Int) : Nat → Nat → Int
  | 0, _ => -1
  | f + 1, k => if nm (o + k) = v then (k : Int) else fndf nm o v f (k + 1)
def fnd (nm : Nat → Int) (o : Nat) (n v : Int) : Int := fndf nm o v n.toNat 0
def lnum (T : Nat → TT) (j : Nat) (lo hi : Int) (k : Int → LR) : LR := if (T j).k ≠ 3 then LR.bad 1 j else if (T j).v < lo ∨ hi < (T j).v then LR.bad 2 j else k (T j).v
def lnLoad (T : Nat → TT) (s : PS) (i : Nat) : LR := if s.ld = true then LR.bad 3 i else lnum T (i + 1) 1 40 fun v => LR.ok (ups s.h 2 v, s.nm, true, s.tl) (i + 2)
def lnew (T : Nat → TT) (s : PS) (j : Nat) (k : Int → LR) : LR := if (T j).k ≠ 2 then LR.bad 1 j else if 0 ≤ fnd s.nm 0 (s.h 0) (T j).v ∨ 0 ≤ fnd s.nm 6 (s.h 1) (T j).v then LR.bad 3 j else k (T j).v
def lnGood (T : Nat → TT) (s : PS) (i : Nat) : LR := if 6 ≤ s.h 0 then LR.bad 4 i else lnew T s (i + 1) fun v => LR.ok (ups s.h 0 (s.h 0 + 1), ups s.nm (s.h 0).toNat v, s.ld, s.tl) (i + 2)
def lnMan (T : Nat → TT) (s : PS) (i : Nat) : LR := if 8 ≤ s.h 1 then LR.bad 4 i else lnew T s (i + 1) fun v => lnum T (i + 2) 0 1 fun d => LR.ok (ups (ups s.h (52 + (s.h 1).toNat) d) 1 (s.h 1 + 1), ups s.nm (6 + (s.h 1).toNat) v, s.ld, s.tl) (i + 3)
def lold (T : Nat → TT) (s : PS) (o : Nat) (n : Int) (j : Nat) (k : Int → LR) : LR := if (T j).k ≠ 2 then LR.bad 1 j else if fnd s.nm o n (T j).v < 0 then LR.bad 3 j else k (fnd s.nm o n (T j).v)
def mtold (h : Nat → Int) (m o : Int) : Nat → Bool
  | 0 => false
  | k + 1 => mtold h m o k || (decide (h (60 + k) = m) && decide (h (80 + k) = o))
def lnMiss (T : Nat → TT) (s : PS) (i : Nat) : LR := if 20 ≤ s.h 3 then LR.bad 4 i else lold T s 6 (s.h 1) (i + 1) fun m => lold T s 6 (s.h 1) (i + 2) fun q => if m = q ∨ mtold s.h m q (s.h 3).toNat = true then LR.bad 3 (i + 2) else lnum T (i + 3) 0 60 fun d => LR.ok (ups (ups (ups (ups s.h (60 + (s.h 3).toNat) m) (80 + (s.h 3).toNat) q) (100 + (s.h 3).toNat) d) 3 (s.h 3 + 1), s.nm, s.ld, s.tl) (i + 4)
def lnAmt (T : Nat → TT) (s : PS) (i so : Nat) : LR := lold T s 0 (s.h 0) (i + 1) fun g => lnum T (i + 2) 0 1 fun d => if s.tl (12 * so + (2 * g + d).toNat) = true then LR.bad 3 (i + 2) else lnum T (i + 3) 0 (if so = 2 ∨ so = 3 then 20 else 250) fun a => LR.ok (ups s.h (4 + (12 * so + (2 * g + d).toNat)) a, s.nm, s.ld, ups s.tl (12 * so + (2 * g + d).toNat) true) (i + 4)
def lnx (T : Nat → TT) (s : PS) (i : Nat) : LR := if (T i).k = 64 then lnLoad T s i else if (T i).k = 65 then lnGood T s i else if (T i).k = 70 then lnMan T s i else if (T i).k = 71 then lnMiss T s i else if 66 ≤ (T i).k ∧ (T i).k ≤ 69 then lnAmt T s i ((T i).k - 66).toNat else LR.bad 1 i
def lnj (T : Nat → TT) (x : LR) : Option (PS × Nat) := match x with
  | .inr _ => none
  | .inl (s', j) => if (T j).k = 59 then some (s', j + 1) else none
def nxt (T : Nat → TT) (x : Option (PS × Nat)) : Option (PS × Nat) := match x with
  | none => none
  | some (s, i) => if (T i).k = 0 then none else lnj T (lnx T s i)
def lns (T : Nat → TT) : Nat → Option (PS × Nat)
  | 0 => some (s0, 0)
  | n + 1 => nxt T (lns T n)
def stj (T : Nat → TT) (x : LR) : Option (Int × Int) := match x with
  | .inr (f, j) => some (-1 - (T j).pl, f)
  | .inl (_, j) => if (T j).k = 59 then none else some (-1 - (T j).pl, 1)
def stp (T : Nat → TT) (n : Nat) (s : PS) (i : Nat) : Option (Int × Int) := if (T i).k = 0 then some ((n : Int), 0) else stj T (lnx T s i)
def ANS (T : Nat → TT) (a f : Int) (s : PS) : Prop := ∃ n i, lns T n = some (s, i) ∧ stp T n s i = some (a, f)
