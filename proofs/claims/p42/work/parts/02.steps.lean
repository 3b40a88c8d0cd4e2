/-! ===== the steps, and that the machine does them ===== -/
def ab_nx (j : Nat) (f : ab_S → Option ab_S) : ab_A := fun s => match f s with
  | some t => some (.inl (j, t))
  | none => none
def ab_lit (v : Value) : ab_S → Option ab_S := fun s => some (s.1, v :: s.2.1, s.2.2)
def ab_iload (i : Nat) : ab_S → Option ab_S := fun s => match s.1[i]? with
  | some (some (.int x)) => some (s.1, .int x :: s.2.1, s.2.2)
  | _ => none
def ab_lload (i : Nat) : ab_S → Option ab_S := fun s => match s.1[i]? with
  | some (some (.long x)) => some (s.1, .long x :: s.2.1, s.2.2)
  | _ => none
def ab_aload (i : Nat) : ab_S → Option ab_S := fun s => match s.1[i]? with
  | some (some (.ref x)) => some (s.1, .ref x :: s.2.1, s.2.2)
  | some (some (.retAddr x)) => some (s.1, .retAddr x :: s.2.1, s.2.2)
  | some (some .null) => some (s.1, .null :: s.2.1, s.2.2)
  | _ => none
def ab_istore (i : Nat) : ab_S → Option ab_S := fun s => match s.2.1 with
  | .int x :: st => cond (ab_fr s.1 i) (some (s.1.set i (some (.int x)), st, s.2.2)) none
  | _ => none
def ab_lstore (i : Nat) : ab_S → Option ab_S := fun s => match s.2.1 with
  | .long x :: st => cond (ab_fr s.1 i) (some ((s.1.set i (some (.long x))).set (i + 1) none, st, s.2.2)) none
  | _ => none
def ab_astore (i : Nat) : ab_S → Option ab_S := fun s => match s.2.1 with
  | .ref x :: st => cond (ab_fr s.1 i) (some (s.1.set i (some (.ref x)), st, s.2.2)) none
  | .null :: st => cond (ab_fr s.1 i) (some (s.1.set i (some .null), st, s.2.2)) none
  | _ => none
def ab_iinc (i : Nat) (n : Int32) : ab_S → Option ab_S := fun s => match s.1[i]? with
  | some (some (.int x)) => cond (ab_fr s.1 i) (some (s.1.set i (some (.int (x + n))), s.2.1, s.2.2)) none
  | _ => none
def ab_bin (g : Int32 → Int32 → Int32) : ab_S → Option ab_S := fun s => match s.2.1 with
  | .int y :: .int x :: st => some (s.1, .int (g x y) :: st, s.2.2)
  | _ => none
def ab_irem : ab_S → Option ab_S := fun s => match s.2.1 with
  | .int y :: .int x :: st => cond (decide (y = 0)) none (some (s.1, .int (x - x / y * y) :: st, s.2.2))
  | _ => none
def ab_un (g : Int32 → Int32) : ab_S → Option ab_S := fun s => match s.2.1 with
  | .int x :: st => some (s.1, .int (g x) :: st, s.2.2)
  | _ => none
def ab_lbin (g : Int64 → Int64 → Int64) : ab_S → Option ab_S := fun s => match s.2.1 with
  | .long y :: .long x :: st => some (s.1, .long (g x y) :: st, s.2.2)
  | _ => none
def ab_lsh (g : Int64 → Int32 → Int64) : ab_S → Option ab_S := fun s => match s.2.1 with
  | .int y :: .long x :: st => some (s.1, .long (g x y) :: st, s.2.2)
  | _ => none
def ab_lcmp : ab_S → Option ab_S := fun s => match s.2.1 with
  | .long y :: .long x :: st => some (s.1, .int (lg_cmp x y) :: st, s.2.2)
  | _ => none
def ab_i2l : ab_S → Option ab_S := fun s => match s.2.1 with
  | .int x :: st => some (s.1, .long x.toInt64 :: st, s.2.2)
  | _ => none
def ab_l2i : ab_S → Option ab_S := fun s => match s.2.1 with
  | .long x :: st => some (s.1, .int x.toInt32 :: st, s.2.2)
  | _ => none
def ab_c1 : Value → Bool
  | .long _ => false
  | .double _ => false
  | _ => true
def ab_dup : ab_S → Option ab_S := fun s => match s.2.1 with
  | v :: st => cond (ab_c1 v) (some (s.1, v :: v :: st, s.2.2)) none
  | _ => none
def ab_dup2 : ab_S → Option ab_S := fun s => match s.2.1 with
  | v :: w :: st => cond (ab_c1 v && ab_c1 w) (some (s.1, v :: w :: v :: w :: st, s.2.2)) none
  | _ => none
def ab_pop : ab_S → Option ab_S := fun s => match s.2.1 with
  | v :: st => cond (ab_c1 v) (some (s.1, st, s.2.2)) none
  | _ => none
def ab_if (j t : Nat) (g : Int32 → Bool) : ab_A := fun s => match s.2.1 with
  | .int x :: st => some (.inl (cond (g x) t j, s.1, st, s.2.2))
  | _ => none
def ab_icmp (j t : Nat) (g : Int32 → Int32 → Bool) : ab_A := fun s => match s.2.1 with
  | .int y :: .int x :: st => some (.inl (cond (g x y) t j, s.1, st, s.2.2))
  | _ => none
def ab_nonnull (j t : Nat) : ab_A := fun s => match s.2.1 with
  | .ref _ :: st => some (.inl (t, s.1, st, s.2.2))
  | .null :: st => some (.inl (j, s.1, st, s.2.2))
  | _ => none
def ab_goto (t : Nat) : ab_A := fun s => some (.inl (t, s))
def ab_getf (ci k : Nat) : ab_S → Option ab_S := fun s => match s.2.1 with
  | .ref a :: st => cond (decide (a < s.2.2.2.1)) (match s.2.2.2.2 a with
    | .inr o => cond (o.1 == ci) (match o.2[k]? with
      | some v => some (s.1, v :: st, s.2.2)
      | none => none) none
    | _ => none) none
  | _ => none
/-- may a value lie in a field: 0 int, 1 long, 2 a reference, 3 boolean -/
def ab_fit (kd : Nat) (v : Value) : Bool := match v with
  | .int x => cond (kd == 0) true (cond (kd == 3) (decide (x = 0) || decide (x = 1)) false)
  | .long _ => kd == 1
  | .ref _ => kd == 2
  | .null => kd == 2
  | _ => false
def ab_putf (ci k kd : Nat) : ab_S → Option ab_S := fun s => match s.2.1 with
  | v :: .ref a :: st => cond (decide (a < s.2.2.2.1) && ab_fit kd v) (match s.2.2.2.2 a with
    | .inr o => cond (o.1 == ci && decide (k < o.2.length)) (some (s.1, st, s.2.2.1, ab_up s.2.2.2 a (.inr (ci, o.2.set k v)))) none
    | _ => none) none
  | _ => none
def ab_in (i : Int32) (n : Nat) : Bool := !(decide (i < 0)) && decide (i.toNatClampNeg < n)
/-- an element of an array of ints, bytes or booleans (the kind t: 0 byte, 1 int, 2 long, 3 boolean, 4 and on references) -/
def ab_ald (t : Nat) : ab_S → Option ab_S := fun s => match s.2.1 with
  | .int i :: .ref a :: st => cond (decide (a < s.2.2.2.1)) (match s.2.2.2.2 a with
    | .inl (t2, n, .inl f) => cond (t2 == t && ab_in i n) (some (s.1, .int (f i.toNatClampNeg) :: st, s.2.2)) none
    | _ => none) none
  | _ => none
def ab_lald : ab_S → Option ab_S := fun s => match s.2.1 with
  | .int i :: .ref a :: st => cond (decide (a < s.2.2.2.1)) (match s.2.2.2.2 a with
    | .inl (t2, n, .inr (.inl f)) => cond (t2 == 2 && ab_in i n) (some (s.1, .long (f i.toNatClampNeg) :: st, s.2.2)) none
    | _ => none) none
  | _ => none
def ab_rf (r : Option Nat) : Value := match r with
  | some a => .ref a
  | none => .null
def ab_aald (t : Nat) : ab_S → Option ab_S := fun s => match s.2.1 with
  | .int i :: .ref a :: st => cond (decide (a < s.2.2.2.1)) (match s.2.2.2.2 a with
    | .inl (t2, n, .inr (.inr (.inr (.inr f)))) => cond (t2 == t && ab_in i n) (some (s.1, ab_rf (f i.toNatClampNeg) :: st, s.2.2)) none
    | _ => none) none
  | _ => none
def ab_nar (t : Nat) (x : Int32) : Int32 := match t with
  | 0 => vp_nar .byte x
  | 3 => vp_nar .boolean x
  | _ => x
def ab_ast (t : Nat) : ab_S → Option ab_S := fun s => match s.2.1 with
  | .int x :: .int i :: .ref a :: st => cond (decide (a < s.2.2.2.1)) (match s.2.2.2.2 a with
    | .inl (t2, n, .inl f) => cond (t2 == t && ab_in i n) (some (s.1, st, s.2.2.1, ab_up s.2.2.2 a (.inl (t, n, .inl (upd f i.toNatClampNeg (ab_nar t x)))))) none
    | _ => none) none
  | _ => none
def ab_last : ab_S → Option ab_S := fun s => match s.2.1 with
  | .long x :: .int i :: .ref a :: st => cond (decide (a < s.2.2.2.1)) (match s.2.2.2.2 a with
    | .inl (t2, n, .inr (.inl f)) => cond (t2 == 2 && ab_in i n) (some (s.1, st, s.2.2.1, ab_up s.2.2.2 a (.inl (2, n, .inr (.inl (vp_updL f i.toNatClampNeg x)))))) none
    | _ => none) none
  | _ => none
/-- a reference into an array of references whose class is the ci-th -/
def ab_aast (t ci : Nat) : ab_S → Option ab_S := fun s => match s.2.1 with
  | .ref v :: .int i :: .ref a :: st => cond (decide (a < s.2.2.2.1) && decide (v < s.2.2.2.1)) (match s.2.2.2.2 a with
    | .inl (t2, n, .inr (.inr (.inr (.inr f)))) => cond (t2 == t && ab_in i n && (match s.2.2.2.2 v with
      | .inr o => o.1 == ci
      | _ => false)) (some (s.1, st, s.2.2.1, ab_up s.2.2.2 a (.inl (t, n, .inr (.inr (.inr (.inr (va_up f i.toNatClampNeg (some v))))))))) none
    | _ => none) none
  | .null :: .int i :: .ref a :: st => cond (decide (a < s.2.2.2.1)) (match s.2.2.2.2 a with
    | .inl (t2, n, .inr (.inr (.inr (.inr f)))) => cond (t2 == t && ab_in i n) (some (s.1, st, s.2.2.1, ab_up s.2.2.2 a (.inl (t, n, .inr (.inr (.inr (.inr (va_up f i.toNatClampNeg none)))))))) none
    | _ => none) none
  | _ => none
def ab_alen : ab_S → Option ab_S := fun s => match s.2.1 with
  | .ref a :: st => cond (decide (a < s.2.2.2.1)) (match s.2.2.2.2 a with
    | .inl x => cond (decide (x.1 < 6)) (some (s.1, .int (Int32.ofNat x.2.1) :: st, s.2.2)) none
    | _ => none) none
  | _ => none
/-- new array of the kind t (its blank a0 by the length), MC and MS the method's room -/
def ab_newa (t : Nat) (a0 : Nat → vp_A) (MC MS : Nat) : ab_S → Option ab_S := fun s => match s.2.1 with
  | .int n :: st => cond (!(decide (n < 0)) && decide (n.toNatClampNeg ≤ 1000000) && decide (s.2.2.1.1 + 1 ≤ MC) && decide (s.2.2.1.2 + n.toNatClampNeg ≤ MS))
      (some (s.1, .ref s.2.2.2.1 :: st, (s.2.2.1.1 + 1, s.2.2.1.2 + n.toNatClampNeg), ab_push s.2.2.2 (.inl (t, a0 n.toNatClampNeg)))) none
  | _ => none
def ab_new (ci N : Nat) (fs : List Value) (MC MS : Nat) : ab_S → Option ab_S := fun s =>
  cond (decide (s.2.2.1.1 + 1 ≤ MC) && decide (s.2.2.1.2 + N ≤ MS)) (some (s.1, .ref s.2.2.2.1 :: s.2.1, (s.2.2.1.1 + 1, s.2.2.1.2 + N), ab_push s.2.2.2 (.inr (ci, fs)))) none
def ab_cats (st : List Value) : Nat := (st.map fun v => v.category).sum
/-- Object.<init> -/
def ab_obj : ab_S → Option ab_S := fun s => match s.2.1 with
  | .ref _ :: st => cond (decide (ab_cats st ≤ 8)) (some (s.1, st, s.2.2)) none
  | _ => none
/-- a call of X with nA values, the receiver (of class ci) among them where there is one -/
def ab_call (nA : Nat) (X : List Value → ab_H → Option ab_O) (mc ms MC MS : Nat) : ab_S → Option ab_S := fun s =>
  cond (decide (nA ≤ s.2.1.length) && decide (ab_cats (s.2.1.drop nA) ≤ 8) && decide (s.2.2.1.1 + mc ≤ MC) && decide (s.2.2.1.2 + ms ≤ MS))
    (match X (s.2.1.take nA).reverse s.2.2.2 with
    | some o => some (s.1, o.1.toList ++ s.2.1.drop nA, (s.2.2.1.1 + mc, s.2.2.1.2 + ms), o.2)
    | none => none) none
def ab_rcv (ci : Nat) (as : List Value) (hp : ab_H) : Bool := match as with
  | .ref a :: _ => decide (a < hp.1) && (match hp.2 a with
    | .inr o => o.1 == ci
    | _ => false)
  | _ => false
def ab_callV (nA ci : Nat) (X : List Value → ab_H → Option ab_O) (mc ms MC MS : Nat) : ab_S → Option ab_S := fun s =>
  cond (ab_rcv ci (s.2.1.take nA).reverse s.2.2.2) (ab_call nA X mc ms MC MS s) none
def ab_ret (MC MS : Nat) : ab_A := fun s => match s.2.1 with
  | [.int x] => cond (decide (s.2.2.1.1 ≤ MC) && decide (s.2.2.1.2 ≤ MS)) (some (.inr (some (.int x), s.2.2.2))) none
  | _ => none
def ab_zret (MC MS : Nat) : ab_A := fun s => match s.2.1 with
  | [.int x] => cond (decide (s.2.2.1.1 ≤ MC) && decide (s.2.2.1.2 ≤ MS) && (decide (x = 0) || decide (x = 1))) (some (.inr (some (.int x), s.2.2.2))) none
  | _ => none
def ab_vret (MC MS : Nat) : ab_A := fun s => match s.2.1 with
  | [] => cond (decide (s.2.2.1.1 ≤ MC) && decide (s.2.2.1.2 ≤ MS)) (some (.inr (none, s.2.2.2))) none
  | _ => none
def ab_max (x y : Int32) : Int32 := if x < y then y else x
def ab_min (x y : Int32) : Int32 := if y < x then y else x
/-- Math.max, Math.min: two ints -/
def ab_mm (g : Int32 → Int32 → Int32) (MC MS : Nat) : ab_S → Option ab_S := fun s => match s.2.1 with
  | .int y :: .int x :: st => cond (decide (ab_cats st ≤ 8) && decide (s.2.2.1.1 ≤ MC) && decide (s.2.2.1.2 ≤ MS)) (some (s.1, .int (g x y) :: st, s.2.2)) none
  | _ => none
/-- System.arraycopy between two arrays of ints (kind 1) or of longs (kind 2), not one and the same -/
def ab_copy : ab_S → Option ab_S := fun s => match s.2.1 with
  | .int n :: .int dp :: .ref a :: .int sp :: .ref a0 :: st =>
    cond (decide (a < s.2.2.2.1) && decide (a0 < s.2.2.2.1) && decide (ab_cats st ≤ 8) && !(decide (sp < 0)) && !(decide (dp < 0)) && !(decide (n < 0)) && decide (s.2.2.1.1 = 0))
      (match s.2.2.2.2 a0, s.2.2.2.2 a with
      | .inl (1, n0, .inl f), .inl (1, n1, .inl g) => cond (decide (sp.toNatClampNeg + n.toNatClampNeg ≤ n0) && decide (dp.toNatClampNeg + n.toNatClampNeg ≤ n1))
          (some (s.1, st, s.2.2.1, ab_up s.2.2.2 a (.inl (1, n1, .inl (va_cpy f g sp.toNatClampNeg dp.toNatClampNeg n.toNatClampNeg))))) none
      | .inl (2, n0, .inr (.inl f)), .inl (2, n1, .inr (.inl g)) => cond (decide (sp.toNatClampNeg + n.toNatClampNeg ≤ n0) && decide (dp.toNatClampNeg + n.toNatClampNeg ≤ n1))
          (some (s.1, st, s.2.2.1, ab_up s.2.2.2 a (.inl (2, n1, .inr (.inl (va_cpy f g sp.toNatClampNeg dp.toNatClampNeg n.toNatClampNeg)))))) none
      | _, _ => none) none
  | _ => none
/-- a table's jump -/
def ab_tab (lo : Int) (ts : List Nat) (dflt : Nat) : ab_A := fun s => match s.2.1 with
  | .int x :: st => some (.inl (cond (decide (x.toInt < lo)) dflt ((ts[(x.toInt - lo).toNat]?).getD dflt), s.1, st, s.2.2))
  | _ => none
