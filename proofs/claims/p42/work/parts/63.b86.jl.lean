def jn (n : Nat) (q : Option Nat) : Nat := match q with
  | none => n
  | some k => k
def jc (T : St) (L : LN) (S : Sh) (q : Option Nat) : Int32 := match q with
  | none => 0
  | some k => jw (jr T L S k) (L k)
