/-! ===== what is taken back; prices that were found ===== -/
theorem f_takeBack {F : FW} {n mm : Nat} {S : Sh} {H : Nat → Sh} (hG : GW F) (hH : HST F mm n H) (hS : SHR F 12 mm S) (hmm : mm ≤ 8) : Pm Z_X2_takeBack [.ref 10, .ref 12] F (fun r F' => r = some (.int (if n = 0 then -1 else Int32.ofNat (n - 1))) ∧ HST F' mm (n - 1) H ∧ SHR F' 12 mm (if n = 0 then S else H (n - 1)) ∧ FX (fun q => (12 ≤ q ∧ q ≤ 19) ∨ q = 10) F F') := by
  obtain ⟨c, s, hW, hc, hn, hj⟩ := hH
  exact f_takeBack0 hG hW hc hn hj hS hmm
def a_price (p : Nat) (f : Nat → Int32) (x y : Int32) : Int32 := match nd p x with
  | none => -1
  | some g => match nd 2 y with
    | none => -1
    | some s => f (2 * g + s)
theorem a_price_n1 {p : Nat} {f : Nat → Int32} {x y : Int32} (h : nd p x = none) : a_price p f x y = -1 := by
  unfold a_price
  rw [h]
theorem a_price_n2 {p : Nat} {f : Nat → Int32} {x y : Int32} (h : nd 2 y = none) : a_price p f x y = -1 := by
  unfold a_price
  cases e : nd p x with
  | none => rfl
  | some g =>
    dsimp only
    rw [h]
/-- of what was told; e: how many bytes are fed -/
def a_count (T : St) (e : Int32) (w : Int32) : Int32 := match nd 5 w with
  | none => -1
  | some k => match k with
    | 0 => Int32.ofNat (t_g T)
    | 1 => Int32.ofNat (t_m T)
    | 2 => t_l T
    | 3 => Int32.ofNat (t_n T)
    | _ => e
