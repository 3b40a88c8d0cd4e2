theorem f_attempt {F : FW} {p m k n d : Nat} {S : Sh} (hS : SHR F p m S) (hk : k < 12) (hn : n < 1000) (hd : d < 3) : Pm Z_X6_attempt [.ref p, .int (Int32.ofNat d), .int (Int32.ofNat k), .int (Int32.ofNat n)] F (fun r F' => r = some (.int (m_why d S k (Int32.ofNat n))) ∧ FX (fun q => p ≤ q ∧ q ≤ p + 7) F F' ∧ SHR F' p m (m_try d S k (Int32.ofNat n))) :=
  match d, hd with
  | 0, _ => f_attempt0 hS hk hn
  | 1, _ => f_attempt1 hS hk hn
  | 2, _ => f_attempt2 hS hk hn
  | d + 3, h => absurd h (by omega)
