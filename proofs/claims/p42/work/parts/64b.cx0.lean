/-! ===== the fresh heap: both sides over nothing ===== -/
def S00 : Sh := (fun _ => 0, fun _ => 0, fun _ => 0, fun _ => 0, fun _ => 0, fun _ => 0, fun _ => 0, 0, 0, 0)
def T00 : St := (0, 0, 0, 10, fun _ => 0, fun _ => 0, fun _ => 0, fun _ => 0, fun _ => 0)
def D00 : DD := (T00, fun _ => 0, S00, 0, fun _ => S00, fun _ => none)
theorem inv00 : INV T00 S00 := ⟨fun k _ => by show 0 ≤ (0 : Int32).toInt ∧ (0 : Int32).toInt ≤ 999; decide, fun k _ => by show 0 ≤ (0 : Int32).toInt ∧ (0 : Int32).toInt + (0 : Int32).toInt ≤ 250 + 290 * ((0 : Nat) : Int); decide, fun k h => absurd h (Nat.not_lt_zero k), fun k h => absurd h (Nat.not_lt_zero k), fun k _ => by show 0 ≤ (0 : Int32).toInt ∧ (0 : Int32).toInt ≤ 40 * ((0 : Nat) : Int); decide, by decide⟩
theorem dok00 : DOK D00 := ⟨⟨by decide, by decide, fun k _ => by show 0 ≤ (0 : Int32).toInt ∧ (0 : Int32).toInt ≤ 250; decide⟩, inv00, fun j h => absurd h (Nat.not_lt_zero j), fun k x e => by cases e⟩
theorem tw00 : TW T00 := ⟨by decide, by decide, by decide, fun i h => absurd h (Nat.not_lt_zero i), fun i j h => absurd h (Nat.not_lt_zero i)⟩
set_option maxRecDepth 100000 in
set_option maxHeartbeats 4000000 in
theorem gw00 : GW (fl H0) := by
  intro y my
  unfold wires at my
  simp only [List.mem_cons, List.not_mem_nil, or_false] at my
  repeat' (rcases my with my | my)
  all_goals rfl
theorem o7_00 {p : Nat} (h : p = 12 ∨ p = 45) : O7 (fl H0) p := fun j hj => by
  rcases h with rfl | rfl
  · exact (o7w gw00).1 j hj
  · exact (o7w gw00).2.2.1 j hj
theorem tr00 : TR (fl H0) 45 T00 := ⟨o7_00 (Or.inr rfl), tw00, rfl, rfl, rfl, rfl, fun j _ => rfl, fun j h => absurd h (Nat.not_lt_zero j), fun j h => absurd h (Nat.not_lt_zero j), fun j h => absurd h (Nat.not_lt_zero j), fun j h => absurd h (Nat.not_lt_zero j)⟩
theorem shr00 : SHR (fl H0) 12 0 S00 := ⟨o7_00 (Or.inl rfl), by decide, fun j _ => rfl, fun j _ => rfl, fun j _ => rfl, fun j _ => rfl, fun j h => absurd h (Nat.not_lt_zero j), fun j h => absurd h (Nat.not_lt_zero j), fun j _ => rfl, rfl, rfl, rfl⟩
theorem hst00 : HST (fl H0) 0 0 (fun _ => S00) := ⟨0, fun _ => 0, ⟨Nat.zero_le _, fun j h => absurd h (Nat.not_lt_zero j), fun j _ _ => rfl, fun i j h => absurd h (Nat.not_lt_zero i)⟩, Nat.le_refl _, rfl, fun j h => absurd h (Nat.not_lt_zero j)⟩
theorem cr00 : CR (fl H0) D00 := ⟨gw00, Nat.le_refl _, ⟨45, 53, Or.inl ⟨rfl, rfl⟩, rfl, rfl, tr00, fun g h => absurd h (Nat.not_lt_zero g), fun g h => absurd h (Nat.not_lt_zero g)⟩, ⟨61, 65, Or.inl ⟨rfl, rfl⟩, rfl, rfl⟩, shr00, hst00, fun _ => 0, fun k _ => (show (fl H0).2.1 41 k = .null from rfl), fun h => by cases h⟩
theorem x71_00 {k : Nat} (h : k ≠ 2) : (fl H0).1 71 k = 0 := by
  show upd (fun _ => 0) 2 10 k = 0
  unfold upd
  simp [h]
theorem xt00 : XT (fl H0) T00 := ⟨tw00, x71_00 (by decide), x71_00 (by decide), rfl, x71_00 (by decide), fun j _ => x71_00 (by omega), fun j _ => x71_00 (by omega), fun j _ => x71_00 (by omega), fun j _ => x71_00 (by omega), fun j h => absurd h (Nat.not_lt_zero j), fun j h => absurd h (Nat.not_lt_zero j), fun j h => absurd h (Nat.not_lt_zero j), fun j h => absurd h (Nat.not_lt_zero j)⟩
theorem xs00 : XS (fl H0) 0 S00 := ⟨by decide, x71_00 (by decide), x71_00 (by decide), x71_00 (by decide), (x71_00 (by decide)).trans (by decide), fun j _ => x71_00 (by omega), fun j _ => x71_00 (by omega), fun j _ => x71_00 (by omega), fun j _ => x71_00 (by omega), fun k h => absurd h (Nat.not_lt_zero k), fun k h => absurd h (Nat.not_lt_zero k), fun k h => absurd h (Nat.not_lt_zero k), fun k j h => absurd h (Nat.not_lt_zero k)⟩
set_option maxRecDepth 100000 in
theorem rwf00 : RWF (fl H0) := fun j hj => match j, hj with
  | 0, _ => by decide
  | 1, _ => by decide
  | 2, _ => by decide
  | 3, _ => by decide
  | 4, _ => by decide
  | 5, _ => by decide
  | 6, _ => by decide
  | 7, _ => by decide
  | 8, _ => by decide
  | 9, _ => by decide
  | 10, _ => by decide
  | 11, _ => by decide
  | 12, _ => by decide
  | 13, _ => by decide
  | 14, _ => by decide
  | 15, _ => by decide
  | 16, _ => by decide
  | 17, _ => by decide
  | 18, _ => by decide
  | 19, _ => by decide
  | 20, _ => by decide
  | 21, _ => by decide
  | 22, _ => by decide
  | 23, _ => by decide
  | 24, _ => by decide
  | j + 25, h => absurd h (by omega)
theorem xr00 : XR (fl H0) D00 := ⟨gw00, xt00, xs00, ⟨rfl, by decide, fun j h => absurd h (Nat.not_lt_zero j)⟩, ⟨fun g h => absurd h (Nat.not_lt_zero g), fun g h => absurd h (Nat.not_lt_zero g)⟩, rwf00, fun k _ => (show (fl H0).1 86 k = 0 from rfl)⟩
theorem cx00 : ∃ D : DD, DOK D ∧ CR (fl H0) D ∧ XR (fl H0) D := ⟨D00, dok00, cr00, xr00⟩
