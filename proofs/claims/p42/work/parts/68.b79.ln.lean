/-! ===== a line, whatever it is ===== -/
theorem kd72 {a : Int32} {k : Int} (h : a.toInt = k) (h1 : 72 ≤ k) (h2 : k ≤ 74) : a - 72 = Int32.ofNat (k - 72).toNat := by
  have e : (72 : Int32).toInt = 72 := rfl
  refine i_ofv (v := k - 72) ?_ (by omega)
  rw [i_subI (by omega) (by omega), h, e]
theorem mn_y {q : Option Nat} (h : ¬ oN q = -1) : ∃ w, q = some w ∧ oN q = Int32.ofNat w := by
  cases q with
  | none => exact absurd rfl h
  | some w => exact ⟨w, rfl, rfl⟩
/-- the lines that stand -/
def LNS (F : FW) (L : LN) (n : Nat) : Prop := ∀ l, l < n → F.1 37 l = Int32.ofNat (L l).1 ∧ F.1 38 l = Int32.ofNat (L l).2.1 ∧ F.1 39 l = Int32.ofNat (L l).2.2
theorem LNS.z {F : FW} {L : LN} : LNS F L 0 := fun _ h => absurd h (Nat.not_lt_zero _)
theorem LNS.k {c : Nat} {F G : FW} {L : LN} (h : LNS F L c) (x : LCX c F G) : LNS G L c := fun l hl => ⟨(x.2.2.2 l hl).1.trans (h l hl).1, (x.2.2.2 l hl).2.1.trans (h l hl).2.1, (x.2.2.2 l hl).2.2.trans (h l hl).2.2⟩
theorem LNS.s {c d w n : Nat} {G : FW} {L : LN} (h : LNS G L c) (x : LIN G c d w n) : LNS G (upn L c (d, w, n)) (c + 1) := fun l hl => by
  unfold upn
  by_cases e : l = c
  · rw [if_pos e, e]
    exact x.2
  · rw [if_neg e]
    exact h l (by omega)
/-- what reading a whole text changes -/
def TXX (F G : FW) : Prop := FX (fun q => q = 3 ∨ (36 ≤ q ∧ q ≤ 39)) F G ∧ ∀ k, k ≠ 3 → G.1 36 k = F.1 36 k
theorem LCX.tx {c : Nat} {F G : FW} (h : LCX c F G) : TXX F G := ⟨h.1, h.2.2.1⟩
/-- what is read at the end -/
def LGR (G : FW) (T : Nat → TT) (nm : Nat → Int) (tg tm : Nat) : Prop := ∃ n L c j, LGA T nm tg tm n L c j ∧ G.1 36 3 = Int32.ofNat n ∧ LNS G L n ∧ n ≤ 40 ∧ G.1 3 9 = c ∧ CURF G (T j)
