/-! ===== a line, whatever it is ===== -/
theorem kd72 {a : Int32} {k : Int} (h : a.toInt = k) (h1 : 72 ≤ k) (h2 : k ≤ 74) : a - 72 = Int32.ofNat (k - 72).toNat := by
  have e : (72 : Int32).toInt = 72 := rfl
  refine i_ofv (v := k - 72) ?_ (by omega)
  rw [i_subI (by omega) (by omega), h, e]
theorem mn_y {q : Option Nat} (h : ¬ oN q = -1) : ∃ w, q = some w ∧ oN q = Int32.ofNat w := by
  cases q with
  | none => exact absurd rfl h
  | some w => exact ⟨w, rfl, rfl⟩
/-- the lines that stand -/
def LNS (F : FW) (L : LN) (n : Nat) : Prop := ∀ l, l < n → F.1 37 l = Int32.ofNat (L l).1 ∧ F.1 38 l = Int32.ofNat (L l).2.1 ∧ F.1 39 l = Int32.ofNat (L l).2.2
theorem LNS.z {F : FW} {L : LN} : LNS F L 0 := fun _ h => absurd h (Nat.not_lt_zero _)
theorem LNS.k {c : Nat} {F G : FW} {L : LN} (h : LNS F L c) (x : LCX c F G) : LNS G L c := fun l hl => ⟨(x.2.2.2 l hl).1.trans (h l hl).1, (x.2.2.2 l hl).2.1.trans (h l hl).2.1, (x.2.2.2 l hl).2.2.trans (h l hl).2.2⟩
theorem LNS.s {c d w n : Nat} {G : FW} {L : LN} (h : LNS G L c) (x : LIN G c d w n) : LNS G (upn L c (d, w, n)) (c + 1) := fun l hl => by
  unfold upn
  by_cases e : l = c
  · rw [if_pos e, e]
    exact x.2
  · rw [if_neg e]
    exact h l (by omega)
/-- what reading a whole text changes -/
def TXX (F G : FW) : Prop := FX (fun q => q = 3 ∨ (36 ≤ q ∧ q ≤ 39)) F G ∧ ∀ k, k ≠ 3 → G.1 36 k = F.1 36 k
theorem LCX.tx {c : Nat} {F G : FW} (h : LCX c F G) : TXX F G := ⟨h.1, h.2.2.1⟩
theorem TXX.rf {F : FW} : TXX F F := ⟨FX.rf, fun _ _ => rfl⟩
theorem TXX.tr {F G H : FW} (a : TXX F G) (b : TXX G H) : TXX F H := ⟨a.1.tr b.1, fun k h => (b.2 k h).trans (a.2 k h)⟩
/-- what is read at the end -/
def LGR (G : FW) (T : Nat → TT) (nm : Nat → Int) (tg tm : Nat) : Prop := ∃ n L c j, LGA T nm tg tm n L c j ∧ (c = 0 → G.1 36 3 = Int32.ofNat n ∧ LNS G L n) ∧ n ≤ 40 ∧ G.1 3 9 = c ∧ CURF G (T j)
theorem LGR.mk {G : FW} {T : Nat → TT} {nm : Nat → Int} {tg tm n i j : Nat} {L : LN} {c : Int32} (h1 : lgs T nm tg tm n = some (L, i)) (h2 : lge T nm tg tm n i = some (c, j)) (h3 : c = 0 → G.1 36 3 = Int32.ofNat n ∧ LNS G L n) (h4 : n ≤ 40) (h5 : G.1 3 9 = c) (h6 : CURF G (T j)) : LGR G T nm tg tm := ⟨n, L, c, j, ⟨i, h1, h2⟩, h3, h4, h5, h6⟩
theorem ll_b0 {x : LL} (h : ll_b x = 0) : ∃ c j, x = ll_n c j := by
  cases x with
  | inl y => exact absurd h (show ¬ (1 : Int32) = 0 by decide)
  | inr z => exact ⟨z.1, z.2, rfl⟩
theorem ll_b1 {x : LL} (h : ¬ ll_b x = 0) : ∃ d w n j, x = ll_y d w n j := by
  cases x with
  | inl y => exact ⟨y.1, y.2.1, y.2.2.1, y.2.2.2, rfl⟩
  | inr z => exact absurd rfl h
theorem tnS_1 {X : TT} {x : Int} (h : ¬ tnS X x = 0) : tnS X x = 1 := by
  unfold tnS at h ⊢
  split
  · rename_i c
    rw [if_pos c] at h
    exact absurd rfl h
  · rfl
theorem ll_nz {T : Nat → TT} {nm : Nat → Int} {tg tm c i j : Nat} {q : Int32} (e : ll T nm tg tm c i = ll_n q j) : ¬ q = 0 := by
  unfold ll ll_deed ll_days ll_death ll_num at e
  repeat' split at e
  all_goals cases e
  all_goals first | decide | assumption
theorem RCX_tk36 {F : FW} {T : Nat → TT} {m k : Nat} {v : Int32} (t : TKF F T m) : TKF (fp F 36 k v) T m := by
  refine ⟨t.1, t.2.1, (fp_ne (Or.inl (by decide))).trans t.2.2.1, fun j hj => ?_, t.2.2.2.2⟩
  rw [fp_ne (Or.inl (by decide)), fp_ne (Or.inl (by decide))]
  exact t.2.2.2.1 j hj
