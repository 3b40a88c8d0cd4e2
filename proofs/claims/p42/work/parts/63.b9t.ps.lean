/-! ===== what a text of a Strait can say ===== -/
def PSK (s : PS) : Prop := PSB s ∧ (0 ≤ s.h 2 ∧ s.h 2 ≤ 40) ∧ (∀ k : Nat, k < 48 → 0 ≤ s.h (4 + k) ∧ s.h (4 + k) ≤ 250) ∧ (∀ m : Nat, (m : Int) < s.h 1 → s.h (52 + m) = 0 ∨ s.h (52 + m) = 1) ∧ (∀ i : Nat, (i : Int) < s.h 3 → (0 ≤ s.h (60 + i) ∧ s.h (60 + i) < s.h 1) ∧ 0 ≤ s.h (80 + i) ∧ s.h (80 + i) < s.h 1) ∧ ∀ i j : Nat, (i : Int) < s.h 3 → (j : Int) < s.h 3 → s.h (60 + i) = s.h (60 + j) → s.h (80 + i) = s.h (80 + j) → i = j
def PK (x : LR) : Prop := ∀ s j, x = LR.ok s j → PSK s
theorem PK.b {j : Nat} {f : Int} : PK (LR.bad f j) := fun s' j' e => by cases e
theorem PK.o {j : Nat} {s : PS} (h : PSK s) : PK (LR.ok s j) := fun s' j' e => by
  have e2 := Sum.inl.inj e
  rw [← (Prod.mk.inj e2).1]
  exact h
theorem PK.num {T : Nat → TT} {j : Nat} {lo hi : Int} {k : Int → LR} (h : ∀ v, lo ≤ v → v ≤ hi → PK (k v)) : PK (lnum T j lo hi k) := by
  unfold lnum
  split
  · exact PK.b
  · split
    · exact PK.b
    · next c => exact h _ (by omega) (by omega)
theorem PK.new {T : Nat → TT} {s : PS} {j : Nat} {k : Int → LR} (h : ∀ v, PK (k v)) : PK (lnew T s j k) := by
  unfold lnew
  split
  · exact PK.b
  · split
    · exact PK.b
    · exact h _
theorem fndf_b {nm : Nat → Int} {o : Nat} {v : Int} : ∀ {f k : Nat}, fndf nm o v f k = -1 ∨ ((k : Int) ≤ fndf nm o v f k ∧ fndf nm o v f k < (k : Int) + f)
  | 0, _ => Or.inl rfl
  | f + 1, k => by
    show (if nm (o + k) = v then (k : Int) else fndf nm o v f (k + 1)) = -1 ∨ _ ≤ (if nm (o + k) = v then (k : Int) else fndf nm o v f (k + 1)) ∧ (if nm (o + k) = v then (k : Int) else fndf nm o v f (k + 1)) < _
    by_cases c : nm (o + k) = v
    · rw [if_pos c]
      exact Or.inr ⟨by omega, by omega⟩
    · rw [if_neg c]
      rcases fndf_b (nm := nm) (o := o) (v := v) (f := f) (k := k + 1) with h | h
      · exact Or.inl h
      · exact Or.inr ⟨by omega, by omega⟩
theorem PK.old {T : Nat → TT} {s : PS} {o j : Nat} {n : Int} {k : Int → LR} (hn : 0 ≤ n) (h : ∀ v, 0 ≤ v → v < n → PK (k v)) : PK (lold T s o n j k) := by
  unfold lold
  split
  · exact PK.b
  · split
    · exact PK.b
    · next c =>
      have b := fndf_b (nm := s.nm) (o := o) (v := (T j).v) (f := n.toNat) (k := 0)
      have e : fnd s.nm o n (T j).v = fndf s.nm o (T j).v n.toNat 0 := rfl
      rw [← e] at b
      exact h _ (by omega) (by omega)
theorem PSK.load {s : PS} {v : Int} {nm : Nat → Int} {b : Bool} {tl : Nat → Bool} (h : PSK s) (h1 : 1 ≤ v) (h2 : v ≤ 40) : PSK (ups s.h 2 v, nm, b, tl) := by
  obtain ⟨H, hH⟩ : ∃ H, H = ups s.h 2 v := ⟨_, rfl⟩
  have e : ∀ j, j ≠ 2 → H j = s.h j := fun j hj => by rw [hH, ups_ne hj]
  have e2 : H 2 = v := by rw [hH, ups_eq]
  rw [← hH]
  obtain ⟨p0, p1, p2, p3, p4, p5⟩ := h
  unfold PSB at p0
  show (0 ≤ H 0 ∧ H 0 ≤ 6 ∧ 0 ≤ H 1 ∧ H 1 ≤ 8 ∧ 0 ≤ H 3 ∧ H 3 ≤ 20) ∧ (0 ≤ H 2 ∧ H 2 ≤ 40) ∧ (∀ k : Nat, k < 48 → 0 ≤ H (4 + k) ∧ H (4 + k) ≤ 250) ∧ (∀ m : Nat, (m : Int) < H 1 → H (52 + m) = 0 ∨ H (52 + m) = 1) ∧ (∀ i : Nat, (i : Int) < H 3 → (0 ≤ H (60 + i) ∧ H (60 + i) < H 1) ∧ 0 ≤ H (80 + i) ∧ H (80 + i) < H 1) ∧ ∀ i j : Nat, (i : Int) < H 3 → (j : Int) < H 3 → H (60 + i) = H (60 + j) → H (80 + i) = H (80 + j) → i = j
  rw [e 0 (by decide), e 1 (by decide), e 3 (by decide), e2]
  refine ⟨p0, by omega, fun k hk => ?_, fun m hm => ?_, fun i hi => ?_, fun i j hi hj c1 c2 => ?_⟩
  · rw [e _ (by omega)]
    exact p2 k hk
  · rw [e _ (by omega)]
    exact p3 m hm
  · rw [e _ (by omega), e _ (by omega)]
    exact p4 i hi
  · rw [e _ (by omega), e _ (by omega)] at c1 c2
    exact p5 i j hi hj c1 c2
theorem PSK.good {s : PS} {nm : Nat → Int} {b : Bool} {tl : Nat → Bool} (h : PSK s) (h6 : ¬ 6 ≤ s.h 0) : PSK (ups s.h 0 (s.h 0 + 1), nm, b, tl) := by
  obtain ⟨H, hH⟩ : ∃ H, H = ups s.h 0 (s.h 0 + 1) := ⟨_, rfl⟩
  have e : ∀ j, j ≠ 0 → H j = s.h j := fun j hj => by rw [hH, ups_ne hj]
  have e0 : H 0 = s.h 0 + 1 := by rw [hH, ups_eq]
  rw [← hH]
  obtain ⟨p0, p1, p2, p3, p4, p5⟩ := h
  unfold PSB at p0
  show (0 ≤ H 0 ∧ H 0 ≤ 6 ∧ 0 ≤ H 1 ∧ H 1 ≤ 8 ∧ 0 ≤ H 3 ∧ H 3 ≤ 20) ∧ (0 ≤ H 2 ∧ H 2 ≤ 40) ∧ (∀ k : Nat, k < 48 → 0 ≤ H (4 + k) ∧ H (4 + k) ≤ 250) ∧ (∀ m : Nat, (m : Int) < H 1 → H (52 + m) = 0 ∨ H (52 + m) = 1) ∧ (∀ i : Nat, (i : Int) < H 3 → (0 ≤ H (60 + i) ∧ H (60 + i) < H 1) ∧ 0 ≤ H (80 + i) ∧ H (80 + i) < H 1) ∧ ∀ i j : Nat, (i : Int) < H 3 → (j : Int) < H 3 → H (60 + i) = H (60 + j) → H (80 + i) = H (80 + j) → i = j
  rw [e0, e 1 (by decide), e 3 (by decide), e 2 (by decide)]
  refine ⟨by omega, p1, fun k hk => ?_, fun m hm => ?_, fun i hi => ?_, fun i j hi hj c1 c2 => ?_⟩
  · rw [e _ (by omega)]
    exact p2 k hk
  · rw [e _ (by omega)]
    exact p3 m hm
  · rw [e _ (by omega), e _ (by omega)]
    exact p4 i hi
  · rw [e _ (by omega), e _ (by omega)] at c1 c2
    exact p5 i j hi hj c1 c2
theorem PSK.man {s : PS} {d : Int} {nm : Nat → Int} {b : Bool} {tl : Nat → Bool} (h : PSK s) (h8 : ¬ 8 ≤ s.h 1) (d0 : 0 ≤ d) (d1 : d ≤ 1) : PSK (ups (ups s.h (52 + (s.h 1).toNat) d) 1 (s.h 1 + 1), nm, b, tl) := by
  obtain ⟨p0, p1, p2, p3, p4, p5⟩ := h
  unfold PSB at p0
  obtain ⟨m, hm⟩ : ∃ m : Nat, s.h 1 = (m : Int) := ⟨(s.h 1).toNat, by omega⟩
  obtain ⟨H, hH⟩ : ∃ H, H = ups (ups s.h (52 + (s.h 1).toNat) d) 1 (s.h 1 + 1) := ⟨_, rfl⟩
  have tm : (s.h 1).toNat = m := by omega
  rw [tm] at hH
  have e : ∀ j, j ≠ 1 → j ≠ 52 + m → H j = s.h j := fun j h1 h2 => by rw [hH, ups_ne h1, ups_ne h2]
  have e1 : H 1 = s.h 1 + 1 := by rw [hH, ups_eq]
  have ed : H (52 + m) = d := by rw [hH, ups_ne (by omega), ups_eq]
  rw [tm, ← hH]
  show (0 ≤ H 0 ∧ H 0 ≤ 6 ∧ 0 ≤ H 1 ∧ H 1 ≤ 8 ∧ 0 ≤ H 3 ∧ H 3 ≤ 20) ∧ (0 ≤ H 2 ∧ H 2 ≤ 40) ∧ (∀ k : Nat, k < 48 → 0 ≤ H (4 + k) ∧ H (4 + k) ≤ 250) ∧ (∀ m : Nat, (m : Int) < H 1 → H (52 + m) = 0 ∨ H (52 + m) = 1) ∧ (∀ i : Nat, (i : Int) < H 3 → (0 ≤ H (60 + i) ∧ H (60 + i) < H 1) ∧ 0 ≤ H (80 + i) ∧ H (80 + i) < H 1) ∧ ∀ i j : Nat, (i : Int) < H 3 → (j : Int) < H 3 → H (60 + i) = H (60 + j) → H (80 + i) = H (80 + j) → i = j
  rw [e1, e 0 (by decide) (by omega), e 3 (by decide) (by omega), e 2 (by decide) (by omega)]
  refine ⟨by omega, p1, fun k hk => ?_, fun k hk => ?_, fun i hi => ?_, fun i j hi hj c1 c2 => ?_⟩
  · rw [e _ (by omega) (by omega)]
    exact p2 k hk
  · by_cases c : k = m
    · rw [c, ed]
      omega
    · rw [e _ (by omega) (by omega)]
      exact p3 k (by omega)
  · rw [e _ (by omega) (by omega), e _ (by omega) (by omega)]
    have := p4 i hi
    omega
  · rw [e _ (by omega) (by omega), e _ (by omega) (by omega)] at c1 c2
    exact p5 i j hi hj c1 c2
theorem PSK.miss {s : PS} {m o d : Int} {x : (Nat → Int) × Bool × (Nat → Bool)} (h : PSK s) (h20 : ¬ 20 ≤ s.h 3) (m0 : 0 ≤ m) (m1 : m < s.h 1) (o0 : 0 ≤ o) (o1 : o < s.h 1) (ht : mtold s.h m o (s.h 3).toNat = false) : PSK (ups (ups (ups (ups s.h (60 + (s.h 3).toNat) m) (80 + (s.h 3).toNat) o) (100 + (s.h 3).toNat) d) 3 (s.h 3 + 1), x) := by
  obtain ⟨p0, p1, p2, p3, p4, p5⟩ := h
  unfold PSB at p0
  obtain ⟨q, hq⟩ : ∃ q : Nat, s.h 3 = (q : Int) := ⟨(s.h 3).toNat, by omega⟩
  have tq : (s.h 3).toNat = q := by omega
  rw [tq] at ht ⊢
  obtain ⟨H, hH⟩ : ∃ H, H = ups (ups (ups (ups s.h (60 + q) m) (80 + q) o) (100 + q) d) 3 (s.h 3 + 1) := ⟨_, rfl⟩
  have e : ∀ j, j ≠ 3 → j ≠ 60 + q → j ≠ 80 + q → j ≠ 100 + q → H j = s.h j := fun j h1 h2 h3 h4 => by rw [hH, ups_ne h1, ups_ne h4, ups_ne h3, ups_ne h2]
  have e3 : H 3 = s.h 3 + 1 := by rw [hH, ups_eq]
  have e6 : H (60 + q) = m := by rw [hH, ups_ne (by omega), ups_ne (by omega), ups_ne (by omega), ups_eq]
  have e8 : H (80 + q) = o := by rw [hH, ups_ne (by omega), ups_ne (by omega), ups_eq]
  have nt : ∀ i : Nat, i < q → ¬ (s.h (60 + i) = m ∧ s.h (80 + i) = o) := fun i hi c => by
    rw [mtold_y hi c.1 c.2] at ht
    cases ht
  rw [← hH]
  show (0 ≤ H 0 ∧ H 0 ≤ 6 ∧ 0 ≤ H 1 ∧ H 1 ≤ 8 ∧ 0 ≤ H 3 ∧ H 3 ≤ 20) ∧ (0 ≤ H 2 ∧ H 2 ≤ 40) ∧ (∀ k : Nat, k < 48 → 0 ≤ H (4 + k) ∧ H (4 + k) ≤ 250) ∧ (∀ m : Nat, (m : Int) < H 1 → H (52 + m) = 0 ∨ H (52 + m) = 1) ∧ (∀ i : Nat, (i : Int) < H 3 → (0 ≤ H (60 + i) ∧ H (60 + i) < H 1) ∧ 0 ≤ H (80 + i) ∧ H (80 + i) < H 1) ∧ ∀ i j : Nat, (i : Int) < H 3 → (j : Int) < H 3 → H (60 + i) = H (60 + j) → H (80 + i) = H (80 + j) → i = j
  rw [e3, e 0 (by decide) (by omega) (by omega) (by omega), e 1 (by decide) (by omega) (by omega) (by omega), e 2 (by decide) (by omega) (by omega) (by omega)]
  refine ⟨by omega, p1, fun k hk => ?_, fun k hk => ?_, fun i hi => ?_, fun i j hi hj c1 c2 => ?_⟩
  · rw [e _ (by omega) (by omega) (by omega) (by omega)]
    exact p2 k hk
  · rw [e _ (by omega) (by omega) (by omega) (by omega)]
    exact p3 k hk
  · by_cases c : i = q
    · rw [c, e6, e8]
      exact ⟨⟨m0, m1⟩, o0, o1⟩
    · rw [e _ (by omega) (by omega) (by omega) (by omega), e _ (by omega) (by omega) (by omega) (by omega)]
      exact p4 i (by omega)
  · by_cases ci : i = q
    · by_cases cj : j = q
      · omega
      · exfalso
        rw [ci, e6, e _ (by omega) (by omega) (by omega) (by omega)] at c1
        rw [ci, e8, e _ (by omega) (by omega) (by omega) (by omega)] at c2
        exact nt j (by omega) ⟨c1.symm, c2.symm⟩
    · by_cases cj : j = q
      · exfalso
        rw [cj, e6, e _ (by omega) (by omega) (by omega) (by omega)] at c1
        rw [cj, e8, e _ (by omega) (by omega) (by omega) (by omega)] at c2
        exact nt i (by omega) ⟨c1, c2⟩
      · rw [e _ (by omega) (by omega) (by omega) (by omega), e _ (by omega) (by omega) (by omega) (by omega)] at c1 c2
        exact p5 i j (by omega) (by omega) c1 c2
theorem PSK.amt {s : PS} {x : Nat} {a : Int} {y : (Nat → Int) × Bool × (Nat → Bool)} (h : PSK s) (hx : x < 48) (a0 : 0 ≤ a) (a1 : a ≤ 250) : PSK (ups s.h (4 + x) a, y) := by
  obtain ⟨H, hH⟩ : ∃ H, H = ups s.h (4 + x) a := ⟨_, rfl⟩
  have e : ∀ j, j ≠ 4 + x → H j = s.h j := fun j hj => by rw [hH, ups_ne hj]
  have ea : H (4 + x) = a := by rw [hH, ups_eq]
  rw [← hH]
  obtain ⟨p0, p1, p2, p3, p4, p5⟩ := h
  unfold PSB at p0
  show (0 ≤ H 0 ∧ H 0 ≤ 6 ∧ 0 ≤ H 1 ∧ H 1 ≤ 8 ∧ 0 ≤ H 3 ∧ H 3 ≤ 20) ∧ (0 ≤ H 2 ∧ H 2 ≤ 40) ∧ (∀ k : Nat, k < 48 → 0 ≤ H (4 + k) ∧ H (4 + k) ≤ 250) ∧ (∀ m : Nat, (m : Int) < H 1 → H (52 + m) = 0 ∨ H (52 + m) = 1) ∧ (∀ i : Nat, (i : Int) < H 3 → (0 ≤ H (60 + i) ∧ H (60 + i) < H 1) ∧ 0 ≤ H (80 + i) ∧ H (80 + i) < H 1) ∧ ∀ i j : Nat, (i : Int) < H 3 → (j : Int) < H 3 → H (60 + i) = H (60 + j) → H (80 + i) = H (80 + j) → i = j
  rw [e 0 (by omega), e 1 (by omega), e 3 (by omega), e 2 (by omega)]
  refine ⟨p0, p1, fun k hk => ?_, fun m hm => ?_, fun i hi => ?_, fun i j hi hj c1 c2 => ?_⟩
  · by_cases c : k = x
    · rw [c, ea]
      exact ⟨a0, a1⟩
    · rw [e _ (by omega)]
      exact p2 k hk
  · rw [e _ (by omega)]
    exact p3 m hm
  · rw [e _ (by omega), e _ (by omega)]
    exact p4 i hi
  · rw [e _ (by omega), e _ (by omega)] at c1 c2
    exact p5 i j hi hj c1 c2
theorem PK.x {T : Nat → TT} {s : PS} {i : Nat} (h : PSK s) : PK (lnx T s i) := by
  have b := h.1
  unfold PSB at b
  unfold lnx
  split
  · unfold lnLoad
    split
    · exact PK.b
    · exact PK.num fun v h1 h2 => PK.o (h.load h1 h2)
  · split
    · unfold lnGood
      split
      · exact PK.b
      · next c => exact PK.new fun _ => PK.o (h.good c)
    · split
      · unfold lnMan
        split
        · exact PK.b
        · next c => exact PK.new fun _ => PK.num fun d h1 h2 => PK.o (h.man c h1 h2)
      · split
        · unfold lnMiss
          split
          · exact PK.b
          · next c20 =>
            refine PK.old (by omega) fun m m0 m1 => PK.old (by omega) fun o o0 o1 => ?_
            split
            · exact PK.b
            · next c => exact PK.num fun d _ _ => PK.o (h.miss c20 m0 m1 o0 o1 (Bool.not_eq_true _ |>.mp fun z => c (Or.inr z)))
        · split
          · next hk =>
            unfold lnAmt
            refine PK.old (by omega) fun g g0 g1 => PK.num fun d d0 d1 => ?_
            split
            · exact PK.b
            · refine PK.num fun a a0 a1 => PK.o (h.amt (by omega) a0 ?_)
              split at a1 <;> omega
          · exact PK.b
theorem lns_psk {T : Nat → TT} : ∀ {l i : Nat} {s : PS}, lns T l = some (s, i) → PSK s
  | 0, i, s, h => by
    obtain ⟨rfl, -⟩ := Prod.mk.inj (Option.some.inj (show some (s0, 0) = some (s, i) from h))
    exact ⟨show (0 : Int) ≤ 0 ∧ (0 : Int) ≤ 6 ∧ (0 : Int) ≤ 0 ∧ (0 : Int) ≤ 8 ∧ (0 : Int) ≤ 0 ∧ (0 : Int) ≤ 20 by decide, show (0 : Int) ≤ 10 ∧ (10 : Int) ≤ 40 by decide, fun k hk => by
      show 0 ≤ (if 4 + k = 2 then (10 : Int) else 0) ∧ (if 4 + k = 2 then (10 : Int) else 0) ≤ 250
      rw [if_neg (by omega)]
      decide, fun m hm => absurd (show (m : Int) < 0 from hm) (by omega), fun m hm => absurd (show (m : Int) < 0 from hm) (by omega), fun m _ hm => absurd (show (m : Int) < 0 from hm) (by omega)⟩
  | l + 1, i, s, h => by
    have h' : nxt T (lns T l) = some (s, i) := h
    cases e : lns T l with
    | none =>
      rw [e] at h'
      cases h'
    | some y =>
      obtain ⟨s1, i1⟩ := y
      rw [e] at h'
      have ih := lns_psk e
      have h2 : (if (T i1).k = 0 then none else lnj T (lnx T s1 i1)) = some (s, i) := h'
      by_cases k0 : (T i1).k = 0
      · rw [if_pos k0] at h2
        cases h2
      · rw [if_neg k0] at h2
        cases el : lnx T s1 i1 with
        | inr z =>
          rw [el] at h2
          cases h2
        | inl z =>
          obtain ⟨s2, j⟩ := z
          rw [el] at h2
          have h3 : (if (T j).k = 59 then some (s2, j + 1) else none) = some (s, i) := h2
          by_cases k5 : (T j).k = 59
          · rw [if_pos k5] at h3
            obtain ⟨rfl, -⟩ := Prod.mk.inj (Option.some.inj h3)
            exact PK.x ih _ _ el
          · rw [if_neg k5] at h3
            cases h3
