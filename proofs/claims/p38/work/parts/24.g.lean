-- 63.b28.read.lean.txt
section
def ups {α : Type} (f : Nat → α) (i : Nat) (x : α) : Nat → α := fun j => if j = i then x else f j
theorem ups_eq {α : Type} {f : Nat → α} {i : Nat} {x : α} : ups f i x i = x := if_pos rfl
theorem ups_ne {α : Type} {f : Nat → α} {i j : Nat} {x : α} (h : j ≠ i) : ups f i x j = f j := if_neg h
abbrev PS : Type := (Nat → Int) × (Nat → Int) × Bool × (Nat → Bool)
def PS.h (s : PS) : Nat → Int := s.1
def PS.nm (s : PS) : Nat → Int := s.2.1
def PS.ld (s : PS) : Bool := s.2.2.1
def PS.tl (s : PS) : Nat → Bool := s.2.2.2
abbrev LR : Type := (PS × Nat) ⊕ (Int × Nat)
abbrev LR.ok (s : PS) (i : Nat) : LR := Sum.inl (s, i)
abbrev LR.bad (f : Int) (i : Nat) : LR := Sum.inr (f, i)
def fndf (nm : Nat → Int) (o : Nat) (v : Int) : Nat → Nat → Int
  | 0, _ => -1
  | f + 1, k => if nm (o + k) = v then (k : Int) else fndf nm o v f (k + 1)
def fnd (nm : Nat → Int) (o : Nat) (n v : Int) : Int := fndf nm o v n.toNat 0
def lnum (T : Nat → TT) (j : Nat) (lo hi : Int) (k : Int → LR) : LR := if (T j).k ≠ 3 then LR.bad 1 j else if (T j).v < lo ∨ hi < (T j).v then LR.bad 2 j else k (T j).v
def lnLoad (T : Nat → TT) (s : PS) (i : Nat) : LR := if s.ld = true then LR.bad 3 i else lnum T (i + 1) 1 40 fun v => LR.ok (ups s.h 2 v, s.nm, true, s.tl) (i + 2)
def lnew (T : Nat → TT) (s : PS) (j : Nat) (k : Int → LR) : LR := if (T j).k ≠ 2 then LR.bad 1 j else if 0 ≤ fnd s.nm 0 (s.h 0) (T j).v ∨ 0 ≤ fnd s.nm 6 (s.h 1) (T j).v then LR.bad 3 j else k (T j).v
def lnGood (T : Nat → TT) (s : PS) (i : Nat) : LR := if 6 ≤ s.h 0 then LR.bad 4 i else lnew T s (i + 1) fun v => LR.ok (ups s.h 0 (s.h 0 + 1), ups s.nm (s.h 0).toNat v, s.ld, s.tl) (i + 2)
def lnMan (T : Nat → TT) (s : PS) (i : Nat) : LR := if 8 ≤ s.h 1 then LR.bad 4 i else lnew T s (i + 1) fun v => lnum T (i + 2) 0 1 fun d => LR.ok (ups (ups s.h (52 + (s.h 1).toNat) d) 1 (s.h 1 + 1), ups s.nm (6 + (s.h 1).toNat) v, s.ld, s.tl) (i + 3)
def lold (T : Nat → TT) (s : PS) (o : Nat) (n : Int) (j : Nat) (k : Int → LR) : LR := if (T j).k ≠ 2 then LR.bad 1 j else if fnd s.nm o n (T j).v < 0 then LR.bad 3 j else k (fnd s.nm o n (T j).v)
def mtold (h : Nat → Int) (m o : Int) : Nat → Bool
  | 0 => false
  | k + 1 => mtold h m o k || (decide (h (60 + k) = m) && decide (h (80 + k) = o))
def lnMiss (T : Nat → TT) (s : PS) (i : Nat) : LR := if 20 ≤ s.h 3 then LR.bad 4 i else lold T s 6 (s.h 1) (i + 1) fun m => lold T s 6 (s.h 1) (i + 2) fun q => if m = q ∨ mtold s.h m q (s.h 3).toNat = true then LR.bad 3 (i + 2) else lnum T (i + 3) 0 60 fun d => LR.ok (ups (ups (ups (ups s.h (60 + (s.h 3).toNat) m) (80 + (s.h 3).toNat) q) (100 + (s.h 3).toNat) d) 3 (s.h 3 + 1), s.nm, s.ld, s.tl) (i + 4)
def lnAmt (T : Nat → TT) (s : PS) (i so : Nat) : LR := lold T s 0 (s.h 0) (i + 1) fun g => lnum T (i + 2) 0 1 fun d => if s.tl (12 * so + (2 * g + d).toNat) = true then LR.bad 3 (i + 2) else lnum T (i + 3) 0 (if so = 2 ∨ so = 3 then 20 else 250) fun a => LR.ok (ups s.h (4 + (12 * so + (2 * g + d).toNat)) a, s.nm, s.ld, ups s.tl (12 * so + (2 * g + d).toNat) true) (i + 4)
def lnx (T : Nat → TT) (s : PS) (i : Nat) : LR := if (T i).k = 64 then lnLoad T s i else if (T i).k = 65 then lnGood T s i else if (T i).k = 70 then lnMan T s i else if (T i).k = 71 then lnMiss T s i else if 66 ≤ (T i).k ∧ (T i).k ≤ 69 then lnAmt T s i ((T i).k - 66).toNat else LR.bad 1 i
def s0 : PS := (fun i => if i = 2 then 10 else 0, fun _ => 0, false, fun _ => false)
def lnj (T : Nat → TT) (x : LR) : Option (PS × Nat) := match x with
  | .inr _ => none
  | .inl (s', j) => if (T j).k = 59 then some (s', j + 1) else none
def nxt (T : Nat → TT) (x : Option (PS × Nat)) : Option (PS × Nat) := match x with
  | none => none
  | some (s, i) => if (T i).k = 0 then none else lnj T (lnx T s i)
def lns (T : Nat → TT) : Nat → Option (PS × Nat)
  | 0 => some (s0, 0)
  | n + 1 => nxt T (lns T n)
def stj (T : Nat → TT) (x : LR) : Option (Int × Int) := match x with
  | .inr (f, j) => some (-1 - (T j).pl, f)
  | .inl (_, j) => if (T j).k = 59 then none else some (-1 - (T j).pl, 1)
def stp (T : Nat → TT) (n : Nat) (s : PS) (i : Nat) : Option (Int × Int) := if (T i).k = 0 then some ((n : Int), 0) else stj T (lnx T s i)
def ANS (T : Nat → TT) (a f : Int) (s : PS) : Prop := ∃ n i, lns T n = some (s, i) ∧ stp T n s i = some (a, f)
theorem lns_stop {T : Nat → TT} {n i : Nat} {s : PS} {x : Int × Int} (h : lns T n = some (s, i)) (hs : stp T n s i = some x) : ∀ d, lns T (n + 1 + d) = none
  | 0 => by
    show nxt T (lns T n) = none
    rw [h]
    show (if (T i).k = 0 then none else lnj T (lnx T s i)) = none
    unfold stp at hs
    by_cases c : (T i).k = 0
    · rw [if_pos c]
    · rw [if_neg c] at hs ⊢
      cases hl : lnx T s i with
      | inr p => rfl
      | inl p =>
        obtain ⟨s', j⟩ := p
        rw [hl] at hs
        have hs' : (if (T j).k = 59 then none else some (-1 - (T j).pl, (1 : Int))) = some x := hs
        by_cases c2 : (T j).k = 59
        · rw [if_pos c2] at hs'
          cases hs'
        · show (if (T j).k = 59 then some (s', j + 1) else none) = none
          rw [if_neg c2]
  | d + 1 => by
    have ih := lns_stop h hs d
    show nxt T (lns T (n + 1 + d)) = none
    rw [ih]
    rfl
theorem ANS_one {T : Nat → TT} {a a' f f' : Int} {s s' : PS} (h : ANS T a f s) (h' : ANS T a' f' s') : a = a' ∧ f = f' ∧ s = s' := by
  obtain ⟨n, i, h1, h2⟩ := h
  obtain ⟨n', i', h1', h2'⟩ := h'
  have e : n = n' := by
    rcases (show n = n' ∨ n < n' ∨ n' < n by omega) with c | c | c
    · exact c
    · have := lns_stop h1 h2 (n' - (n + 1))
      rw [show n + 1 + (n' - (n + 1)) = n' by omega, h1'] at this
      cases this
    · have := lns_stop h1' h2' (n - (n' + 1))
      rw [show n' + 1 + (n - (n' + 1)) = n by omega, h1] at this
      cases this
  subst e
  rw [h1] at h1'
  cases h1'
  rw [h2] at h2'
  cases h2'
  exact ⟨rfl, rfl, rfl⟩
theorem lns_next {T : Nat → TT} {n i j : Nat} {s s' : PS} (h : lns T n = some (s, i)) (h0 : (T i).k ≠ 0) (hl : lnx T s i = LR.ok s' j) (h9 : (T j).k = 59) : lns T (n + 1) = some (s', j + 1) := by
  show nxt T (lns T n) = _
  rw [h]
  show (if (T i).k = 0 then none else lnj T (lnx T s i)) = _
  rw [if_neg h0, hl]
  show (if (T j).k = 59 then some (s', j + 1) else none) = _
  rw [if_pos h9]
theorem fndf_spec {nm : Nat → Int} {o : Nat} {v : Int} : ∀ f k, (fndf nm o v f k = -1 ∧ ∀ j, k ≤ j → j < k + f → nm (o + j) ≠ v) ∨ (∃ j : Nat, fndf nm o v f k = (j : Int) ∧ k ≤ j ∧ j < k + f ∧ nm (o + j) = v ∧ ∀ q, k ≤ q → q < j → nm (o + q) ≠ v)
  | 0, k => Or.inl ⟨rfl, fun j h1 h2 => absurd h2 (by omega)⟩
  | f + 1, k => by
    by_cases c : nm (o + k) = v
    · exact Or.inr ⟨k, if_pos c, Nat.le_refl k, by omega, c, fun q h1 h2 => absurd h2 (by omega)⟩
    · have e : fndf nm o v (f + 1) k = fndf nm o v f (k + 1) := if_neg c
      rw [e]
      rcases fndf_spec f (k + 1) with ⟨h1, h2⟩ | ⟨j, h1, h2, h3, h4, h5⟩
      · refine Or.inl ⟨h1, fun j h3 h4 => ?_⟩
        rcases (show j = k ∨ k + 1 ≤ j by omega) with g | g
        · rw [g]; exact c
        · exact h2 j g (by omega)
      · refine Or.inr ⟨j, h1, by omega, by omega, h4, fun q h6 h7 => ?_⟩
        rcases (show q = k ∨ k + 1 ≤ q by omega) with g | g
        · rw [g]; exact c
        · exact h5 q g h7
theorem fnd_is {nm : Nat → Int} {o : Nat} {n v z : Int} (h : (z = -1 ∧ ∀ j : Nat, (j : Int) < n → nm (o + j) ≠ v) ∨ (0 ≤ z ∧ z < n ∧ nm (o + z.toNat) = v ∧ ∀ j : Nat, (j : Int) < z → nm (o + j) ≠ v)) : fnd nm o n v = z := by
  unfold fnd
  rcases fndf_spec (nm := nm) (o := o) (v := v) n.toNat 0 with ⟨h1, h2⟩ | ⟨j, h1, h2, h3, h4, h5⟩
  · rw [h1]
    rcases h with h | ⟨a, b, c, d⟩
    · exact h.1.symm
    · exact absurd c (h2 z.toNat (by omega) (by omega))
  · rw [h1]
    rcases h with h | ⟨a, b, c, d⟩
    · exact absurd h4 (h.2 j (by omega))
    · rcases (show (j : Int) < z ∨ (j : Int) = z ∨ z < (j : Int) by omega) with g | g | g
      · exact absurd h4 (d j g)
      · exact g
      · exact absurd c (h5 z.toNat (by omega) (by omega))
theorem fnd_lt {nm : Nat → Int} {o : Nat} {n v : Int} : fnd nm o n v = -1 ∨ (0 ≤ fnd nm o n v ∧ fnd nm o n v < n) := by
  unfold fnd
  rcases fndf_spec (nm := nm) (o := o) (v := v) n.toNat 0 with ⟨h1, h2⟩ | ⟨j, h1, h2, h3, h4, h5⟩
  · exact Or.inl h1
  · exact Or.inr ⟨by omega, by omega⟩
theorem mtold_iff {h : Nat → Int} {m q : Int} : ∀ k : Nat, mtold h m q k = true ↔ ∃ j, j < k ∧ h (60 + j) = m ∧ h (80 + j) = q
  | 0 => ⟨fun e => absurd (show false = true from e) (by decide), fun ⟨j, hj, _⟩ => absurd hj (by omega)⟩
  | k + 1 => by
    have ih := mtold_iff (h := h) (m := m) (q := q) k
    show (mtold h m q k || (decide (h (60 + k) = m) && decide (h (80 + k) = q))) = true ↔ _
    rw [Bool.or_eq_true, ih, Bool.and_eq_true, decide_eq_true_eq, decide_eq_true_eq]
    constructor
    · rintro (⟨j, a, b, c⟩ | ⟨b, c⟩)
      · exact ⟨j, by omega, b, c⟩
      · exact ⟨k, by omega, b, c⟩
    · rintro ⟨j, a, b, c⟩
      rcases (show j < k ∨ j = k by omega) with g | g
      · exact Or.inl ⟨j, g, b, c⟩
      · subst g
        exact Or.inr ⟨b, c⟩
abbrev CK (hp : ab_H) (B : Nat → Int) (n lim m i : Nat) : Prop := TKS hp B n lim m ∧ sf_rd hp 3 4 = some (i : Int) ∧ i ≤ m
def CURn (hp : ab_H) (T : TT) : Prop := ∃ w, sf_rl hp 3 8 = some w ∧ w.toInt = c32 7 T.v
abbrev CUR (hp : ab_H) (T : TT) : Prop := sf_rd hp 3 5 = some T.k ∧ sf_rd hp 3 6 = some T.pl ∧ (T.k = 3 → sf_rd hp 3 7 = some T.v) ∧ (T.k = 2 → CURn hp T)
theorem CURn_i {hp : ab_H} {T : TT} {w : Int64} (h : sf_rl hp 3 8 = some w) (h2 : w.toInt = c32 7 T.v) : CURn hp T := Exists.intro w ⟨h, h2⟩
theorem tok_nok (B : Nat → Int) (n lim i : Nat) : (tok B n lim i).k = 3 → 0 ≤ (tok B n lim i).v ∧ (tok B n lim i).v ≤ 999 := by
  show (tkq B n lim _).k = 3 → 0 ≤ (tkq B n lim _).v ∧ (tkq B n lim _).v ≤ 999
  generalize tk_e tk_b B n (tps B n lim i) = q
  unfold tkq
  split
  · exact fun e => absurd e (by show (1 : Int) ≠ 3; decide)
  · split
    · exact fun e => absurd e (by show (0 : Int) ≠ 3; decide)
    · split
      · unfold trn
        split
        · intro e
          have := kw_rng (pv B q (tk_e tk_r B n q - q))
          have e' : kw (pv B q (tk_e tk_r B n q - q)) = 3 := e
          omega
        · split
          · next h =>
            intro _
            have := nb_rng h.1 h.2
            exact ⟨this.1, this.2.1⟩
          · exact fun e => absurd e (by show (1 : Int) ≠ 3; decide)
      · exact fun e => absurd e (tsg_ne _).1
theorem CK_more {hp : ab_H} {B : Nat → Int} {n lim m j : Nat} (h : TKS hp B n lim m) (hj : j < m) (h0 : (tok B n lim j).k ≠ 0) (h1 : (tok B n lim j).k ≠ 1) : j + 1 < m := by
  obtain ⟨a, b, c, d, e, f⟩ := h
  rcases (show j = m - 1 ∨ j + 1 < m by omega) with g | g
  · rw [← g] at f
    rcases f with f | f
    · exact absurd f h0
    · exact absurd f h1
  · exact g
theorem TKS_cells {hp hp' : ab_H} {B : Nat → Int} {n lim m : Nat} (h : TKS hp B n lim m) (e4 : hp'.2 4 = hp.2 4) (e5 : hp'.2 5 = hp.2 5) (e6 : hp'.2 6 = hp.2 6) (e3 : sf_rd hp' 3 3 = sf_rd hp 3 3) : TKS hp' B n lim m := by
  obtain ⟨a, b, c, d, e, f⟩ := h
  refine ⟨a, b, e3.trans c, fun j hj => ?_, e, f⟩
  obtain ⟨d1, d2, w, d3, d4⟩ := d j hj
  exact ⟨(sf_rd_cell e4).trans d1, (sf_rd_cell e5).trans d2, w, (sf_rl_cell e6).trans d3, d4⟩
theorem TKS_fr {W : List (Nat × Nat × Nat)} {t t' : Nat → Nat} {hp hp' : ab_H} {B : Nat → Int} {n lim m : Nat} (H : sf_h t hp) (h : TKS hp B n lim m) (f : sf_fr W t hp t' hp') (h4 : W.all (fun w => decide (w.1 ≠ 124)) = true) (h5 : W.all (fun w => decide (w.1 ≠ 125)) = true) (h6 : W.all (fun w => decide (w.1 ≠ 126)) = true) (h3 : sf_inW W 9 3 = false) : TKS hp' B n lim m := by
  have r9 : bs_R t hp 3 9 := bs_R.uq H rfl
  have r4 : bs_R t hp 4 124 := bs_R.uq H rfl
  have r5 : bs_R t hp 5 125 := bs_R.uq H rfl
  have r6 : bs_R t hp 6 126 := bs_R.uq H rfl
  exact TKS_cells h (f.2.2.2.1 _ r4.1 (by rw [r4.2]; exact h4)) (f.2.2.2.1 _ r5.1 (by rw [r5.2]; exact h5)) (f.2.2.2.1 _ r6.1 (by rw [r6.2]; exact h6)) (f.2.2.1 _ r9.1 _ (by rw [r9.2]; exact h3))
def rrD (hp : ab_H) (a k : Nat) : Nat := (sf_rr hp a k).getD 0
theorem rrD_of {hp : ab_H} {a k b : Nat} (h : sf_rr hp a k = some b) : rrD hp a k = b := by
  unfold rrD
  rw [h]
  rfl
def lb (A : Int64) (i : Nat) : Bool := A.toBitVec.getLsbD i
abbrev SC (hp : ab_H) (a : Nat) (s : PS) : Prop := (sf_rd hp a 7 = some (s.h 2)) ∧ (sf_rd hp a 8 = some (s.h 0)) ∧ (sf_rd hp a 9 = some (s.h 1)) ∧ (sf_rd hp a 10 = some (s.h 3)) ∧ (sf_rd hp a 11 = some (cond s.ld 1 0)) ∧ (∃ A, sf_rl hp a 12 = some A ∧ ∀ i, i < 48 → lb A i = s.tl i) ∧ (∀ g : Nat, (g : Int) < s.h 0 → ∃ w, sf_rl hp (rrD hp a 0) g = some w ∧ w.toInt = c32 7 (s.nm g)) ∧ (∀ g : Nat, (g : Int) < s.h 1 → ∃ w, sf_rl hp (rrD hp a 1) g = some w ∧ w.toInt = c32 7 (s.nm (6 + g))) ∧ (∀ g : Nat, (g : Int) < s.h 1 → sf_rd hp (rrD hp a 2) g = some (s.h (52 + g))) ∧ (∀ i : Nat, i < 48 → sf_rd hp (rrD hp a 3) i = some (s.h (4 + i))) ∧ (∀ k : Nat, (k : Int) < s.h 3 → sf_rd hp (rrD hp a 4) k = some (s.h (60 + k))) ∧ (∀ k : Nat, (k : Int) < s.h 3 → sf_rd hp (rrD hp a 5) k = some (s.h (80 + k))) ∧ (∀ k : Nat, (k : Int) < s.h 3 → sf_rd hp (rrD hp a 6) k = some (s.h (100 + k))) ∧ (∀ g : Nat, (g : Int) < s.h 0 → LW 7 (s.nm g)) ∧ (∀ g : Nat, (g : Int) < s.h 1 → LW 7 (s.nm (6 + g)))
theorem SC.load {hp : ab_H} {a : Nat} {s : PS} (h : SC hp a s) : sf_rd hp a 7 = some (s.h 2) := h.1
theorem SC.goods {hp : ab_H} {a : Nat} {s : PS} (h : SC hp a s) : sf_rd hp a 8 = some (s.h 0) := h.2.1
theorem SC.men {hp : ab_H} {a : Nat} {s : PS} (h : SC hp a s) : sf_rd hp a 9 = some (s.h 1) := h.2.2.1
theorem SC.miss {hp : ab_H} {a : Nat} {s : PS} (h : SC hp a s) : sf_rd hp a 10 = some (s.h 3) := h.2.2.2.1
theorem SC.ld {hp : ab_H} {a : Nat} {s : PS} (h : SC hp a s) : sf_rd hp a 11 = some (cond s.ld 1 0) := h.2.2.2.2.1
theorem SC.tl {hp : ab_H} {a : Nat} {s : PS} (h : SC hp a s) : ∃ A, sf_rl hp a 12 = some A ∧ ∀ i, i < 48 → lb A i = s.tl i := h.2.2.2.2.2.1
theorem SC.gn {hp : ab_H} {a : Nat} {s : PS} (h : SC hp a s) : ∀ g : Nat, (g : Int) < s.h 0 → ∃ w, sf_rl hp (rrD hp a 0) g = some w ∧ w.toInt = c32 7 (s.nm g) := h.2.2.2.2.2.2.1
theorem SC.mn {hp : ab_H} {a : Nat} {s : PS} (h : SC hp a s) : ∀ g : Nat, (g : Int) < s.h 1 → ∃ w, sf_rl hp (rrD hp a 1) g = some w ∧ w.toInt = c32 7 (s.nm (6 + g)) := h.2.2.2.2.2.2.2.1
theorem SC.fs {hp : ab_H} {a : Nat} {s : PS} (h : SC hp a s) : ∀ g : Nat, (g : Int) < s.h 1 → sf_rd hp (rrD hp a 2) g = some (s.h (52 + g)) := h.2.2.2.2.2.2.2.2.1
theorem SC.am {hp : ab_H} {a : Nat} {s : PS} (h : SC hp a s) : ∀ i : Nat, i < 48 → sf_rd hp (rrD hp a 3) i = some (s.h (4 + i)) := h.2.2.2.2.2.2.2.2.2.1
theorem SC.m4 {hp : ab_H} {a : Nat} {s : PS} (h : SC hp a s) : ∀ k : Nat, (k : Int) < s.h 3 → sf_rd hp (rrD hp a 4) k = some (s.h (60 + k)) := h.2.2.2.2.2.2.2.2.2.2.1
theorem SC.m5 {hp : ab_H} {a : Nat} {s : PS} (h : SC hp a s) : ∀ k : Nat, (k : Int) < s.h 3 → sf_rd hp (rrD hp a 5) k = some (s.h (80 + k)) := h.2.2.2.2.2.2.2.2.2.2.2.1
theorem SC.m6 {hp : ab_H} {a : Nat} {s : PS} (h : SC hp a s) : ∀ k : Nat, (k : Int) < s.h 3 → sf_rd hp (rrD hp a 6) k = some (s.h (100 + k)) := h.2.2.2.2.2.2.2.2.2.2.2.2.1
theorem SC.lg {hp : ab_H} {a : Nat} {s : PS} (h : SC hp a s) : ∀ g : Nat, (g : Int) < s.h 0 → LW 7 (s.nm g) := h.2.2.2.2.2.2.2.2.2.2.2.2.2.1
theorem SC.lm {hp : ab_H} {a : Nat} {s : PS} (h : SC hp a s) : ∀ g : Nat, (g : Int) < s.h 1 → LW 7 (s.nm (6 + g)) := h.2.2.2.2.2.2.2.2.2.2.2.2.2.2
theorem rr_sort {t : Nat → Nat} {hp : ab_H} {a : Nat} (H : sf_h t hp) (hR : bs_R t hp a 7) {k g : Nat} (hk : (sf_C 7)[k]? = some (1, (g : Int), 0)) : bs_R t hp (rrD hp a k) g ∧ sf_rr hp a k = some (rrD hp a k) := by
  obtain ⟨fs, v, e1, e2, e3⟩ := sf_get H hR.1 hR.2 (by decide) hk
  cases v with
  | int z => exact absurd e3.1 (by show (1 : Nat) ≠ 0; decide)
  | ref b =>
    have e : sf_rr hp a k = some b := by
      unfold sf_rr
      rw [e1]
      dsimp only
      rw [e2]
    rw [rrD_of e]
    exact ⟨⟨e3.2.1, by have : (t b : Int) = (g : Int) := e3.2.2; omega⟩, e⟩
  | null => exact absurd e3.2 (by show (0 : Int) ≠ 1; decide)
  | long b => exact absurd e3 (by show (1 : Nat) ≠ 2; decide)
  | _ => exact e3.elim
theorem SC_cells {hp hp' : ab_H} {a : Nat} {s : PS} (h : SC hp a s) (ea : hp'.2 a = hp.2 a) (e : ∀ k, k < 7 → hp'.2 (rrD hp a k) = hp.2 (rrD hp a k)) : SC hp' a s := by
  have er : ∀ k, rrD hp' a k = rrD hp a k := fun k => by
    unfold rrD
    rw [sf_rr_cell ea]
  obtain ⟨A, hA, hB⟩ := h.tl
  exact ⟨(sf_rd_cell ea).trans h.load, (sf_rd_cell ea).trans h.goods, (sf_rd_cell ea).trans h.men, (sf_rd_cell ea).trans h.miss, (sf_rd_cell ea).trans h.ld, ⟨A, (sf_rl_cell ea).trans hA, hB⟩, fun g hg => by rw [er, sf_rl_cell (e 0 (by decide))]; exact h.gn g hg, fun g hg => by rw [er, sf_rl_cell (e 1 (by decide))]; exact h.mn g hg, fun g hg => by rw [er, sf_rd_cell (e 2 (by decide))]; exact h.fs g hg, fun g hg => by rw [er, sf_rd_cell (e 3 (by decide))]; exact h.am g hg, fun g hg => by rw [er, sf_rd_cell (e 4 (by decide))]; exact h.m4 g hg, fun g hg => by rw [er, sf_rd_cell (e 5 (by decide))]; exact h.m5 g hg, fun g hg => by rw [er, sf_rd_cell (e 6 (by decide))]; exact h.m6 g hg, h.lg, h.lm⟩
theorem SC_fr {W : List (Nat × Nat × Nat)} {t t' : Nat → Nat} {hp hp' : ab_H} {a : Nat} {s : PS} (H : sf_h t hp) (hR : bs_R t hp a 7) (h : SC hp a s) (f : sf_fr W t hp t' hp') (h7 : W.all (fun w => decide (w.1 ≠ 7)) = true) (hw : W.all (fun w => decide (w.1 < 116 ∨ 122 < w.1)) = true) : SC hp' a s := by
  refine SC_cells h (f.2.2.2.1 _ hR.1 (by rw [hR.2]; exact h7)) fun k hk => ?_
  have hs : ∃ g, bs_R t hp (rrD hp a k) g ∧ 116 ≤ g ∧ g ≤ 122 := by
    match k, hk with
    | 0, _ => exact ⟨116, (rr_sort H hR rfl).1, by decide, by decide⟩
    | 1, _ => exact ⟨117, (rr_sort H hR rfl).1, by decide, by decide⟩
    | 2, _ => exact ⟨118, (rr_sort H hR rfl).1, by decide, by decide⟩
    | 3, _ => exact ⟨119, (rr_sort H hR rfl).1, by decide, by decide⟩
    | 4, _ => exact ⟨120, (rr_sort H hR rfl).1, by decide, by decide⟩
    | 5, _ => exact ⟨121, (rr_sort H hR rfl).1, by decide, by decide⟩
    | 6, _ => exact ⟨122, (rr_sort H hR rfl).1, by decide, by decide⟩
    | k + 7, h => exact absurd h (by omega)
  obtain ⟨g, r, g1, g2⟩ := hs
  refine f.2.2.2.1 _ r.1 ?_
  rw [r.2]
  rw [List.all_eq_true] at hw ⊢
  intro x hx
  have := of_decide_eq_true (hw x hx)
  exact decide_eq_true (by omega)
def LRES (hp : ab_H) (a : Nat) (B : Nat → Int) (n lim m : Nat) (r : Option Value) (x : LR) : Prop := match x with
  | .inl (s, j) => (∃ z : Int32, r = some (.int z) ∧ z.toInt = 1) ∧ SC hp a s ∧ CK hp B n lim m j ∧ sf_rd hp 3 9 = some 0 ∧ j < m
  | .inr (f, j) => (∃ z : Int32, r = some (.int z) ∧ z.toInt = 0) ∧ sf_rd hp 3 9 = some f ∧ sf_rd hp 3 6 = some (tok B n lim j).pl
theorem LRES_bad {hp : ab_H} {a : Nat} {B : Nat → Int} {n lim m j : Nat} {r : Option Value} {f : Int} (h1 : ∃ z : Int32, r = some (.int z) ∧ z.toInt = 0) (h2 : sf_rd hp 3 9 = some f) (h3 : sf_rd hp 3 6 = some (tok B n lim j).pl) : LRES hp a B n lim m r (LR.bad f j) := ⟨h1, h2, h3⟩
theorem LRES_ok {hp : ab_H} {a : Nat} {B : Nat → Int} {n lim m j : Nat} {r : Option Value} {s : PS} (h1 : ∃ z : Int32, r = some (.int z) ∧ z.toInt = 1) (h2 : SC hp a s) (h3 : CK hp B n lim m j) (h4 : sf_rd hp 3 9 = some 0) (h5 : j < m) : LRES hp a B n lim m r (LR.ok s j) := ⟨h1, h2, h3, h4, h5⟩
theorem LRES_pos {hp : ab_H} {a : Nat} {B : Nat → Int} {n lim m : Nat} {z : Int32} {x : LR} (h : LRES hp a B n lim m (some (.int z)) x) (hz : z.toInt ≠ 0) : ∃ s j, x = LR.ok s j ∧ SC hp a s ∧ CK hp B n lim m j ∧ sf_rd hp 3 9 = some 0 ∧ j < m := by
  cases x with
  | inl p => exact ⟨p.1, p.2, rfl, h.2⟩
  | inr p =>
    obtain ⟨y, e, e2⟩ := h.1
    obtain rfl := Value.int.inj (Option.some.inj e)
    exact absurd e2 hz
theorem LRES_neg {hp : ab_H} {a : Nat} {B : Nat → Int} {n lim m : Nat} {z : Int32} {x : LR} (h : LRES hp a B n lim m (some (.int z)) x) (hz : z.toInt ≠ 1) : ∃ f j, x = LR.bad f j ∧ sf_rd hp 3 9 = some f ∧ sf_rd hp 3 6 = some (tok B n lim j).pl := by
  cases x with
  | inl p =>
    obtain ⟨y, e, e2⟩ := h.1
    obtain rfl := Value.int.inj (Option.some.inj e)
    exact absurd e2 hz
  | inr p => exact ⟨p.1, p.2, rfl, h.2⟩
def LOK (i : Nat) (x : LR) : Prop := match x with
  | .inl (_, j) => i + 2 ≤ j
  | .inr (f, _) => 1 ≤ f
theorem LOK_num {T : Nat → TT} {i j : Nat} {lo hi : Int} {k : Int → LR} (h : ∀ v, LOK i (k v)) : LOK i (lnum T j lo hi k) := by
  unfold lnum
  split
  · show (1 : Int) ≤ 1
    decide
  · split
    · show (1 : Int) ≤ 2
      decide
    · exact h _
theorem LOK_new {T : Nat → TT} {s : PS} {i j : Nat} {k : Int → LR} (h : ∀ v, LOK i (k v)) : LOK i (lnew T s j k) := by
  unfold lnew
  split
  · show (1 : Int) ≤ 1
    decide
  · split
    · show (1 : Int) ≤ 3
      decide
    · exact h _
theorem LOK_old {T : Nat → TT} {s : PS} {o i j : Nat} {n : Int} {k : Int → LR} (h : ∀ v, LOK i (k v)) : LOK i (lold T s o n j k) := by
  unfold lold
  split
  · show (1 : Int) ≤ 1
    decide
  · split
    · show (1 : Int) ≤ 3
      decide
    · exact h _
theorem LOK_o {i j : Nat} {s : PS} (h : i + 2 ≤ j) : LOK i (LR.ok s j) := h
theorem LOK_b {i j : Nat} {f : Int} (h : 1 ≤ f) : LOK i (LR.bad f j) := h
theorem lnx_ok (T : Nat → TT) (s : PS) (i : Nat) : LOK i (lnx T s i) := by
  unfold lnx
  split
  · unfold lnLoad
    split
    · exact LOK_b (by decide)
    · exact LOK_num fun v => LOK_o (by omega)
  · split
    · unfold lnGood
      split
      · exact LOK_b (by decide)
      · exact LOK_new fun v => LOK_o (by omega)
    · split
      · unfold lnMan
        split
        · exact LOK_b (by decide)
        · exact LOK_new fun v => LOK_num fun d => LOK_o (by omega)
      · split
        · unfold lnMiss
          split
          · exact LOK_b (by decide)
          · refine LOK_old fun v => LOK_old fun q => ?_
            split
            · exact LOK_b (by decide)
            · exact LOK_num fun d => LOK_o (by omega)
        · split
          · unfold lnAmt
            refine LOK_old fun v => LOK_num fun q => ?_
            split
            · exact LOK_b (by decide)
            · exact LOK_num fun d => LOK_o (by omega)
          · exact LOK_b (by decide)
theorem stp_end {T : Nat → TT} {n i : Nat} {s : PS} (h : (T i).k = 0) : stp T n s i = some ((n : Int), 0) := if_pos h
theorem stp_bad {T : Nat → TT} {n i j : Nat} {s : PS} {f : Int} (h : (T i).k ≠ 0) (hl : lnx T s i = LR.bad f j) : stp T n s i = some (-1 - (T j).pl, f) := by
  unfold stp
  rw [if_neg h, hl]
  rfl
theorem stp_sign {T : Nat → TT} {n i j : Nat} {s s' : PS} (h : (T i).k ≠ 0) (hl : lnx T s i = LR.ok s' j) (h9 : (T j).k ≠ 59) : stp T n s i = some (-1 - (T j).pl, 1) := by
  unfold stp
  rw [if_neg h, hl]
  exact if_neg h9
theorem lnum_1 {T : Nat → TT} {j : Nat} {lo hi : Int} {k : Int → LR} (h : (T j).k ≠ 3) : lnum T j lo hi k = LR.bad 1 j := if_pos h
theorem lnum_2 {T : Nat → TT} {j : Nat} {lo hi : Int} {k : Int → LR} (h : (T j).k = 3) (h2 : (T j).v < lo ∨ hi < (T j).v) : lnum T j lo hi k = LR.bad 2 j := (if_neg (fun e => e h)).trans (if_pos h2)
theorem lnum_o {T : Nat → TT} {j : Nat} {lo hi : Int} {k : Int → LR} (h : (T j).k = 3) (h2 : lo ≤ (T j).v) (h3 : (T j).v ≤ hi) : lnum T j lo hi k = k (T j).v := (if_neg (fun e => e h)).trans (if_neg (by omega))
theorem lnew_1 {T : Nat → TT} {s : PS} {j : Nat} {k : Int → LR} (h : (T j).k ≠ 2) : lnew T s j k = LR.bad 1 j := if_pos h
theorem lnew_3 {T : Nat → TT} {s : PS} {j : Nat} {k : Int → LR} (h : (T j).k = 2) (h2 : 0 ≤ fnd s.nm 0 (s.h 0) (T j).v ∨ 0 ≤ fnd s.nm 6 (s.h 1) (T j).v) : lnew T s j k = LR.bad 3 j := (if_neg (fun e => e h)).trans (if_pos h2)
theorem lnew_o {T : Nat → TT} {s : PS} {j : Nat} {k : Int → LR} (h : (T j).k = 2) (h2 : ¬ (0 ≤ fnd s.nm 0 (s.h 0) (T j).v ∨ 0 ≤ fnd s.nm 6 (s.h 1) (T j).v)) : lnew T s j k = k (T j).v := (if_neg (fun e => e h)).trans (if_neg h2)
theorem lold_1 {T : Nat → TT} {s : PS} {o j : Nat} {n : Int} {k : Int → LR} (h : (T j).k ≠ 2) : lold T s o n j k = LR.bad 1 j := if_pos h
theorem lold_3 {T : Nat → TT} {s : PS} {o j : Nat} {n : Int} {k : Int → LR} (h : (T j).k = 2) (h2 : fnd s.nm o n (T j).v < 0) : lold T s o n j k = LR.bad 3 j := (if_neg (fun e => e h)).trans (if_pos h2)
theorem lold_o {T : Nat → TT} {s : PS} {o j : Nat} {n : Int} {k : Int → LR} (h : (T j).k = 2) (h2 : 0 ≤ fnd s.nm o n (T j).v) : lold T s o n j k = k (fnd s.nm o n (T j).v) := (if_neg (fun e => e h)).trans (if_neg (by omega))
theorem ups_or {f : Nat → Bool} {x i : Nat} : ups f x true i = (f i || decide (i = x)) := by
  unfold ups
  by_cases c : i = x
  · rw [if_pos c, decide_eq_true c, Bool.or_true]
  · rw [if_neg c, decide_eq_false c, Bool.or_false]
theorem lnx_load {T : Nat → TT} {s : PS} {i : Nat} (h : (T i).k = 64) : lnx T s i = lnLoad T s i := if_pos h
theorem lnx_good {T : Nat → TT} {s : PS} {i : Nat} (h : (T i).k = 65) : lnx T s i = lnGood T s i := by
  unfold lnx
  rw [if_neg (by omega), if_pos h]
theorem lnx_man {T : Nat → TT} {s : PS} {i : Nat} (h : (T i).k = 70) : lnx T s i = lnMan T s i := by
  unfold lnx
  rw [if_neg (by omega), if_neg (by omega), if_pos h]
theorem lnx_miss {T : Nat → TT} {s : PS} {i : Nat} (h : (T i).k = 71) : lnx T s i = lnMiss T s i := by
  unfold lnx
  rw [if_neg (by omega), if_neg (by omega), if_neg (by omega), if_pos h]
theorem lnx_amt {T : Nat → TT} {s : PS} {i : Nat} (h : 66 ≤ (T i).k ∧ (T i).k ≤ 69) : lnx T s i = lnAmt T s i ((T i).k - 66).toNat := by
  unfold lnx
  rw [if_neg (by omega), if_neg (by omega), if_neg (by omega), if_neg (by omega), if_pos h]
theorem lnx_bad {T : Nat → TT} {s : PS} {i : Nat} (h : (T i).k < 64 ∨ 71 < (T i).k) : lnx T s i = LR.bad 1 i := by
  unfold lnx
  rw [if_neg (by omega), if_neg (by omega), if_neg (by omega), if_neg (by omega), if_neg (by omega)]
theorem lb_or {A : Int64} {y : Int32} {i j : Nat} (hy : y.toInt = (i : Int)) (hi : i < 48) (hj : j < 48) : lb (A ||| ((1 : Int64) <<< (y.toInt64 &&& 63))) j = (lb A j || decide (j = i)) := by
  have e : y = Int32.ofNat i := Int32.toInt_inj.mp (by rw [hy, Int32.toInt_ofNat_of_lt (by omega)])
  have tab : ∀ i, i < 48 → ∀ j, j < 48 → ((1 : Int64) <<< ((Int32.ofNat i).toInt64 &&& 63)).toBitVec.getLsbD j = decide (j = i) := by decide +kernel
  unfold lb
  rw [Int64.toBitVec_or, BitVec.getLsbD_or, e, tab i hi j hj]
theorem lb_and {A : Int64} {y : Int32} {i : Nat} (hy : y.toInt = (i : Int)) (hi : i < 48) : (A &&& ((1 : Int64) <<< (y.toInt64 &&& 63))) = 0 ↔ lb A i = false := by
  have e : y = Int32.ofNat i := Int32.toInt_inj.mp (by rw [hy, Int32.toInt_ofNat_of_lt (by omega)])
  have tab : ∀ i, i < 48 → ∀ j, j < 64 → ((1 : Int64) <<< ((Int32.ofNat i).toInt64 &&& 63)).toBitVec.getLsbD j = decide (j = i) := by decide +kernel
  unfold lb
  constructor
  · intro h
    have h1 : (A &&& ((1 : Int64) <<< (y.toInt64 &&& 63))).toBitVec.getLsbD i = (0 : Int64).toBitVec.getLsbD i := by rw [h]
    rw [Int64.toBitVec_and, BitVec.getLsbD_and, e, tab i hi i (by omega), decide_eq_true rfl, Bool.and_true] at h1
    rw [h1]
    exact BitVec.getLsbD_zero
  · intro h
    apply Int64.toBitVec_inj.mp
    apply BitVec.eq_of_getLsbD_eq
    intro j hj
    rw [Int64.toBitVec_and, BitVec.getLsbD_and, e, tab i hi j hj]
    show _ = (0#64).getLsbD j
    rw [BitVec.getLsbD_zero]
    by_cases c : j = i
    · rw [c, h, Bool.false_and]
    · rw [decide_eq_false c, Bool.and_false]
theorem bs_alen {T : Nat → Option ab_A} {i j : Nat} {lo : List (Option Value)} {st : List Value} {u : Nat × Nat} {hp : ab_H} {Q : ab_O → Prop} {t : Nat → Nat} {a g k : Nat} (hT : T i = some (ab_nx j ab_alen)) (H : sf_h t hp) (hR : bs_R t hp a g) (hg : 100 ≤ g) (hk : (sf_A g).2.1 = k) (h4 : (sf_A g).1 < 4) (h2 : (sf_A g).1 ≠ 2) (hb : k < 2147483648) (h : ∀ z : Int32, z.toInt = (k : Int) → Ev T j (lo, .int z :: st, u, hp) Q) : Ev T i (lo, .ref a :: st, u, hp) Q := by
  obtain ⟨f, e1, e2⟩ := sf_arr H hR.1 hR.2 hg h4 h2
  rw [hk] at e1
  refine Ev.alen hT hR.1 e1 (by omega) (h _ ?_)
  exact Int32.toInt_ofNat_of_lt hb
theorem bs_putR {T : Nat → Option ab_A} {i j : Nat} {lo : List (Option Value)} {st : List Value} {u : Nat × Nat} {hp : ab_H} {Q : ab_O → Prop} {t : Nat → Nat} {W : List (Nat × Nat × Nat)} {a g k ci b g1 : Nat} (hT : T i = some (ab_nx j (ab_putf ci k 2))) (hci : ci = sf_o g) (H : sf_h t hp) (hR : bs_R t hp a g) (hg : g < 100) (hk : (sf_C g)[k]? = some (1, (g1 : Int), 0)) (hW : sf_cv W g k k = true) (hs : (decide (g ≠ 5) || decide (2 ≤ k)) = true) (hm : (sf_mk W || decide (g ≠ 11) || (decide (k ≠ 4) && decide (k ≠ 11))) = true) (hb : bs_R t hp b g1)
    (h : ∀ hp', sf_h t hp' → sf_fr W t hp t hp' → sf_rr hp' a k = some b → (∀ c q, c ≠ a ∨ q ≠ k → sf_rr hp' c q = sf_rr hp c q) → (∀ c q, sf_rd hp' c q = sf_rd hp c q) → (∀ c q, sf_rl hp' c q = sf_rl hp c q) → Ev T j (lo, st, u, hp') Q) : Ev T i (lo, .ref b :: .ref a :: st, u, hp) Q := by
  subst hci
  obtain ⟨fs, v, e1, e2, e3⟩ := sf_get H hR.1 hR.2 hg hk
  have hilt : k < fs.length := (List.getElem?_eq_some_iff.mp e2).1
  simp only [Bool.or_eq_true, Bool.and_eq_true, decide_eq_true_eq] at hs hm
  obtain ⟨cv1, cv2⟩ := sf_cv_ok hW
  have hvl : ∃ c : Nat, v = .ref c := by
    cases v with
    | ref z => exact ⟨z, rfl⟩
    | int z => exact absurd (show (1 : Nat) = 0 from e3.1) (by decide)
    | long w' => exact absurd (show (1 : Nat) = 2 from e3) (by decide)
    | null => exact absurd (show (0 : Int) = 1 from e3.2) (by decide)
    | _ => exact e3.elim
  obtain ⟨c, rfl⟩ := hvl
  have hr : ∀ x q, sf_rd (ab_up hp a (.inr (sf_o g, fs.set k (.ref b)))) x q = sf_rd hp x q := by
    intro x q
    by_cases e : x = a
    · subst e
      rw [sf_rd_up_obj]
      unfold sf_rd
      rw [e1]
      dsimp only
      by_cases e : q = k
      · subst e
        rw [List.getElem?_set_self hilt, e2]
        rfl
      · rw [List.getElem?_set_ne (Ne.symm e)]
    · exact sf_rd_up_ne e
  have hrl : ∀ x q, sf_rl (ab_up hp a (.inr (sf_o g, fs.set k (.ref b)))) x q = sf_rl hp x q := by
    intro x q
    by_cases e : x = a
    · subst e
      unfold sf_rl
      rw [ab_up_eq, e1]
      dsimp only
      by_cases e : q = k
      · subst e
        rw [List.getElem?_set_self hilt, e2]
      · rw [List.getElem?_set_ne (Ne.symm e)]
    · exact sf_rl_up_ne e
  have hrr : ∀ x q, x ≠ a ∨ q ≠ k → sf_rr (ab_up hp a (.inr (sf_o g, fs.set k (.ref b)))) x q = sf_rr hp x q := by
    intro x q hq
    by_cases e : x = a
    · subst e
      unfold sf_rr
      rw [ab_up_eq, e1]
      dsimp only
      rw [List.getElem?_set_ne (by rcases hq with h | h; exact absurd rfl h; exact Ne.symm h)]
    · exact sf_rr_up_ne e
  have hrn : sf_rr (ab_up hp a (.inr (sf_o g, fs.set k (.ref b)))) a k = some b := by
    unfold sf_rr
    rw [ab_up_eq]
    dsimp only
    rw [List.getElem?_set_self hilt]
  have sp : sf_sp (t a) k = false := by
    rw [hR.2]
    unfold sf_sp
    rw [decide_eq_false (show ¬ g = 103 by omega), decide_eq_false (show ¬ g = 104 by omega), decide_eq_false (show ¬ g = 106 by omega), decide_eq_false (show ¬ g = 107 by omega), decide_eq_false (show ¬ g = 145 by omega), decide_eq_false (show ¬ g = 132 by omega)]
    rfl
  refine Ev.putf hT hR.1 e1 hilt rfl (h _ (sf_put H hR.1 hR.2 e1 hk ⟨rfl, hb.1, by show (t b : Int) = (g1 : Int); rw [hb.2]⟩ (sf_I_up H (i0 := k) (i1 := k) sp (fun q _ => hr a q) (fun h5 => ⟨hrr a 0 (Or.inr (by have := hR.2.symm.trans h5; omega)), hrr a 1 (Or.inr (by have := hR.2.symm.trans h5; omega))⟩))) (sf_fr_up (i0 := k) (i1 := k) (by rw [hR.2]; exact cv1) cv2 (fun q _ => hr a q) ?_) hrn hrr hr hrl)
  rcases hm with (h | h) | h
  · exact Or.inl h
  · exact Or.inr (Or.inl fun e => h (by rw [← hR.2, e]; exact (H.2.2.1 11 69 rfl).2))
  · exact Or.inr (Or.inr ⟨by omega, by omega⟩)
theorem s0_h {i : Nat} (h : i ≠ 2) : s0.h i = 0 := if_neg h
theorem rr_ne {t : Nat → Nat} {hp : ab_H} {a : Nat} (H : sf_h t hp) (hR : bs_R t hp a 7) : rrD hp a 0 ≠ a ∧ rrD hp a 1 ≠ a ∧ rrD hp a 2 ≠ a ∧ rrD hp a 3 ≠ a ∧ rrD hp a 4 ≠ a ∧ rrD hp a 5 ≠ a ∧ rrD hp a 6 ≠ a :=
  ⟨bs_nq (rr_sort H hR (k := 0) (g := 116) rfl).1 hR (by decide), bs_nq (rr_sort H hR (k := 1) (g := 117) rfl).1 hR (by decide), bs_nq (rr_sort H hR (k := 2) (g := 118) rfl).1 hR (by decide), bs_nq (rr_sort H hR (k := 3) (g := 119) rfl).1 hR (by decide), bs_nq (rr_sort H hR (k := 4) (g := 120) rfl).1 hR (by decide), bs_nq (rr_sort H hR (k := 5) (g := 121) rfl).1 hR (by decide), bs_nq (rr_sort H hR (k := 6) (g := 122) rfl).1 hR (by decide)⟩
theorem SC_load {t : Nat → Nat} {hp hp' : ab_H} {a : Nat} {s : PS} {v : Int} (H : sf_h t hp) (hR : bs_R t hp a 7) (h : SC hp a s) (rr : ∀ k, sf_rr hp' a k = sf_rr hp a k) (rl : ∀ b q, sf_rl hp' b q = sf_rl hp b q) (rd : ∀ b q, b ≠ a ∨ (q ≠ 7 ∧ q ≠ 11) → sf_rd hp' b q = sf_rd hp b q) (e7 : sf_rd hp' a 7 = some v) (e11 : sf_rd hp' a 11 = some 1) : SC hp' a (ups s.h 2 v, s.nm, true, s.tl) := by
  have er : ∀ k, rrD hp' a k = rrD hp a k := fun k => by unfold rrD; rw [rr]
  obtain ⟨n0, n1, n2, n3, n4, n5, n6⟩ := rr_ne H hR
  obtain ⟨A, hA, hB⟩ := h.tl
  exact ⟨e7, (rd a 8 (Or.inr (by decide))).trans h.goods, (rd a 9 (Or.inr (by decide))).trans h.men, (rd a 10 (Or.inr (by decide))).trans h.miss, e11, ⟨A, (rl _ _).trans hA, hB⟩, fun g hg => by rw [er, rl]; exact h.gn g hg, fun g hg => by rw [er, rl]; exact h.mn g hg, fun g hg => by rw [er, rd _ _ (Or.inl n2)]; exact (h.fs g hg).trans (congrArg some (ups_ne (by omega)).symm), fun i hi => by rw [er, rd _ _ (Or.inl n3)]; exact (h.am i hi).trans (congrArg some (ups_ne (by omega)).symm), fun g hg => by rw [er, rd _ _ (Or.inl n4)]; exact (h.m4 g hg).trans (congrArg some (ups_ne (by omega)).symm), fun g hg => by rw [er, rd _ _ (Or.inl n5)]; exact (h.m5 g hg).trans (congrArg some (ups_ne (by omega)).symm), fun g hg => by rw [er, rd _ _ (Or.inl n6)]; exact (h.m6 g hg).trans (congrArg some (ups_ne (by omega)).symm), h.lg, h.lm⟩
theorem SC_good {t : Nat → Nat} {hp hp' : ab_H} {a : Nat} {s : PS} {v : Int} {w : Int64} (H : sf_h t hp) (hR : bs_R t hp a 7) (h : SC hp a s) (h0 : 0 ≤ s.h 0) (h6 : s.h 0 ≤ 5) (hw : w.toInt = c32 7 v) (hv : LW 7 v) (rr : ∀ k, sf_rr hp' a k = sf_rr hp a k) (l1 : sf_rl hp' (rrD hp a 0) (s.h 0).toNat = some w) (rl : ∀ b q, b ≠ rrD hp a 0 ∨ q ≠ (s.h 0).toNat → sf_rl hp' b q = sf_rl hp b q) (rd : ∀ b q, b ≠ a ∨ q ≠ 8 → sf_rd hp' b q = sf_rd hp b q) (e8 : sf_rd hp' a 8 = some (s.h 0 + 1)) : SC hp' a (ups s.h 0 (s.h 0 + 1), ups s.nm (s.h 0).toNat v, s.ld, s.tl) := by
  have er : ∀ k, rrD hp' a k = rrD hp a k := fun k => by unfold rrD; rw [rr]
  obtain ⟨n0, n1, n2, n3, n4, n5, n6⟩ := rr_ne H hR
  have n01 : rrD hp a 1 ≠ rrD hp a 0 := bs_nq (rr_sort H hR (k := 1) (g := 117) rfl).1 (rr_sort H hR (k := 0) (g := 116) rfl).1 (by decide)
  obtain ⟨A, hA, hB⟩ := h.tl
  obtain ⟨v8, f8, l8, u8⟩ := bs_fld (k := 8) H hR (by decide) rfl
  have e80 : v8 = s.h 0 := Option.some.inj (f8.symm.trans h.goods)
  exact ⟨(rd a 7 (Or.inr (by decide))).trans h.load, e8, (rd a 9 (Or.inr (by decide))).trans h.men, (rd a 10 (Or.inr (by decide))).trans h.miss, (rd a 11 (Or.inr (by decide))).trans h.ld, ⟨A, (rl _ _ (Or.inl (Ne.symm n0))).trans hA, hB⟩,
    fun g hg => by
      have hg' : (g : Int) < s.h 0 + 1 := hg
      rw [er]
      by_cases c : g = (s.h 0).toNat
      · rw [c]
        exact ⟨w, l1, by show _ = c32 7 (ups s.nm (s.h 0).toNat v (s.h 0).toNat); rw [ups_eq]; exact hw⟩
      · rw [rl _ _ (Or.inr c)]
        show ∃ w : Int64, _ ∧ w.toInt = c32 7 (ups s.nm (s.h 0).toNat v g)
        rw [ups_ne c]
        exact h.gn g (by omega),
    fun g hg => by
      rw [er, rl _ _ (Or.inl n01)]
      show ∃ w : Int64, _ ∧ w.toInt = c32 7 (ups s.nm (s.h 0).toNat v (6 + g))
      rw [ups_ne (by omega)]
      exact h.mn g hg,
    fun g hg => by rw [er, rd _ _ (Or.inl n2)]; exact (h.fs g hg).trans (congrArg some (ups_ne (by omega)).symm), fun i hi => by rw [er, rd _ _ (Or.inl n3)]; exact (h.am i hi).trans (congrArg some (ups_ne (by omega)).symm), fun g hg => by rw [er, rd _ _ (Or.inl n4)]; exact (h.m4 g hg).trans (congrArg some (ups_ne (by omega)).symm), fun g hg => by rw [er, rd _ _ (Or.inl n5)]; exact (h.m5 g hg).trans (congrArg some (ups_ne (by omega)).symm), fun g hg => by rw [er, rd _ _ (Or.inl n6)]; exact (h.m6 g hg).trans (congrArg some (ups_ne (by omega)).symm),
    fun g hg => by
      have hg' : (g : Int) < s.h 0 + 1 := hg
      show LW 7 (ups s.nm (s.h 0).toNat v g)
      by_cases c : g = (s.h 0).toNat
      · rw [c, ups_eq]
        exact hv
      · rw [ups_ne c]
        exact h.lg g (by omega),
    fun g hg => by
      show LW 7 (ups s.nm (s.h 0).toNat v (6 + g))
      rw [ups_ne (by omega)]
      exact h.lm g hg⟩
theorem SC_man {t : Nat → Nat} {hp hp' : ab_H} {a : Nat} {s : PS} {v d : Int} {w : Int64} (H : sf_h t hp) (hR : bs_R t hp a 7) (h : SC hp a s) (h7 : s.h 1 ≤ 7) (hw : w.toInt = c32 7 v) (hv : LW 7 v) (rr : ∀ k, sf_rr hp' a k = sf_rr hp a k) (l1 : sf_rl hp' (rrD hp a 1) (s.h 1).toNat = some w) (rl : ∀ b q, b ≠ rrD hp a 1 ∨ q ≠ (s.h 1).toNat → sf_rl hp' b q = sf_rl hp b q) (rd : ∀ b q, (b ≠ a ∨ q ≠ 9) → (b ≠ rrD hp a 2 ∨ q ≠ (s.h 1).toNat) → sf_rd hp' b q = sf_rd hp b q) (e9 : sf_rd hp' a 9 = some (s.h 1 + 1)) (e2 : sf_rd hp' (rrD hp a 2) (s.h 1).toNat = some d) : SC hp' a (ups (ups s.h (52 + (s.h 1).toNat) d) 1 (s.h 1 + 1), ups s.nm (6 + (s.h 1).toNat) v, s.ld, s.tl) := by
  have er : ∀ k, rrD hp' a k = rrD hp a k := fun k => by unfold rrD; rw [rr]
  obtain ⟨n0, n1, n2, n3, n4, n5, n6⟩ := rr_ne H hR
  have R := fun (k g : Nat) (hk : (sf_C 7)[k]? = some (1, (g : Int), 0)) => (rr_sort H hR hk).1
  have n01 : rrD hp a 0 ≠ rrD hp a 1 := bs_nq (R 0 116 rfl) (R 1 117 rfl) (by decide)
  have n32 : rrD hp a 3 ≠ rrD hp a 2 := bs_nq (R 3 119 rfl) (R 2 118 rfl) (by decide)
  have n42 : rrD hp a 4 ≠ rrD hp a 2 := bs_nq (R 4 120 rfl) (R 2 118 rfl) (by decide)
  have n52 : rrD hp a 5 ≠ rrD hp a 2 := bs_nq (R 5 121 rfl) (R 2 118 rfl) (by decide)
  have n62 : rrD hp a 6 ≠ rrD hp a 2 := bs_nq (R 6 122 rfl) (R 2 118 rfl) (by decide)
  obtain ⟨A, hA, hB⟩ := h.tl
  obtain ⟨v9, f9, l9, u9⟩ := bs_fld (k := 9) H hR (by decide) rfl
  have e90 : v9 = s.h 1 := Option.some.inj (f9.symm.trans h.men)
  obtain ⟨v8, f8, l8, u8⟩ := bs_fld (k := 8) H hR (by decide) rfl
  have e80 : v8 = s.h 0 := Option.some.inj (f8.symm.trans h.goods)
  obtain ⟨v3, f3, l3, u3⟩ := bs_fld (k := 10) H hR (by decide) rfl
  have e30 : v3 = s.h 3 := Option.some.inj (f3.symm.trans h.miss)
  have U : ∀ i, i ≠ 1 → i ≠ 52 + (s.h 1).toNat → ups (ups s.h (52 + (s.h 1).toNat) d) 1 (s.h 1 + 1) i = s.h i := fun i h1 h2 => (ups_ne h1).trans (ups_ne h2)
  exact ⟨(rd a 7 (Or.inr (by decide)) (Or.inl (Ne.symm n2))).trans (h.load.trans (congrArg some (U 2 (by decide) (by omega)).symm)), (rd a 8 (Or.inr (by decide)) (Or.inl (Ne.symm n2))).trans (h.goods.trans (congrArg some (U 0 (by decide) (by omega)).symm)), e9, (rd a 10 (Or.inr (by decide)) (Or.inl (Ne.symm n2))).trans (h.miss.trans (congrArg some (U 3 (by decide) (by omega)).symm)), (rd a 11 (Or.inr (by decide)) (Or.inl (Ne.symm n2))).trans h.ld, ⟨A, (rl _ _ (Or.inl (Ne.symm n1))).trans hA, hB⟩,
    fun g hg => by
      have hg' : (g : Int) < s.h 0 := (U 0 (by decide) (by omega)) ▸ hg
      rw [er, rl _ _ (Or.inl n01)]
      show ∃ w : Int64, _ ∧ w.toInt = c32 7 (ups s.nm (6 + (s.h 1).toNat) v g)
      rw [ups_ne (by omega)]
      exact h.gn g hg',
    fun g hg => by
      have hg' : (g : Int) < s.h 1 + 1 := hg
      rw [er]
      by_cases c : g = (s.h 1).toNat
      · rw [c]
        exact ⟨w, l1, by show _ = c32 7 (ups s.nm (6 + (s.h 1).toNat) v (6 + (s.h 1).toNat)); rw [ups_eq]; exact hw⟩
      · rw [rl _ _ (Or.inr c)]
        show ∃ w : Int64, _ ∧ w.toInt = c32 7 (ups s.nm (6 + (s.h 1).toNat) v (6 + g))
        rw [ups_ne (by omega)]
        exact h.mn g (by omega),
    fun g hg => by
      have hg' : (g : Int) < s.h 1 + 1 := hg
      rw [er]
      show _ = some (ups (ups s.h (52 + (s.h 1).toNat) d) 1 (s.h 1 + 1) (52 + g))
      rw [ups_ne (by omega)]
      by_cases c : g = (s.h 1).toNat
      · rw [c, ups_eq]
        exact e2
      · rw [ups_ne (by omega), rd _ _ (Or.inl n2) (Or.inr c)]
        exact h.fs g (by omega),
    fun i hi => by rw [er, rd _ _ (Or.inl n3) (Or.inl n32)]; exact (h.am i hi).trans (congrArg some (U _ (by omega) (by omega)).symm), fun g hg => by
      have hg' : (g : Int) < s.h 3 := (U 3 (by decide) (by omega)) ▸ hg
      rw [er, rd _ _ (Or.inl n4) (Or.inl n42)]; exact (h.m4 g hg').trans (congrArg some (U _ (by omega) (by omega)).symm), fun g hg => by
      have hg' : (g : Int) < s.h 3 := (U 3 (by decide) (by omega)) ▸ hg
      rw [er, rd _ _ (Or.inl n5) (Or.inl n52)]; exact (h.m5 g hg').trans (congrArg some (U _ (by omega) (by omega)).symm), fun g hg => by
      have hg' : (g : Int) < s.h 3 := (U 3 (by decide) (by omega)) ▸ hg
      rw [er, rd _ _ (Or.inl n6) (Or.inl n62)]; exact (h.m6 g hg').trans (congrArg some (U _ (by omega) (by omega)).symm),
    fun g hg => by
      have hg' : (g : Int) < s.h 0 := (U 0 (by decide) (by omega)) ▸ hg
      show LW 7 (ups s.nm (6 + (s.h 1).toNat) v g)
      rw [ups_ne (by omega)]
      exact h.lg g hg',
    fun g hg => by
      have hg' : (g : Int) < s.h 1 + 1 := hg
      show LW 7 (ups s.nm (6 + (s.h 1).toNat) v (6 + g))
      by_cases c : g = (s.h 1).toNat
      · rw [c, ups_eq]
        exact hv
      · rw [ups_ne (by omega)]
        exact h.lm g (by omega)⟩
theorem SC_amt {t : Nat → Nat} {hp hp' : ab_H} {a : Nat} {s : PS} {v : Int} {A' : Int64} {x : Nat} (H : sf_h t hp) (hR : bs_R t hp a 7) (h : SC hp a s) (hx : x < 48) (rr : ∀ k, sf_rr hp' a k = sf_rr hp a k) (l1 : sf_rl hp' a 12 = some A') (lt : ∀ i, i < 48 → lb A' i = ups s.tl x true i) (rl : ∀ b q, b ≠ a ∨ q ≠ 12 → sf_rl hp' b q = sf_rl hp b q) (rd : ∀ b q, (b ≠ rrD hp a 3 ∨ q ≠ x) → sf_rd hp' b q = sf_rd hp b q) (e3 : sf_rd hp' (rrD hp a 3) x = some v) : SC hp' a (ups s.h (4 + x) v, s.nm, s.ld, ups s.tl x true) := by
  have er : ∀ k, rrD hp' a k = rrD hp a k := fun k => by unfold rrD; rw [rr]
  obtain ⟨n0, n1, n2, n3, n4, n5, n6⟩ := rr_ne H hR
  have R := fun (k g : Nat) (hk : (sf_C 7)[k]? = some (1, (g : Int), 0)) => (rr_sort H hR hk).1
  have m23 : rrD hp a 2 ≠ rrD hp a 3 := bs_nq (R 2 118 rfl) (R 3 119 rfl) (by decide)
  have m43 : rrD hp a 4 ≠ rrD hp a 3 := bs_nq (R 4 120 rfl) (R 3 119 rfl) (by decide)
  have m53 : rrD hp a 5 ≠ rrD hp a 3 := bs_nq (R 5 121 rfl) (R 3 119 rfl) (by decide)
  have m63 : rrD hp a 6 ≠ rrD hp a 3 := bs_nq (R 6 122 rfl) (R 3 119 rfl) (by decide)
  have na : a ≠ rrD hp a 3 := Ne.symm n3
  have U : ∀ i, i ≠ 4 + x → ups s.h (4 + x) v i = s.h i := fun i h1 => ups_ne h1
  have g0 : ∀ {g : Nat}, (g : Int) < ups s.h (4 + x) v 0 → (g : Int) < s.h 0 := fun hg => (U 0 (by omega)) ▸ hg
  have g1 : ∀ {g : Nat}, (g : Int) < ups s.h (4 + x) v 1 → (g : Int) < s.h 1 := fun hg => (U 1 (by omega)) ▸ hg
  have g3 : ∀ {g : Nat}, (g : Int) < ups s.h (4 + x) v 3 → (g : Int) < s.h 3 := fun hg => (U 3 (by omega)) ▸ hg
  exact ⟨(rd a 7 (Or.inl na)).trans (h.load.trans (congrArg some (U 2 (by omega)).symm)), (rd a 8 (Or.inl na)).trans (h.goods.trans (congrArg some (U 0 (by omega)).symm)), (rd a 9 (Or.inl na)).trans (h.men.trans (congrArg some (U 1 (by omega)).symm)), (rd a 10 (Or.inl na)).trans (h.miss.trans (congrArg some (U 3 (by omega)).symm)), (rd a 11 (Or.inl na)).trans h.ld, ⟨A', l1, lt⟩, fun g hg => by rw [er, rl _ _ (Or.inl n0)]; exact h.gn g (g0 hg), fun g hg => by rw [er, rl _ _ (Or.inl n1)]; exact h.mn g (g1 hg), fun g hg => by rw [er, rd _ _ (Or.inl m23)]; exact (h.fs g (g1 hg)).trans (congrArg some (U _ (by omega)).symm),
    fun i hi => by
      rw [er]
      show _ = some (ups s.h (4 + x) v (4 + i))
      by_cases c : i = x
      · rw [c, ups_eq]
        exact e3
      · rw [ups_ne (by omega), rd _ _ (Or.inr c)]
        exact h.am i hi,
    fun g hg => by rw [er, rd _ _ (Or.inl m43)]; exact (h.m4 g (g3 hg)).trans (congrArg some (U _ (by omega)).symm), fun g hg => by rw [er, rd _ _ (Or.inl m53)]; exact (h.m5 g (g3 hg)).trans (congrArg some (U _ (by omega)).symm), fun g hg => by rw [er, rd _ _ (Or.inl m63)]; exact (h.m6 g (g3 hg)).trans (congrArg some (U _ (by omega)).symm), fun g hg => h.lg g (g0 hg), fun g hg => h.lm g (g1 hg)⟩
theorem SC_miss {t : Nat → Nat} {hp hp' : ab_H} {a : Nat} {s : PS} {v q d : Int} (H : sf_h t hp) (hR : bs_R t hp a 7) (h : SC hp a s) (h19 : s.h 3 ≤ 19) (rr : ∀ k, sf_rr hp' a k = sf_rr hp a k) (rl : ∀ b q, sf_rl hp' b q = sf_rl hp b q) (rd : ∀ b i, (b ≠ a ∨ i ≠ 10) → (b ≠ rrD hp a 4 ∨ i ≠ (s.h 3).toNat) → (b ≠ rrD hp a 5 ∨ i ≠ (s.h 3).toNat) → (b ≠ rrD hp a 6 ∨ i ≠ (s.h 3).toNat) → sf_rd hp' b i = sf_rd hp b i) (e10 : sf_rd hp' a 10 = some (s.h 3 + 1)) (e4 : sf_rd hp' (rrD hp a 4) (s.h 3).toNat = some v) (e5 : sf_rd hp' (rrD hp a 5) (s.h 3).toNat = some q) (e6 : sf_rd hp' (rrD hp a 6) (s.h 3).toNat = some d) : SC hp' a (ups (ups (ups (ups s.h (60 + (s.h 3).toNat) v) (80 + (s.h 3).toNat) q) (100 + (s.h 3).toNat) d) 3 (s.h 3 + 1), s.nm, s.ld, s.tl) := by
  have er : ∀ k, rrD hp' a k = rrD hp a k := fun k => by unfold rrD; rw [rr]
  obtain ⟨n0, n1, n2, n3, n4, n5, n6⟩ := rr_ne H hR
  have R := fun (k g : Nat) (hk : (sf_C 7)[k]? = some (1, (g : Int), 0)) => (rr_sort H hR hk).1
  have m24 : rrD hp a 2 ≠ rrD hp a 4 := bs_nq (R 2 118 rfl) (R 4 120 rfl) (by decide)
  have m25 : rrD hp a 2 ≠ rrD hp a 5 := bs_nq (R 2 118 rfl) (R 5 121 rfl) (by decide)
  have m26 : rrD hp a 2 ≠ rrD hp a 6 := bs_nq (R 2 118 rfl) (R 6 122 rfl) (by decide)
  have m34 : rrD hp a 3 ≠ rrD hp a 4 := bs_nq (R 3 119 rfl) (R 4 120 rfl) (by decide)
  have m35 : rrD hp a 3 ≠ rrD hp a 5 := bs_nq (R 3 119 rfl) (R 5 121 rfl) (by decide)
  have m36 : rrD hp a 3 ≠ rrD hp a 6 := bs_nq (R 3 119 rfl) (R 6 122 rfl) (by decide)
  have m45 : rrD hp a 4 ≠ rrD hp a 5 := bs_nq (R 4 120 rfl) (R 5 121 rfl) (by decide)
  have m46 : rrD hp a 4 ≠ rrD hp a 6 := bs_nq (R 4 120 rfl) (R 6 122 rfl) (by decide)
  have m56 : rrD hp a 5 ≠ rrD hp a 6 := bs_nq (R 5 121 rfl) (R 6 122 rfl) (by decide)
  obtain ⟨A, hA, hB⟩ := h.tl
  obtain ⟨v3, f3, l3, u3⟩ := bs_fld (k := 10) H hR (by decide) rfl
  have e30 : v3 = s.h 3 := Option.some.inj (f3.symm.trans h.miss)
  obtain ⟨v9, f9, l9, u9⟩ := bs_fld (k := 9) H hR (by decide) rfl
  have e90 : v9 = s.h 1 := Option.some.inj (f9.symm.trans h.men)
  have U : ∀ i, i ≠ 3 → i ≠ 60 + (s.h 3).toNat → i ≠ 80 + (s.h 3).toNat → i ≠ 100 + (s.h 3).toNat → ups (ups (ups (ups s.h (60 + (s.h 3).toNat) v) (80 + (s.h 3).toNat) q) (100 + (s.h 3).toNat) d) 3 (s.h 3 + 1) i = s.h i := fun i h1 h2 h3 h4 => (ups_ne h1).trans ((ups_ne h4).trans ((ups_ne h3).trans (ups_ne h2)))
  have g0 : ∀ {g : Nat}, (g : Int) < ups (ups (ups (ups s.h (60 + (s.h 3).toNat) v) (80 + (s.h 3).toNat) q) (100 + (s.h 3).toNat) d) 3 (s.h 3 + 1) 0 → (g : Int) < s.h 0 := fun hg => (U 0 (by omega) (by omega) (by omega) (by omega)) ▸ hg
  have g1 : ∀ {g : Nat}, (g : Int) < ups (ups (ups (ups s.h (60 + (s.h 3).toNat) v) (80 + (s.h 3).toNat) q) (100 + (s.h 3).toNat) d) 3 (s.h 3 + 1) 1 → (g : Int) < s.h 1 := fun hg => (U 1 (by omega) (by omega) (by omega) (by omega)) ▸ hg
  have ra : ∀ i, i ≠ 10 → sf_rd hp' a i = sf_rd hp a i := fun i hi => rd a i (Or.inr hi) (Or.inl (Ne.symm n4)) (Or.inl (Ne.symm n5)) (Or.inl (Ne.symm n6))
  exact ⟨(ra 7 (by decide)).trans (h.load.trans (congrArg some (U 2 (by omega) (by omega) (by omega) (by omega)).symm)), (ra 8 (by decide)).trans (h.goods.trans (congrArg some (U 0 (by omega) (by omega) (by omega) (by omega)).symm)), (ra 9 (by decide)).trans (h.men.trans (congrArg some (U 1 (by omega) (by omega) (by omega) (by omega)).symm)), e10, (ra 11 (by decide)).trans h.ld, ⟨A, (rl _ _).trans hA, hB⟩, fun g hg => by rw [er, rl]; exact h.gn g (g0 hg), fun g hg => by rw [er, rl]; exact h.mn g (g1 hg), fun g hg => by rw [er, rd _ _ (Or.inl n2) (Or.inl m24) (Or.inl m25) (Or.inl m26)]; have := g1 hg; exact (h.fs g (g1 hg)).trans (congrArg some (U _ (by omega) (by omega) (by omega) (by omega)).symm), fun i hi => by rw [er, rd _ _ (Or.inl n3) (Or.inl m34) (Or.inl m35) (Or.inl m36)]; exact (h.am i hi).trans (congrArg some (U _ (by omega) (by omega) (by omega) (by omega)).symm),
    fun g hg => by
      have hg' : (g : Int) < s.h 3 + 1 := hg
      rw [er]
      show _ = some (ups (ups (ups (ups s.h (60 + (s.h 3).toNat) v) (80 + (s.h 3).toNat) q) (100 + (s.h 3).toNat) d) 3 (s.h 3 + 1) (60 + g))
      rw [ups_ne (by omega), ups_ne (by omega), ups_ne (by omega)]
      by_cases c : g = (s.h 3).toNat
      · rw [c, ups_eq]
        exact e4
      · rw [ups_ne (by omega), rd _ _ (Or.inl n4) (Or.inr c) (Or.inl m45) (Or.inl m46)]
        exact h.m4 g (by omega),
    fun g hg => by
      have hg' : (g : Int) < s.h 3 + 1 := hg
      rw [er]
      show _ = some (ups (ups (ups (ups s.h (60 + (s.h 3).toNat) v) (80 + (s.h 3).toNat) q) (100 + (s.h 3).toNat) d) 3 (s.h 3 + 1) (80 + g))
      rw [ups_ne (by omega), ups_ne (by omega)]
      by_cases c : g = (s.h 3).toNat
      · rw [c, ups_eq]
        exact e5
      · rw [ups_ne (by omega), ups_ne (by omega), rd _ _ (Or.inl n5) (Or.inl (Ne.symm m45)) (Or.inr c) (Or.inl m56)]
        exact h.m5 g (by omega),
    fun g hg => by
      have hg' : (g : Int) < s.h 3 + 1 := hg
      rw [er]
      show _ = some (ups (ups (ups (ups s.h (60 + (s.h 3).toNat) v) (80 + (s.h 3).toNat) q) (100 + (s.h 3).toNat) d) 3 (s.h 3 + 1) (100 + g))
      rw [ups_ne (by omega)]
      by_cases c : g = (s.h 3).toNat
      · rw [c, ups_eq]
        exact e6
      · rw [ups_ne (by omega), ups_ne (by omega), ups_ne (by omega), rd _ _ (Or.inl n6) (Or.inl (Ne.symm m46)) (Or.inl (Ne.symm m56)) (Or.inr c)]
        exact h.m6 g (by omega),
    fun g hg => h.lg g (g0 hg), fun g hg => h.lm g (g1 hg)⟩
end
-- 63.b29.lean.txt
section
def kq_X7_clear_v : sf_Q := ([(1, 7, 0)], [], none, [], [(7, 7, 12), (119, 0, 47)])
def ke_X7_clear_v : List Value → ab_H → Option Value → ab_H → Prop := fun as _ _ hp' => ∀ a : Nat, as = [.ref a] → SC hp' a s0
set_option maxRecDepth 100000 in
set_option maxHeartbeats 4000000 in
theorem ce_X7_clear_v : sf_cE kq_X7_clear_v Z_X7_clear ke_X7_clear_v := by
  intro t hp as H hl hj hpre
  match as, hl with
  | [v0], _ =>
    obtain ⟨a0, rfl, ra0⟩ := bs_aR (hj 0 _ rfl)
    clear hpre hj
    have F0 : sf_fr [(7, 7, 12), (119, 0, 47)] t hp t hp := sf_fr_rf
    refine bs_finx (E := ke_X7_clear_v) (K := kq_X7_clear_v) (L := L_X7_clear) (nL := 2) (Nat.le_of_ble_eq_true rfl) ?_
    obtain ⟨Q, hQ⟩ : ∃ Q : ab_O → Prop, Q = (fun o => ∃ t', sf_h t' o.2 ∧ sf_fr (kq_X7_clear_v).2.2.2.2 t hp t' o.2 ∧ sf_an t' o.2.1 (kq_X7_clear_v).2.2.1 o.1 ∧ sf_S (sf_v1 o.1 [.ref a0] o.2) (kq_X7_clear_v).2.2.2.1 ∧ ke_X7_clear_v [.ref a0] hp o.1 o.2) := ⟨_, rfl⟩
    rw [← hQ]
    refine (show Ev (ab_T L_X7_clear) 0 ([some (.ref a0), none], [], (0, 0), hp) Q from ?_)
    refine bs_lit (k := 0) rfl rfl fun z1 hz1 => ?_
    refine Ev.step (j := 2) (s' := ([some (.ref a0), some (.int z1)], [], (0, 0), hp)) rfl rfl ?_
    refine bs_loop (ι := Int32 × ab_H × (Nat → Nat)) (fun ⟨k2, hp3, t4⟩ => ([some (.ref a0), some (.int k2)], [], (0, 0), hp3)) (fun ⟨k2, hp3, t4⟩ => (sf_h t4 hp3) ∧ (sf_fr [(7, 7, 12), (119, 0, 47)] t hp t4 hp3) ∧ (0 ≤ k2.toInt ∧ k2.toInt ≤ 48) ∧ (∀ j : Nat, (j : Int) < k2.toInt → sf_rd hp3 (rrD hp a0 3) j = some 0) ∧ (∀ k, sf_rr hp3 a0 k = sf_rr hp a0 k)) (fun ⟨k2, hp3, t4⟩ => (48 - k2.toInt).toNat) ?_ (z1, hp, t) ⟨H, F0, (by first | omega | assumption), (by first | exact INV | exact fun j h => absurd h (by omega)), (by first | exact RRN | exact fun _ => rfl)⟩
    rintro ⟨k2, hp3, t4⟩ ⟨Hhp3, Fhp3, i6, i7, i8⟩ ih5
    refine (show Ev _ 2 ([some (.ref a0), some (.int k2)], [], (0, 0), hp3) _ from ?_)
    exact by
     refine Ev.step (j := 3) (s' := ([some (.ref a0), some (.int k2)], [.int k2], (0, 0), hp3)) rfl rfl ?_
     refine Ev.step (j := 4) (s' := ([some (.ref a0), some (.int k2)], [.ref a0, .int k2], (0, 0), hp3)) rfl rfl ?_
     refine bs_getR (g := 7) (g1 := 119) rfl rfl Hhp3 (ra0.fr Fhp3) (by decide) rfl fun b9 qb9 rb9 => ?_
     refine bs_alen (g := 119) (k := 48) rfl Hhp3 rb9 (by decide) rfl (by decide) (by decide) (by decide) fun z10 hz10 => ?_
     refine bs_ge rfl (fun c11 => ?_) (fun c11 => ?_)
     · skip
       refine Ev.step (j := 25) (s' := ([some (.ref a0), some (.int k2)], [.ref a0], (0, 0), hp3)) rfl rfl ?_
       refine bs_lit (k := 10) rfl rfl fun z12 hz12 => ?_
       refine bs_putIv (W := [(7, 7, 7)]) (g := 7) rfl rfl Hhp3 (ra0.fr Fhp3) (by decide) rfl rfl rfl rfl (Or.inl rfl) (by omega) (by omega) fun hp13 Hhp13 fhp13 rhp13 ehp13 qhp13 nhp13 => ?_
       have Fhp13 := sf_fr_tr Fhp3 (sf_fr_wider (W := [(7, 7, 12), (119, 0, 47)]) rfl fhp13)
       have r14 := rb9.fr fhp13
       refine Ev.step (j := 31) (s' := ([some (.ref a0), some (.int k2)], [.ref a0], (0, 0), hp13)) rfl rfl ?_
       exact by
        refine bs_lit (k := 0) rfl rfl fun z15 hz15 => ?_
        refine bs_putIv (W := [(7, 8, 8)]) (g := 7) rfl rfl Hhp13 (ra0.fr Fhp13) (by decide) rfl rfl rfl rfl (Or.inl rfl) (by omega) (by omega) fun hp16 Hhp16 fhp16 rhp16 ehp16 qhp16 nhp16 => ?_
        have Fhp16 := sf_fr_tr Fhp13 (sf_fr_wider (W := [(7, 7, 12), (119, 0, 47)]) rfl fhp16)
        have h17 : sf_rd hp16 a0 7 = some z12.toInt := (ehp16 _ _ (Or.inr (by omega))).trans rhp13
        have r18 := r14.fr fhp16
        refine Ev.step (j := 36) (s' := ([some (.ref a0), some (.int k2)], [.ref a0], (0, 0), hp16)) rfl rfl ?_
        refine bs_lit (k := 0) rfl rfl fun z19 hz19 => ?_
        refine bs_putIv (W := [(7, 9, 9)]) (g := 7) rfl rfl Hhp16 (ra0.fr Fhp16) (by decide) rfl rfl rfl rfl (Or.inl rfl) (by omega) (by omega) fun hp20 Hhp20 fhp20 rhp20 ehp20 qhp20 nhp20 => ?_
        have Fhp20 := sf_fr_tr Fhp16 (sf_fr_wider (W := [(7, 7, 12), (119, 0, 47)]) rfl fhp20)
        have h21 : sf_rd hp20 a0 7 = some z12.toInt := (ehp20 _ _ (Or.inr (by omega))).trans h17
        have h22 : sf_rd hp20 a0 8 = some z15.toInt := (ehp20 _ _ (Or.inr (by omega))).trans rhp16
        have r23 := r18.fr fhp20
        refine Ev.step (j := 41) (s' := ([some (.ref a0), some (.int k2)], [.ref a0], (0, 0), hp20)) rfl rfl ?_
        exact by
         refine bs_lit (k := 0) rfl rfl fun z24 hz24 => ?_
         refine bs_putIv (W := [(7, 10, 10)]) (g := 7) rfl rfl Hhp20 (ra0.fr Fhp20) (by decide) rfl rfl rfl rfl (Or.inl rfl) (by omega) (by omega) fun hp25 Hhp25 fhp25 rhp25 ehp25 qhp25 nhp25 => ?_
         have Fhp25 := sf_fr_tr Fhp20 (sf_fr_wider (W := [(7, 7, 12), (119, 0, 47)]) rfl fhp25)
         have h26 : sf_rd hp25 a0 7 = some z12.toInt := (ehp25 _ _ (Or.inr (by omega))).trans h21
         have h27 : sf_rd hp25 a0 8 = some z15.toInt := (ehp25 _ _ (Or.inr (by omega))).trans h22
         have h28 : sf_rd hp25 a0 9 = some z19.toInt := (ehp25 _ _ (Or.inr (by omega))).trans rhp20
         have r29 := r23.fr fhp25
         refine Ev.step (j := 46) (s' := ([some (.ref a0), some (.int k2)], [.ref a0], (0, 0), hp25)) rfl rfl ?_
         exact by
          refine bs_lit (k := 0) rfl rfl fun z30 hz30 => ?_
          refine bs_putIv (W := [(7, 11, 11)]) (g := 7) rfl rfl Hhp25 (ra0.fr Fhp25) (by decide) rfl rfl rfl rfl (Or.inr ⟨rfl, by omega, by omega⟩) (by omega) (by omega) fun hp31 Hhp31 fhp31 rhp31 ehp31 qhp31 nhp31 => ?_
          have Fhp31 := sf_fr_tr Fhp25 (sf_fr_wider (W := [(7, 7, 12), (119, 0, 47)]) rfl fhp31)
          have h32 : sf_rd hp31 a0 7 = some z12.toInt := (ehp31 _ _ (Or.inr (by omega))).trans h26
          have h33 : sf_rd hp31 a0 8 = some z15.toInt := (ehp31 _ _ (Or.inr (by omega))).trans h27
          have h34 : sf_rd hp31 a0 9 = some z19.toInt := (ehp31 _ _ (Or.inr (by omega))).trans h28
          have h35 : sf_rd hp31 a0 10 = some z24.toInt := (ehp31 _ _ (Or.inr (by omega))).trans rhp25
          have r36 := r29.fr fhp31
          refine Ev.step (j := 51) (s' := ([some (.ref a0), some (.int k2)], [.ref a0], (0, 0), hp31)) rfl rfl ?_
          exact by
           refine Ev.step (j := 52) (s' := ([some (.ref a0), some (.int k2)], [.long (0 : Int64), .ref a0], (0, 0), hp31)) rfl rfl ?_
           refine bs_putLv (W := [(7, 12, 12)]) (g := 7) rfl rfl Hhp31 (ra0.fr Fhp31) (by decide) rfl rfl rfl rfl fun hp37 Hhp37 fhp37 mhp37 lhp37 ehp37 qhp37 => ?_
           have Fhp37 := sf_fr_tr Fhp31 (sf_fr_wider (W := [(7, 7, 12), (119, 0, 47)]) rfl fhp37)
           have h38 : sf_rd hp37 a0 7 = some z12.toInt := (ehp37 _ _).trans h32
           have h39 : sf_rd hp37 a0 8 = some z15.toInt := (ehp37 _ _).trans h33
           have h40 : sf_rd hp37 a0 9 = some z19.toInt := (ehp37 _ _).trans h34
           have h41 : sf_rd hp37 a0 10 = some z24.toInt := (ehp37 _ _).trans h35
           have h42 : sf_rd hp37 a0 11 = some z30.toInt := (ehp37 _ _).trans rhp31
           have r43 := r36.fr fhp37
           exact Ev.ret rfl rfl (by rw [hQ]; exact ⟨t4, Hhp37, Fhp37, bs_anU, sf_S_nil, (fun a ha => by
                   have RR : ∀ k, sf_rr hp37 a0 k = sf_rr hp a0 k := fun k => ((qhp37 _ _).trans ((qhp31 _ _).trans ((qhp25 _ _).trans ((qhp20 _ _).trans ((qhp16 _ _).trans ((qhp13 _ _).trans (i8 k)))))))
                   have RD : ∀ k, rrD hp37 a0 k = rrD hp a0 k := fun k => by unfold rrD; rw [RR]
                   cases ha
                   exact ⟨h38.trans (congrArg some (by show _ = (10 : Int); omega)), h39.trans (congrArg some (by show _ = (0 : Int); omega)), h40.trans (congrArg some (by show _ = (0 : Int); omega)), h41.trans (congrArg some (by show _ = (0 : Int); omega)), h42.trans (congrArg some (by show _ = (0 : Int); omega)), ⟨_, mhp37, fun i _ => by show (0 : Int64).toBitVec.getLsbD i = false; exact BitVec.getLsbD_zero⟩, fun g hg => absurd (show (g : Int) < 0 from hg) (by omega), fun g hg => absurd (show (g : Int) < 0 from hg) (by omega), fun g hg => absurd (show (g : Int) < 0 from hg) (by omega), fun i hi => by rw [RD]; exact ((ehp37 _ _).trans ((ehp31 _ _ (Or.inl (bs_nq (rr_sort H ra0 (k := 3) (g := 119) rfl).1 ra0 (by decide)))).trans ((ehp25 _ _ (Or.inl (bs_nq (rr_sort H ra0 (k := 3) (g := 119) rfl).1 ra0 (by decide)))).trans ((ehp20 _ _ (Or.inl (bs_nq (rr_sort H ra0 (k := 3) (g := 119) rfl).1 ra0 (by decide)))).trans ((ehp16 _ _ (Or.inl (bs_nq (rr_sort H ra0 (k := 3) (g := 119) rfl).1 ra0 (by decide)))).trans (ehp13 _ _ (Or.inl (bs_nq (rr_sort H ra0 (k := 3) (g := 119) rfl).1 ra0 (by decide))))))))).trans ((i7 i (by omega)).trans (congrArg some (s0_h (by omega)).symm)), fun g hg => absurd (show (g : Int) < 0 from hg) (by omega), fun g hg => absurd (show (g : Int) < 0 from hg) (by omega), fun g hg => absurd (show (g : Int) < 0 from hg) (by omega), fun g hg => absurd (show (g : Int) < 0 from hg) (by omega), fun g hg => absurd (show (g : Int) < 0 from hg) (by omega)⟩)⟩)
     · skip
       refine Ev.step (j := 12) (s' := ([some (.ref a0), some (.int k2)], [.ref a0], (0, 0), hp3)) rfl rfl ?_
       exact by
        refine bs_getR (g := 7) (g1 := 119) rfl rfl Hhp3 (ra0.fr Fhp3) (by decide) rfl fun b44 qb44 rb44 => ?_
        refine Ev.step (j := 16) (s' := ([some (.ref a0), some (.int k2)], [.int k2, .ref b44], (0, 0), hp3)) rfl rfl ?_
        refine bs_lit (k := 0) rfl rfl fun z45 hz45 => ?_
        refine bs_stv (W := [(119, 0, 47)]) (g := 119) 0 47 (0, 250) rfl Hhp3 rb44 (by decide) rfl rfl (by decide) rfl rfl (by omega) (by omega) (by dsimp only; omega) (by dsimp only; omega) fun hp46 Hhp46 fhp46 rhp46 ehp46 qhp46 nhp46 => ?_
        have Fhp46 := sf_fr_tr Fhp3 (sf_fr_wider (W := [(7, 7, 12), (119, 0, 47)]) rfl fhp46)
        have r47 := rb9.fr fhp46
        have r48 := rb44.fr fhp46
        refine bs_iinc (1) rfl rfl rfl rfl (by omega) (by omega) fun z49 hz49 => ?_
        exact by
         refine (show Ev _ 21 ([some (.ref a0), some (.int z49)], [], (0, 0), hp46) _ from ?_)
         refine Ev.step (j := 2) (s' := ([some (.ref a0), some (.int z49)], [], (0, 0), hp46)) rfl rfl ?_
         have EB : b44 = rrD hp a0 3 := (rrD_of ((i8 3).symm.trans qb44)).symm
         have INV : ∀ j : Nat, (j : Int) < z49.toInt → sf_rd hp46 (rrD hp a0 3) j = some 0 := by
           intro j hj
           rcases (show (j : Int) < k2.toInt ∨ j = k2.toInt.toNat by omega) with h | h
           · exact (ehp46 _ _ (Or.inr (by omega))).trans (i7 j h)
           · rw [h, ← EB]; exact rhp46.trans (congrArg some (by omega))
         have RRN : ∀ k, sf_rr hp46 a0 k = sf_rr hp a0 k := fun k => (qhp46 _ _).trans (i8 k)
         refine ih5 (z49, hp46, t4) ⟨Hhp46, Fhp46, (by first | omega | assumption), (by first | exact INV | exact fun j h => absurd h (by omega)), (by first | exact RRN | exact fun _ => rfl)⟩ ?_
         show (48 - z49.toInt).toNat < (48 - k2.toInt).toNat
         omega
def kq_X9_step_v : sf_Q := ([(1, 9, 0)], [], none, [], [(9, 4, 8)])
def ke_X9_step_v : List Value → ab_H → Option Value → ab_H → Prop := fun _ hp _ hp' => ∀ (B : Nat → Int) (n lim m i : Nat), CK hp B n lim m i → i < m → CUR hp' (tok B n lim i) ∧ CK hp' B n lim m (i + 1)
set_option maxRecDepth 100000 in
set_option maxHeartbeats 4000000 in
theorem ce_X9_step_v : sf_cE kq_X9_step_v Z_X9_step ke_X9_step_v := by
  intro t hp as H hl hj hpre
  match as, hl with
  | [v0], _ =>
    obtain ⟨a0, rfl, ra0⟩ := bs_aR (hj 0 _ rfl)
    obtain rfl := ra0.eq H (p := 3) rfl
    clear hpre hj
    have F0 : sf_fr [(9, 4, 8)] t hp t hp := sf_fr_rf
    refine bs_finx (E := ke_X9_step_v) (K := kq_X9_step_v) (L := L_X9_step) (nL := 1) (Nat.le_of_ble_eq_true rfl) ?_
    obtain ⟨Q, hQ⟩ : ∃ Q : ab_O → Prop, Q = (fun o => ∃ t', sf_h t' o.2 ∧ sf_fr (kq_X9_step_v).2.2.2.2 t hp t' o.2 ∧ sf_an t' o.2.1 (kq_X9_step_v).2.2.1 o.1 ∧ sf_S (sf_v1 o.1 [.ref 3] o.2) (kq_X9_step_v).2.2.2.1 ∧ ke_X9_step_v [.ref 3] hp o.1 o.2) := ⟨_, rfl⟩
    rw [← hQ]
    refine (show Ev (ab_T L_X9_step) 0 ([some (.ref 3)], [], (0, 0), hp) Q from ?_)
    obtain ⟨i0, hi0, li0, ui0⟩ := bs_fld (k := 4) H (bs_R.uq H (g := 9) rfl) (by decide) rfl
    obtain ⟨m0, hm0, lm0, um0⟩ := bs_fld (k := 3) H (bs_R.uq H (g := 9) rfl) (by decide) rfl
    refine Ev.step (j := 1) (s' := ([some (.ref 3)], [.ref 3], (0, 0), hp)) rfl rfl ?_
    exact by
     refine bs_getI 9 rfl rfl rfl H (bs_R.uq H (g := 9) rfl) (by decide) rfl fun z1 hz1 lz1 gz1 => ?_
     have e2 : z1.toInt = i0 := Option.some.inj (hz1.symm.trans hi0)
     refine Ev.step (j := 5) (s' := ([some (.ref 3)], [.ref 3, .int z1], (0, 0), hp)) rfl rfl ?_
     refine bs_getI 9 rfl rfl rfl H (bs_R.uq H (g := 9) rfl) (by decide) rfl fun z3 hz3 lz3 gz3 => ?_
     have e4 : z3.toInt = m0 := Option.some.inj (hz3.symm.trans hm0)
     refine bs_ge rfl (fun c5 => ?_) (fun c5 => ?_)
     · skip
       exact Ev.ret rfl rfl (by rw [hQ]; exact ⟨t, H, F0, bs_anU, sf_S_nil, (fun B n lim m i hC hi_ => by have e1 : i0 = (i : Int) := Option.some.inj (hi0.symm.trans hC.2.1); have e2 : m0 = (m : Int) := Option.some.inj (hm0.symm.trans hC.1.2.2.1); have m9 := hC.1.2.1; exfalso; omega)⟩)
     · skip
       refine Ev.step (j := 12) (s' := ([some (.ref 3)], [.ref 3], (0, 0), hp)) rfl rfl ?_
       refine bs_getI 9 rfl rfl rfl H (bs_R.uq H (g := 9) rfl) (by decide) rfl fun z6 hz6 lz6 gz6 => ?_
       have e7 : z6.toInt = i0 := Option.some.inj (hz6.symm.trans hi0)
       refine bs_lit (k := 901) rfl rfl fun z8 hz8 => ?_
       exact by
        refine bs_ge rfl (fun c9 => ?_) (fun c9 => ?_)
        · skip
          exact Ev.ret rfl rfl (by rw [hQ]; exact ⟨t, H, F0, bs_anU, sf_S_nil, (fun B n lim m i hC hi_ => by have e1 : i0 = (i : Int) := Option.some.inj (hi0.symm.trans hC.2.1); have e2 : m0 = (m : Int) := Option.some.inj (hm0.symm.trans hC.1.2.2.1); have m9 := hC.1.2.1; exfalso; omega)⟩)
        · skip
          refine Ev.step (j := 22) (s' := ([some (.ref 3)], [.ref 3], (0, 0), hp)) rfl rfl ?_
          refine Ev.step (j := 23) (s' := ([some (.ref 3)], [.ref 3, .ref 3], (0, 0), hp)) rfl rfl ?_
          refine bs_getU (g := 9) (g1 := 124) rfl rfl H (bs_R.uq H (g := 9) rfl) (by decide) rfl rfl ?_
          refine Ev.step (j := 27) (s' := ([some (.ref 3)], [.ref 3, .ref 4, .ref 3], (0, 0), hp)) rfl rfl ?_
          refine bs_getI 9 rfl rfl rfl H (bs_R.uq H (g := 9) rfl) (by decide) rfl fun z10 hz10 lz10 gz10 => ?_
          have e11 : z10.toInt = i0 := Option.some.inj (hz10.symm.trans hi0)
          refine bs_ld (g := 124) 0 900 (-2147483648, 2147483647) rfl H (bs_R.uq H (g := 124) rfl) (by decide) rfl (by decide) (by decide) rfl (by decide) (by omega) (by omega) fun z12 hz12 lz12 gz12 => ?_
          dsimp only at lz12 gz12
          refine bs_putIv (W := [(9, 5, 5)]) (g := 9) rfl rfl H (bs_R.uq H (g := 9) rfl) (by decide) rfl rfl rfl rfl (Or.inl rfl) (by omega) (by omega) fun hp13 Hhp13 fhp13 rhp13 ehp13 qhp13 nhp13 => ?_
          have Fhp13 := sf_fr_tr F0 (sf_fr_wider (W := [(9, 4, 8)]) rfl fhp13)
          have h14 : sf_rd hp13 3 4 = some i0 := (ehp13 _ _ (Or.inr (by omega))).trans hi0
          have h15 : sf_rd hp13 3 3 = some m0 := (ehp13 _ _ (Or.inr (by omega))).trans hm0
          have h16 : sf_rd hp13 4 z10.toInt.toNat = some z12.toInt := (ehp13 _ _ (Or.inl (by decide))).trans hz12
          refine Ev.step (j := 35) (s' := ([some (.ref 3)], [.ref 3], (0, 0), hp13)) rfl rfl ?_
          exact by
           refine Ev.step (j := 36) (s' := ([some (.ref 3)], [.ref 3, .ref 3], (0, 0), hp13)) rfl rfl ?_
           refine bs_getU (g := 9) (g1 := 125) rfl rfl Hhp13 (bs_R.uq Hhp13 (g := 9) rfl) (by decide) rfl rfl ?_
           refine Ev.step (j := 40) (s' := ([some (.ref 3)], [.ref 3, .ref 5, .ref 3], (0, 0), hp13)) rfl rfl ?_
           refine bs_getI 9 rfl rfl rfl Hhp13 (bs_R.uq Hhp13 (g := 9) rfl) (by decide) rfl fun z17 hz17 lz17 gz17 => ?_
           have e18 : z17.toInt = i0 := Option.some.inj (hz17.symm.trans h14)
           refine bs_ld (g := 125) 0 900 (-2147483648, 2147483647) rfl Hhp13 (bs_R.uq Hhp13 (g := 125) rfl) (by decide) rfl (by decide) (by decide) rfl (by decide) (by omega) (by omega) fun z19 hz19 lz19 gz19 => ?_
           dsimp only at lz19 gz19
           refine bs_putIv (W := [(9, 6, 6)]) (g := 9) rfl rfl Hhp13 (bs_R.uq Hhp13 (g := 9) rfl) (by decide) rfl rfl rfl rfl (Or.inl rfl) (by omega) (by omega) fun hp20 Hhp20 fhp20 rhp20 ehp20 qhp20 nhp20 => ?_
           have Fhp20 := sf_fr_tr Fhp13 (sf_fr_wider (W := [(9, 4, 8)]) rfl fhp20)
           have h21 : sf_rd hp20 3 4 = some i0 := (ehp20 _ _ (Or.inr (by omega))).trans h14
           have h22 : sf_rd hp20 3 3 = some m0 := (ehp20 _ _ (Or.inr (by omega))).trans h15
           have h23 : sf_rd hp20 4 z10.toInt.toNat = some z12.toInt := (ehp20 _ _ (Or.inl (by decide))).trans h16
           have h24 : sf_rd hp20 3 5 = some z12.toInt := (ehp20 _ _ (Or.inr (by omega))).trans rhp13
           have h25 : sf_rd hp20 5 z17.toInt.toNat = some z19.toInt := (ehp20 _ _ (Or.inl (by decide))).trans hz19
           refine Ev.step (j := 48) (s' := ([some (.ref 3)], [.ref 3], (0, 0), hp20)) rfl rfl ?_
           exact by
            refine Ev.step (j := 49) (s' := ([some (.ref 3)], [.ref 3, .ref 3], (0, 0), hp20)) rfl rfl ?_
            refine bs_getU (g := 9) (g1 := 126) rfl rfl Hhp20 (bs_R.uq Hhp20 (g := 9) rfl) (by decide) rfl rfl ?_
            refine Ev.step (j := 53) (s' := ([some (.ref 3)], [.ref 3, .ref 6, .ref 3], (0, 0), hp20)) rfl rfl ?_
            refine bs_getI 9 rfl rfl rfl Hhp20 (bs_R.uq Hhp20 (g := 9) rfl) (by decide) rfl fun z26 hz26 lz26 gz26 => ?_
            have e27 : z26.toInt = i0 := Option.some.inj (hz26.symm.trans h21)
            refine bs_laldv (g := 126) rfl Hhp20 (bs_R.uq Hhp20 (g := 126) rfl) (by decide) rfl (by omega) (by show _ < ((901 : Nat) : Int); omega) fun w28 hw28 => ?_
            refine bs_putLv (W := [(9, 8, 8)]) (g := 9) rfl rfl Hhp20 (bs_R.uq Hhp20 (g := 9) rfl) (by decide) rfl rfl rfl rfl fun hp29 Hhp29 fhp29 mhp29 lhp29 ehp29 qhp29 => ?_
            have Fhp29 := sf_fr_tr Fhp20 (sf_fr_wider (W := [(9, 4, 8)]) rfl fhp29)
            have h30 : sf_rd hp29 3 4 = some i0 := (ehp29 _ _).trans h21
            have h31 : sf_rd hp29 3 3 = some m0 := (ehp29 _ _).trans h22
            have h32 : sf_rd hp29 4 z10.toInt.toNat = some z12.toInt := (ehp29 _ _).trans h23
            have h33 : sf_rd hp29 3 5 = some z12.toInt := (ehp29 _ _).trans h24
            have h34 : sf_rd hp29 5 z17.toInt.toNat = some z19.toInt := (ehp29 _ _).trans h25
            have h35 : sf_rd hp29 3 6 = some z19.toInt := (ehp29 _ _).trans rhp20
            have h36 : sf_rl hp29 6 z26.toInt.toNat = some w28 := (lhp29 _ _ (Or.inl (by decide))).trans hw28
            refine Ev.step (j := 61) (s' := ([some (.ref 3)], [.ref 3], (0, 0), hp29)) rfl rfl ?_
            exact by
             refine Ev.step (j := 62) (s' := ([some (.ref 3)], [.ref 3, .ref 3], (0, 0), hp29)) rfl rfl ?_
             refine bs_getU (g := 9) (g1 := 126) rfl rfl Hhp29 (bs_R.uq Hhp29 (g := 9) rfl) (by decide) rfl rfl ?_
             refine Ev.step (j := 66) (s' := ([some (.ref 3)], [.ref 3, .ref 6, .ref 3], (0, 0), hp29)) rfl rfl ?_
             refine bs_getI 9 rfl rfl rfl Hhp29 (bs_R.uq Hhp29 (g := 9) rfl) (by decide) rfl fun z37 hz37 lz37 gz37 => ?_
             have e38 : z37.toInt = i0 := Option.some.inj (hz37.symm.trans h30)
             refine bs_laldv (g := 126) rfl Hhp29 (bs_R.uq Hhp29 (g := 126) rfl) (by decide) rfl (by omega) (by show _ < ((901 : Nat) : Int); omega) fun w39 hw39 => ?_
             refine bs_l2iv rfl fun z40 hz40 => ?_
             have rz40 := n_range z40
             refine bs_putIv (W := [(9, 7, 7)]) (g := 9) rfl rfl Hhp29 (bs_R.uq Hhp29 (g := 9) rfl) (by decide) rfl rfl rfl rfl (Or.inl rfl) (by omega) (by omega) fun hp41 Hhp41 fhp41 rhp41 ehp41 qhp41 nhp41 => ?_
             have Fhp41 := sf_fr_tr Fhp29 (sf_fr_wider (W := [(9, 4, 8)]) rfl fhp41)
             have h42 : sf_rd hp41 3 4 = some i0 := (ehp41 _ _ (Or.inr (by omega))).trans h30
             have h43 : sf_rd hp41 3 3 = some m0 := (ehp41 _ _ (Or.inr (by omega))).trans h31
             have h44 : sf_rd hp41 4 z10.toInt.toNat = some z12.toInt := (ehp41 _ _ (Or.inl (by decide))).trans h32
             have h45 : sf_rd hp41 3 5 = some z12.toInt := (ehp41 _ _ (Or.inr (by omega))).trans h33
             have h46 : sf_rd hp41 5 z17.toInt.toNat = some z19.toInt := (ehp41 _ _ (Or.inl (by decide))).trans h34
             have h47 : sf_rd hp41 3 6 = some z19.toInt := (ehp41 _ _ (Or.inr (by omega))).trans h35
             have h48 : sf_rl hp41 6 z26.toInt.toNat = some w28 := (nhp41 _ _).trans h36
             have h49 : sf_rl hp41 3 8 = some w28 := (nhp41 _ _).trans mhp29
             have h50 : sf_rl hp41 6 z37.toInt.toNat = some w39 := (nhp41 _ _).trans hw39
             refine Ev.step (j := 75) (s' := ([some (.ref 3)], [.ref 3], (0, 0), hp41)) rfl rfl ?_
             exact by
              refine Ev.step (j := 76) (s' := ([some (.ref 3)], [.ref 3, .ref 3], (0, 0), hp41)) rfl rfl ?_
              refine bs_getI 9 rfl rfl rfl Hhp41 (bs_R.uq Hhp41 (g := 9) rfl) (by decide) rfl fun z51 hz51 lz51 gz51 => ?_
              have e52 : z51.toInt = i0 := Option.some.inj (hz51.symm.trans h42)
              refine bs_lit (k := 1) rfl rfl fun z53 hz53 => ?_
              first | (refine bs_add rfl (by omega) (by omega) fun z54 hz54 => ?_) | (refine bs_any rfl fun z54 => ?_)
              have rz54 := n_range z54
              refine bs_putIv (W := [(9, 4, 4)]) (g := 9) rfl rfl Hhp41 (bs_R.uq Hhp41 (g := 9) rfl) (by decide) rfl rfl rfl rfl (Or.inl rfl) (by omega) (by omega) fun hp55 Hhp55 fhp55 rhp55 ehp55 qhp55 nhp55 => ?_
              have Fhp55 := sf_fr_tr Fhp41 (sf_fr_wider (W := [(9, 4, 8)]) rfl fhp55)
              have h56 : sf_rd hp55 3 3 = some m0 := (ehp55 _ _ (Or.inr (by omega))).trans h43
              have h57 : sf_rd hp55 4 z10.toInt.toNat = some z12.toInt := (ehp55 _ _ (Or.inl (by decide))).trans h44
              have h58 : sf_rd hp55 3 5 = some z12.toInt := (ehp55 _ _ (Or.inr (by omega))).trans h45
              have h59 : sf_rd hp55 5 z17.toInt.toNat = some z19.toInt := (ehp55 _ _ (Or.inl (by decide))).trans h46
              have h60 : sf_rd hp55 3 6 = some z19.toInt := (ehp55 _ _ (Or.inr (by omega))).trans h47
              have h61 : sf_rd hp55 3 7 = some z40.toInt := (ehp55 _ _ (Or.inr (by omega))).trans rhp41
              have h62 : sf_rl hp55 6 z26.toInt.toNat = some w28 := (nhp55 _ _).trans h48
              have h63 : sf_rl hp55 3 8 = some w28 := (nhp55 _ _).trans h49
              have h64 : sf_rl hp55 6 z37.toInt.toNat = some w39 := (nhp55 _ _).trans h50
              exact Ev.ret rfl rfl (by rw [hQ]; exact ⟨t, Hhp55, Fhp55, bs_anU, sf_S_nil, (fun B n lim m i hC hi_ => by
                      have e1 : i0 = (i : Int) := Option.some.inj (hi0.symm.trans hC.2.1); have e2 : m0 = (m : Int) := Option.some.inj (hm0.symm.trans hC.1.2.2.1); have m9 := hC.1.2.1; obtain ⟨t1, t2, w9, t3, t4⟩ := hC.1.2.2.2.1 i hi_
                      have K1 : z12.toInt = (tok B n lim i).k := Option.some.inj (h57.symm.trans ((((ehp55 _ _ (Or.inl (by decide))).trans ((ehp41 _ _ (Or.inl (by decide))).trans ((ehp29 _ _).trans ((ehp20 _ _ (Or.inl (by decide))).trans (ehp13 _ _ (Or.inl (by decide)))))))).trans (bs_at t1 (by omega))))
                      have K2 : z19.toInt = (tok B n lim i).pl := Option.some.inj (h59.symm.trans ((((ehp55 _ _ (Or.inl (by decide))).trans ((ehp41 _ _ (Or.inl (by decide))).trans ((ehp29 _ _).trans ((ehp20 _ _ (Or.inl (by decide))).trans (ehp13 _ _ (Or.inl (by decide)))))))).trans (bs_at t2 (by omega))))
                      have W0 : w28 = w9 := Option.some.inj (h62.symm.trans ((((nhp55 _ _).trans ((nhp41 _ _).trans ((lhp29 _ _ (Or.inl (by decide))).trans ((nhp20 _ _).trans (nhp13 _ _)))))).trans (bl_at t3 (by omega))))
                      have W1 : w39 = w9 := Option.some.inj (h64.symm.trans ((((nhp55 _ _).trans ((nhp41 _ _).trans ((lhp29 _ _ (Or.inl (by decide))).trans ((nhp20 _ _).trans (nhp13 _ _)))))).trans (bl_at t3 (by omega))))
                      refine ⟨⟨h58.trans (congrArg some K1), h60.trans (congrArg some K2), fun h3 => ?_, fun h2 => CURn_i h63 (by rw [W0]; exact t4.2 h2)⟩, TKS_fr H hC.1 Fhp55 rfl rfl rfl rfl, rhp55.trans (congrArg some (by omega)), by omega⟩
                      have N9 := tok_nok B n lim i h3
                      have V9 := t4.1 h3
                      have V8 : w39.toInt = (tok B n lim i).v := by rw [W1]; exact V9
                      exact h61.trans (congrArg some ((hz40 (by omega) (by omega)).trans V8)))⟩)
def kq_X9_takeNumber_v : sf_Q := ([(1, 9, 0), (0, 0, 0), (0, 0, 0)], [], some (0, 0, 0), [(1, 0, 0, 0, 1, 0)], [(9, 4, 9)])
def ke_X9_takeNumber_v : List Value → ab_H → Option Value → ab_H → Prop := fun as hp r hp' => ∀ (lo hi : Int32), as = [.ref 3, .int lo, .int hi] → (∀ z : Int32, r = some (.int z) → z.toInt ≠ 0 → ∃ v : Int, sf_rd hp' 3 7 = some v ∧ lo.toInt ≤ v ∧ v ≤ hi.toInt) ∧ ∀ (B : Nat → Int) (n lim m i : Nat), CK hp B n lim m i → i < m → ∃ z : Int32, r = some (.int z) ∧ ((z.toInt = 1 ∧ (tok B n lim i).k = 3 ∧ lo.toInt ≤ (tok B n lim i).v ∧ (tok B n lim i).v ≤ hi.toInt ∧ CUR hp' (tok B n lim i) ∧ CK hp' B n lim m (i + 1) ∧ sf_rd hp' 3 9 = sf_rd hp 3 9) ∨ (z.toInt = 0 ∧ sf_rd hp' 3 6 = some (tok B n lim i).pl ∧ (((tok B n lim i).k ≠ 3 ∧ sf_rd hp' 3 9 = some 1) ∨ ((tok B n lim i).k = 3 ∧ ((tok B n lim i).v < lo.toInt ∨ hi.toInt < (tok B n lim i).v) ∧ sf_rd hp' 3 9 = some 2))))
set_option maxRecDepth 100000 in
set_option maxHeartbeats 4000000 in
theorem ce_X9_takeNumber_v : sf_cE kq_X9_takeNumber_v Z_X9_takeNumber ke_X9_takeNumber_v := by
  intro t hp as H hl hj hpre
  match as, hl with
  | [v0, v1, v2], _ =>
    obtain ⟨a0, rfl, ra0⟩ := bs_aR (hj 0 _ rfl)
    obtain rfl := ra0.eq H (p := 3) rfl
    obtain ⟨x1, rfl⟩ := bs_aI (hj 1 _ rfl)
    have rg1 := n_range x1
    obtain ⟨x2, rfl⟩ := bs_aI (hj 2 _ rfl)
    have rg2 := n_range x2
    clear hpre hj
    have F0 : sf_fr [(9, 4, 9)] t hp t hp := sf_fr_rf
    refine bs_finx (E := ke_X9_takeNumber_v) (K := kq_X9_takeNumber_v) (L := (L_X9_takeNumber Z_X9_step Z_X9_fail)) (nL := 3) (Nat.le_of_ble_eq_true rfl) ?_
    obtain ⟨Q, hQ⟩ : ∃ Q : ab_O → Prop, Q = (fun o => ∃ t', sf_h t' o.2 ∧ sf_fr (kq_X9_takeNumber_v).2.2.2.2 t hp t' o.2 ∧ sf_an t' o.2.1 (kq_X9_takeNumber_v).2.2.1 o.1 ∧ sf_S (sf_v1 o.1 [.ref 3, .int x1, .int x2] o.2) (kq_X9_takeNumber_v).2.2.2.1 ∧ ke_X9_takeNumber_v [.ref 3, .int x1, .int x2] hp o.1 o.2) := ⟨_, rfl⟩
    rw [← hQ]
    refine (show Ev (ab_T (L_X9_takeNumber Z_X9_step Z_X9_fail)) 0 ([some (.ref 3), some (.int x1), some (.int x2)], [], (0, 0), hp) Q from ?_)
    exact by
     refine Ev.step (j := 1) (s' := ([some (.ref 3), some (.int x1), some (.int x2)], [.ref 3], (0, 0), hp)) rfl rfl ?_
     refine bs_callx (K := kq_X9_step_v) [.ref 3] [] rfl ce_X9_step_v H rfl rfl rfl (bs_rcv (g := 9) H (bs_R.uq H (g := 9) rfl) (by decide) rfl) rfl ?_ (sf_S_nil) fun r1 hp2 thp2 Hhp2 fhp2 ahp2 php2 xhp2 => ?_
     · intro q k h
       match q, h with
       | 0, h => cases h; exact bs_jR (bs_R.uq H (g := 9) rfl)
       | q + 1, h => cases h
     obtain rfl := ahp2.1 rfl
     have Fhp2 := sf_fr_tr F0 (sf_fr_wider (W := [(9, 4, 9)]) rfl fhp2)
     refine (show Ev _ 4 ([some (.ref 3), some (.int x1), some (.int x2)], [], (0, 0), hp2) _ from ?_)
     refine Ev.step (j := 5) (s' := ([some (.ref 3), some (.int x1), some (.int x2)], [.ref 3], (0, 0), hp2)) rfl rfl ?_
     refine bs_getI 9 rfl rfl rfl Hhp2 (bs_R.uq Hhp2 (g := 9) rfl) (by decide) rfl fun z3 hz3 lz3 gz3 => ?_
     refine bs_lit (k := 3) rfl rfl fun z4 hz4 => ?_
     exact by
      refine bs_eq rfl (fun c5 => ?_) (fun c5 => ?_)
      · skip
        have c6 : z3.toInt = 3 := by omega
        refine Ev.step (j := 19) (s' := ([some (.ref 3), some (.int x1), some (.int x2)], [.ref 3], (0, 0), hp2)) rfl rfl ?_
        refine bs_getI 9 rfl rfl rfl Hhp2 (bs_R.uq Hhp2 (g := 9) rfl) (by decide) rfl fun z7 hz7 lz7 gz7 => ?_
        refine Ev.step (j := 23) (s' := ([some (.ref 3), some (.int x1), some (.int x2)], [.int x1, .int z7], (0, 0), hp2)) rfl rfl ?_
        refine bs_lt rfl (fun c8 => ?_) (fun c8 => ?_)
        · skip
          refine Ev.step (j := 35) (s' := ([some (.ref 3), some (.int x1), some (.int x2)], [.ref 3], (0, 0), hp2)) rfl rfl ?_
          refine bs_lit (k := 2) rfl rfl fun z9 hz9 => ?_
          exact by
           refine Ev.inl (L := L_X9_fail) (nL := 2) rfl (bs_rcv (g := 9) Hhp2 (bs_R.uq Hhp2 (g := 9) rfl) (by decide) rfl) rfl (Nat.le_of_ble_eq_true rfl) ?_
           generalize hQ10 : (fun (o : ab_O) => Ev _ _ _ _) = Q10
           refine (show Ev (ab_T L_X9_fail) 0 ([some (.ref 3), some (.int z9)], [], (0, 0), hp2) Q10 from ?_)
           refine Ev.step (j := 1) (s' := ([some (.ref 3), some (.int z9)], [.ref 3], (0, 0), hp2)) rfl rfl ?_
           refine Ev.step (j := 2) (s' := ([some (.ref 3), some (.int z9)], [.int z9, .ref 3], (0, 0), hp2)) rfl rfl ?_
           refine bs_putIv (W := [(9, 9, 9)]) (g := 9) rfl rfl Hhp2 (bs_R.uq Hhp2 (g := 9) rfl) (by decide) rfl rfl rfl rfl (Or.inl rfl) (by omega) (by omega) fun hp11 Hhp11 fhp11 rhp11 ehp11 qhp11 nhp11 => ?_
           have Fhp11 := sf_fr_tr Fhp2 (sf_fr_wider (W := [(9, 4, 9)]) rfl fhp11)
           have h12 : sf_rd hp11 3 5 = some z3.toInt := (ehp11 _ _ (Or.inr (by omega))).trans hz3
           have h13 : sf_rd hp11 3 7 = some z7.toInt := (ehp11 _ _ (Or.inr (by omega))).trans hz7
           refine bs_lit (k := 0) rfl rfl fun z14 hz14 => ?_
           exact by
            refine bs_zret rfl rfl (by omega) (by omega) ?_
            rw [← hQ10]
            refine (show Ev _ 39 ([some (.ref 3), some (.int x1), some (.int x2)], [.int z14], (0, 0), hp11) _ from ?_)
            refine bs_ifeq rfl (fun c15 => ?_) (fun c15 => ?_)
            · skip
              refine bs_lit (k := 0) rfl rfl fun z16 hz16 => ?_
              exact bs_zret rfl rfl (by omega) (by omega) (by rw [hQ]; exact ⟨thp2, Hhp11, Fhp11, bs_an0, sf_S_cons (sf_s1 (x := z16.toInt) rfl (by omega) (by omega)) (sf_S_nil), (fun lo hi ha => by
                      cases ha
                      refine ⟨fun z hz hne => ?_, fun B n lim m i hC hi_ => ?_⟩
                      · obtain rfl := Value.int.inj (Option.some.inj hz)
                        exact absurd hne (by omega)
                      · obtain ⟨⟨c1, c2, c3, c4⟩, CK1⟩ := xhp2 B n lim m i hC hi_
                        have KK : z3.toInt = (tok B n lim i).k := Option.some.inj (hz3.symm.trans c1)
                        have VV : z7.toInt = (tok B n lim i).v := Option.some.inj (hz7.symm.trans (c3 (by omega)))
                        exact ⟨z16, rfl, Or.inr ⟨by omega, ((ehp11 _ _ (Or.inr (by omega)))).trans c2, Or.inr ⟨by omega, by omega, rhp11.trans (congrArg some (by omega))⟩⟩⟩)⟩)
            · exfalso; omega
        · skip
          refine Ev.step (j := 27) (s' := ([some (.ref 3), some (.int x1), some (.int x2)], [.ref 3], (0, 0), hp2)) rfl rfl ?_
          exact by
           refine bs_getI 9 rfl rfl rfl Hhp2 (bs_R.uq Hhp2 (g := 9) rfl) (by decide) rfl fun z17 hz17 lz17 gz17 => ?_
           have e18 : z17.toInt = z7.toInt := Option.some.inj (hz17.symm.trans hz7)
           refine Ev.step (j := 31) (s' := ([some (.ref 3), some (.int x1), some (.int x2)], [.int x2, .int z17], (0, 0), hp2)) rfl rfl ?_
           refine bs_le rfl (fun c19 => ?_) (fun c19 => ?_)
           · skip
             refine bs_lit (k := 1) rfl rfl fun z20 hz20 => ?_
             refine Ev.step (j := 47) (s' := ([some (.ref 3), some (.int x1), some (.int x2)], [.int z20], (0, 0), hp2)) rfl rfl ?_
             exact bs_zret rfl rfl (by omega) (by omega) (by rw [hQ]; exact ⟨thp2, Hhp2, Fhp2, bs_an0, sf_S_cons (sf_s1 (x := z20.toInt) rfl (by omega) (by omega)) (sf_S_nil), (fun lo hi ha => by
                     cases ha
                     refine ⟨fun z hz hne => ?_, fun B n lim m i hC hi_ => ?_⟩
                     · exact ⟨_, hz7, by omega, by omega⟩
                     · obtain ⟨⟨c1, c2, c3, c4⟩, CK1⟩ := xhp2 B n lim m i hC hi_
                       have KK : z3.toInt = (tok B n lim i).k := Option.some.inj (hz3.symm.trans c1)
                       have VV : z7.toInt = (tok B n lim i).v := Option.some.inj (hz7.symm.trans (c3 (by omega)))
                       exact ⟨z20, rfl, Or.inl ⟨by omega, by omega, by omega, by omega, ⟨c1, c2, c3, c4⟩, CK1, (fhp2.2.2.1 _ (bs_R.uq H (g := 9) (p := 3) rfl).1 _ (by rw [(bs_R.uq H (g := 9) (p := 3) rfl).2]; rfl))⟩⟩)⟩)
           · skip
             refine Ev.step (j := 35) (s' := ([some (.ref 3), some (.int x1), some (.int x2)], [.ref 3], (0, 0), hp2)) rfl rfl ?_
             exact by
              refine bs_lit (k := 2) rfl rfl fun z21 hz21 => ?_
              refine Ev.inl (L := L_X9_fail) (nL := 2) rfl (bs_rcv (g := 9) Hhp2 (bs_R.uq Hhp2 (g := 9) rfl) (by decide) rfl) rfl (Nat.le_of_ble_eq_true rfl) ?_
              generalize hQ22 : (fun (o : ab_O) => Ev _ _ _ _) = Q22
              refine (show Ev (ab_T L_X9_fail) 0 ([some (.ref 3), some (.int z21)], [], (0, 0), hp2) Q22 from ?_)
              refine Ev.step (j := 1) (s' := ([some (.ref 3), some (.int z21)], [.ref 3], (0, 0), hp2)) rfl rfl ?_
              refine Ev.step (j := 2) (s' := ([some (.ref 3), some (.int z21)], [.int z21, .ref 3], (0, 0), hp2)) rfl rfl ?_
              refine bs_putIv (W := [(9, 9, 9)]) (g := 9) rfl rfl Hhp2 (bs_R.uq Hhp2 (g := 9) rfl) (by decide) rfl rfl rfl rfl (Or.inl rfl) (by omega) (by omega) fun hp23 Hhp23 fhp23 rhp23 ehp23 qhp23 nhp23 => ?_
              have Fhp23 := sf_fr_tr Fhp2 (sf_fr_wider (W := [(9, 4, 9)]) rfl fhp23)
              have h24 : sf_rd hp23 3 5 = some z3.toInt := (ehp23 _ _ (Or.inr (by omega))).trans hz3
              have h25 : sf_rd hp23 3 7 = some z7.toInt := (ehp23 _ _ (Or.inr (by omega))).trans hz7
              refine bs_lit (k := 0) rfl rfl fun z26 hz26 => ?_
              exact by
               refine bs_zret rfl rfl (by omega) (by omega) ?_
               rw [← hQ22]
               refine (show Ev _ 39 ([some (.ref 3), some (.int x1), some (.int x2)], [.int z26], (0, 0), hp23) _ from ?_)
               refine bs_ifeq rfl (fun c27 => ?_) (fun c27 => ?_)
               · skip
                 refine bs_lit (k := 0) rfl rfl fun z28 hz28 => ?_
                 exact bs_zret rfl rfl (by omega) (by omega) (by rw [hQ]; exact ⟨thp2, Hhp23, Fhp23, bs_an0, sf_S_cons (sf_s1 (x := z28.toInt) rfl (by omega) (by omega)) (sf_S_nil), (fun lo hi ha => by
                         cases ha
                         refine ⟨fun z hz hne => ?_, fun B n lim m i hC hi_ => ?_⟩
                         · obtain rfl := Value.int.inj (Option.some.inj hz)
                           exact absurd hne (by omega)
                         · obtain ⟨⟨c1, c2, c3, c4⟩, CK1⟩ := xhp2 B n lim m i hC hi_
                           have KK : z3.toInt = (tok B n lim i).k := Option.some.inj (hz3.symm.trans c1)
                           have VV : z7.toInt = (tok B n lim i).v := Option.some.inj (hz7.symm.trans (c3 (by omega)))
                           exact ⟨z28, rfl, Or.inr ⟨by omega, ((ehp23 _ _ (Or.inr (by omega)))).trans c2, Or.inr ⟨by omega, by omega, rhp23.trans (congrArg some (by omega))⟩⟩⟩)⟩)
               · exfalso; omega
      · skip
        refine Ev.step (j := 13) (s' := ([some (.ref 3), some (.int x1), some (.int x2)], [.ref 3], (0, 0), hp2)) rfl rfl ?_
        exact by
         refine bs_lit (k := 1) rfl rfl fun z29 hz29 => ?_
         refine Ev.inl (L := L_X9_fail) (nL := 2) rfl (bs_rcv (g := 9) Hhp2 (bs_R.uq Hhp2 (g := 9) rfl) (by decide) rfl) rfl (Nat.le_of_ble_eq_true rfl) ?_
         generalize hQ30 : (fun (o : ab_O) => Ev _ _ _ _) = Q30
         refine (show Ev (ab_T L_X9_fail) 0 ([some (.ref 3), some (.int z29)], [], (0, 0), hp2) Q30 from ?_)
         refine Ev.step (j := 1) (s' := ([some (.ref 3), some (.int z29)], [.ref 3], (0, 0), hp2)) rfl rfl ?_
         refine Ev.step (j := 2) (s' := ([some (.ref 3), some (.int z29)], [.int z29, .ref 3], (0, 0), hp2)) rfl rfl ?_
         refine bs_putIv (W := [(9, 9, 9)]) (g := 9) rfl rfl Hhp2 (bs_R.uq Hhp2 (g := 9) rfl) (by decide) rfl rfl rfl rfl (Or.inl rfl) (by omega) (by omega) fun hp31 Hhp31 fhp31 rhp31 ehp31 qhp31 nhp31 => ?_
         have Fhp31 := sf_fr_tr Fhp2 (sf_fr_wider (W := [(9, 4, 9)]) rfl fhp31)
         have h32 : sf_rd hp31 3 5 = some z3.toInt := (ehp31 _ _ (Or.inr (by omega))).trans hz3
         refine bs_lit (k := 0) rfl rfl fun z33 hz33 => ?_
         exact by
          refine bs_zret rfl rfl (by omega) (by omega) ?_
          rw [← hQ30]
          refine (show Ev _ 17 ([some (.ref 3), some (.int x1), some (.int x2)], [.int z33], (0, 0), hp31) _ from ?_)
          exact bs_zret rfl rfl (by omega) (by omega) (by rw [hQ]; exact ⟨thp2, Hhp31, Fhp31, bs_an0, sf_S_cons (sf_s1 (x := z33.toInt) rfl (by omega) (by omega)) (sf_S_nil), (fun lo hi ha => by
                  cases ha
                  refine ⟨fun z hz hne => ?_, fun B n lim m i hC hi_ => ?_⟩
                  · obtain rfl := Value.int.inj (Option.some.inj hz)
                    exact absurd hne (by omega)
                  · obtain ⟨⟨c1, c2, c3, c4⟩, CK1⟩ := xhp2 B n lim m i hC hi_
                    have KK : z3.toInt = (tok B n lim i).k := Option.some.inj (hz3.symm.trans c1)
                    exact ⟨z33, rfl, Or.inr ⟨by omega, ((ehp31 _ _ (Or.inr (by omega)))).trans c2, Or.inl ⟨by omega, rhp31.trans (congrArg some (by omega))⟩⟩⟩)⟩)
def kq_X7_readLoad_v : sf_Q := ([(1, 7, 0), (1, 9, 0)], [], some (0, 0, 0), [(1, 0, 0, 0, 1, 0)], [(7, 7, 7), (7, 11, 11), (9, 4, 9)])
def ke_X7_readLoad_v : List Value → ab_H → Option Value → ab_H → Prop := fun as hp r hp' => ∀ (a : Nat) (s : PS) (B : Nat → Int) (n lim m j : Nat), as = [.ref a, .ref 3] → SC hp a s → CK hp B n lim m (j + 1) → j + 1 < m → sf_rd hp 3 6 = some (tok B n lim j).pl → sf_rd hp 3 9 = some 0 → LRES hp' a B n lim m r (lnLoad (tok B n lim) s j)
set_option maxRecDepth 100000 in
set_option maxHeartbeats 4000000 in
theorem ce_X7_readLoad_v : sf_cE kq_X7_readLoad_v Z_X7_readLoad ke_X7_readLoad_v := by
  intro t hp as H hl hj hpre
  match as, hl with
  | [v0, v1], _ =>
    obtain ⟨a0, rfl, ra0⟩ := bs_aR (hj 0 _ rfl)
    obtain ⟨a1, rfl, ra1⟩ := bs_aR (hj 1 _ rfl)
    obtain rfl := ra1.eq H (p := 3) rfl
    clear hpre hj
    have F0 : sf_fr [(7, 7, 7), (7, 11, 11), (9, 4, 9)] t hp t hp := sf_fr_rf
    refine bs_finx (E := ke_X7_readLoad_v) (K := kq_X7_readLoad_v) (L := (L_X7_readLoad Z_X9_fail Z_X9_takeNumber)) (nL := 2) (Nat.le_of_ble_eq_true rfl) ?_
    obtain ⟨Q, hQ⟩ : ∃ Q : ab_O → Prop, Q = (fun o => ∃ t', sf_h t' o.2 ∧ sf_fr (kq_X7_readLoad_v).2.2.2.2 t hp t' o.2 ∧ sf_an t' o.2.1 (kq_X7_readLoad_v).2.2.1 o.1 ∧ sf_S (sf_v1 o.1 [.ref a0, .ref 3] o.2) (kq_X7_readLoad_v).2.2.2.1 ∧ ke_X7_readLoad_v [.ref a0, .ref 3] hp o.1 o.2) := ⟨_, rfl⟩
    rw [← hQ]
    refine (show Ev (ab_T (L_X7_readLoad Z_X9_fail Z_X9_takeNumber)) 0 ([some (.ref a0), some (.ref 3)], [], (0, 0), hp) Q from ?_)
    refine Ev.step (j := 1) (s' := ([some (.ref a0), some (.ref 3)], [.ref a0], (0, 0), hp)) rfl rfl ?_
    exact by
     refine bs_getI 7 rfl rfl rfl H (ra0.fr F0) (by decide) rfl fun z1 hz1 lz1 gz1 => ?_
     refine bs_ifeq rfl (fun c2 => ?_) (fun c2 => ?_)
     · skip
       have c3 : z1.toInt = 0 := by omega
       refine Ev.step (j := 14) (s' := ([some (.ref a0), some (.ref 3)], [.ref 3], (0, 0), hp)) rfl rfl ?_
       refine bs_lit (k := 1) rfl rfl fun z4 hz4 => ?_
       refine bs_lit (k := 40) rfl rfl fun z5 hz5 => ?_
       refine bs_callx (K := kq_X9_takeNumber_v) [.ref 3, .int z4, .int z5] [] rfl ce_X9_takeNumber_v H rfl rfl rfl (bs_rcv (g := 9) H (bs_R.uq H (g := 9) rfl) (by decide) rfl) rfl ?_ (sf_S_nil) fun r6 hp7 thp7 Hhp7 fhp7 ahp7 php7 xhp7 => ?_
       · intro q k h
         match q, h with
         | 0, h => cases h; exact bs_jR (bs_R.uq H (g := 9) rfl)
         | 1, h => cases h; exact sf_j0
         | 2, h => cases h; exact sf_j0
         | q + 3, h => cases h
       obtain ⟨z8, rfl⟩ := bs_anI ahp7
       have rgz8 := n_range z8
       have Fhp7 := sf_fr_tr F0 (sf_fr_wider (W := [(7, 7, 7), (7, 11, 11), (9, 4, 9)]) rfl fhp7)
       have h9 : sf_rd hp7 a0 11 = some z1.toInt := (fhp7.2.2.1 _ (ra0.fr F0).1 _ (by rw [(ra0.fr F0).2]; rfl)).trans hz1
       obtain ⟨uz8, vz8⟩ := bs_s1 (x := z8.toInt) rfl (php7 _ (List.mem_of_getElem? (i := 0) rfl))
       refine (show Ev _ 20 ([some (.ref a0), some (.ref 3)], [.int z8], (0, 0), hp7) _ from ?_)
       exact by
        refine bs_ifne rfl (fun c10 => ?_) (fun c10 => ?_)
        · skip
          refine Ev.step (j := 26) (s' := ([some (.ref a0), some (.ref 3)], [.ref a0], (0, 0), hp7)) rfl rfl ?_
          refine bs_lit (k := 1) rfl rfl fun z11 hz11 => ?_
          refine bs_putIv (W := [(7, 11, 11)]) (g := 7) rfl rfl Hhp7 (ra0.fr Fhp7) (by decide) rfl rfl rfl rfl (Or.inr ⟨rfl, by omega, by omega⟩) (by omega) (by omega) fun hp12 Hhp12 fhp12 rhp12 ehp12 qhp12 nhp12 => ?_
          have Fhp12 := sf_fr_tr Fhp7 (sf_fr_wider (W := [(7, 7, 7), (7, 11, 11), (9, 4, 9)]) rfl fhp12)
          refine Ev.step (j := 31) (s' := ([some (.ref a0), some (.ref 3)], [.ref a0], (0, 0), hp12)) rfl rfl ?_
          refine Ev.step (j := 32) (s' := ([some (.ref a0), some (.ref 3)], [.ref 3, .ref a0], (0, 0), hp12)) rfl rfl ?_
          refine bs_getI 9 rfl rfl rfl Hhp12 (bs_R.uq Hhp12 (g := 9) rfl) (by decide) rfl fun z13 hz13 lz13 gz13 => ?_
          exact by
           refine bs_putIv (W := [(7, 7, 7)]) (g := 7) rfl rfl Hhp12 (ra0.fr Fhp12) (by decide) rfl rfl rfl rfl (Or.inl rfl) (by omega) (by omega) fun hp14 Hhp14 fhp14 rhp14 ehp14 qhp14 nhp14 => ?_
           have Fhp14 := sf_fr_tr Fhp12 (sf_fr_wider (W := [(7, 7, 7), (7, 11, 11), (9, 4, 9)]) rfl fhp14)
           have h15 : sf_rd hp14 a0 11 = some z11.toInt := (ehp14 _ _ (Or.inr (by omega))).trans rhp12
           have h16 : sf_rd hp14 3 7 = some z13.toInt := (ehp14 _ _ (Or.inl (bs_nq (bs_R.uq Hhp12 (g := 9) rfl) (ra0.fr Fhp12) (by decide)))).trans hz13
           refine bs_lit (k := 1) rfl rfl fun z17 hz17 => ?_
           exact bs_zret rfl rfl (by omega) (by omega) (by rw [hQ]; exact ⟨thp7, Hhp14, Fhp14, bs_an0, sf_S_cons (sf_s1 (x := z17.toInt) rfl (by omega) (by omega)) (sf_S_nil), (fun a s B n lim m j ha hS hC hj hpl h9 => by
                   cases ha
                   have LE : z1.toInt = cond s.ld 1 0 := Option.some.inj (hz1.symm.trans hS.ld)
                   have LD : ¬ s.ld = true := fun hl => by rw [hl] at LE; have LE2 : _ = (1 : Int) := LE; omega
                   rw [show lnLoad (tok B n lim) s j = _ from if_neg LD]
                   obtain ⟨q1, rq1, X1⟩ := (xhp7 _ _ rfl).2 B n lim m (j + 1) hC hj
                   obtain rfl := Value.int.inj (Option.some.inj rq1)
                   obtain ⟨Y0, Y1, Y2, Y3, Y4, Y5, Y6⟩ := X1.resolve_right (fun h => absurd h.1 (by omega))
                   rw [lnum_o Y1 (by omega) (by omega)]
                   have S1 := SC_fr H ra0 hS fhp7 rfl rfl
                   have C1 := TKS_fr Hhp7 Y5.1 fhp12 rfl rfl rfl rfl
                   have C2 := TKS_fr Hhp12 C1 fhp14 rfl rfl rfl rfl
                   have VV : z13.toInt = (tok B n lim (j + 1)).v := Option.some.inj (hz13.symm.trans (((ehp12 _ _ (Or.inl (bs_nq (bs_R.uq Hhp7 (g := 9) rfl) (ra0.fr Fhp7) (by decide))))).trans (Y4.2.2.1 Y1)))
                   exact LRES_ok ⟨z17, rfl, by omega⟩ (SC_load Hhp7 (ra0.fr fhp7) S1 (fun k => ((qhp14 _ _).trans (qhp12 _ _))) (fun b q => (nhp14 _ _).trans (nhp12 _ _)) (fun b q h => (ehp14 _ _ (h.imp id (fun g => g.1))).trans (ehp12 _ _ (h.imp id (fun g => g.2)))) (rhp14.trans (congrArg some VV)) (h15.trans (congrArg some (by omega)))) ⟨C2, (((ehp14 _ _ (Or.inl (bs_nq (bs_R.uq Hhp12 (g := 9) rfl) (ra0.fr Fhp12) (by decide)))).trans (ehp12 _ _ (Or.inl (bs_nq (bs_R.uq Hhp7 (g := 9) rfl) (ra0.fr Fhp7) (by decide)))))).trans Y5.2.1, Y5.2.2⟩ ((((ehp14 _ _ (Or.inl (bs_nq (bs_R.uq Hhp12 (g := 9) rfl) (ra0.fr Fhp12) (by decide)))).trans (ehp12 _ _ (Or.inl (bs_nq (bs_R.uq Hhp7 (g := 9) rfl) (ra0.fr Fhp7) (by decide)))))).trans (Y6.trans h9)) (CK_more Y5.1 hj (by omega) (by omega)))⟩)
        · skip
          have c18 : z8.toInt = 0 := by omega
          refine bs_lit (k := 0) rfl rfl fun z19 hz19 => ?_
          exact bs_zret rfl rfl (by omega) (by omega) (by rw [hQ]; exact ⟨thp7, Hhp7, Fhp7, bs_an0, sf_S_cons (sf_s1 (x := z19.toInt) rfl (by omega) (by omega)) (sf_S_nil), (fun a s B n lim m j ha hS hC hj hpl h9 => by
                  cases ha
                  have LE : z1.toInt = cond s.ld 1 0 := Option.some.inj (hz1.symm.trans hS.ld)
                  have LD : ¬ s.ld = true := fun hl => by rw [hl] at LE; have LE2 : _ = (1 : Int) := LE; omega
                  rw [show lnLoad (tok B n lim) s j = _ from if_neg LD]
                  obtain ⟨q1, rq1, X1⟩ := (xhp7 _ _ rfl).2 B n lim m (j + 1) hC hj
                  obtain rfl := Value.int.inj (Option.some.inj rq1)
                  rcases X1.resolve_left (fun h => absurd h.1 (by omega)) with ⟨_, P1, ⟨P2, P3⟩ | ⟨P2, P4, P3⟩⟩
                  · rw [lnum_1 P2]
                    exact LRES_bad ⟨z19, rfl, by omega⟩ (P3) (P1)
                  · rw [lnum_2 P2 (by omega)]
                    exact LRES_bad ⟨z19, rfl, by omega⟩ (P3) (P1))⟩)
     · skip
       refine Ev.step (j := 8) (s' := ([some (.ref a0), some (.ref 3)], [.ref 3], (0, 0), hp)) rfl rfl ?_
       exact by
        refine bs_lit (k := 3) rfl rfl fun z20 hz20 => ?_
        refine Ev.inl (L := L_X9_fail) (nL := 2) rfl (bs_rcv (g := 9) H (bs_R.uq H (g := 9) rfl) (by decide) rfl) rfl (Nat.le_of_ble_eq_true rfl) ?_
        generalize hQ21 : (fun (o : ab_O) => Ev _ _ _ _) = Q21
        refine (show Ev (ab_T L_X9_fail) 0 ([some (.ref 3), some (.int z20)], [], (0, 0), hp) Q21 from ?_)
        refine Ev.step (j := 1) (s' := ([some (.ref 3), some (.int z20)], [.ref 3], (0, 0), hp)) rfl rfl ?_
        refine Ev.step (j := 2) (s' := ([some (.ref 3), some (.int z20)], [.int z20, .ref 3], (0, 0), hp)) rfl rfl ?_
        refine bs_putIv (W := [(9, 9, 9)]) (g := 9) rfl rfl H (bs_R.uq H (g := 9) rfl) (by decide) rfl rfl rfl rfl (Or.inl rfl) (by omega) (by omega) fun hp22 Hhp22 fhp22 rhp22 ehp22 qhp22 nhp22 => ?_
        have Fhp22 := sf_fr_tr F0 (sf_fr_wider (W := [(7, 7, 7), (7, 11, 11), (9, 4, 9)]) rfl fhp22)
        have h23 : sf_rd hp22 a0 11 = some z1.toInt := (ehp22 _ _ (Or.inl (bs_nq (ra0.fr F0) (bs_R.uq H (g := 9) rfl) (by decide)))).trans hz1
        refine bs_lit (k := 0) rfl rfl fun z24 hz24 => ?_
        exact by
         refine bs_zret rfl rfl (by omega) (by omega) ?_
         rw [← hQ21]
         refine (show Ev _ 12 ([some (.ref a0), some (.ref 3)], [.int z24], (0, 0), hp22) _ from ?_)
         exact bs_zret rfl rfl (by omega) (by omega) (by rw [hQ]; exact ⟨t, Hhp22, Fhp22, bs_an0, sf_S_cons (sf_s1 (x := z24.toInt) rfl (by omega) (by omega)) (sf_S_nil), (fun a s B n lim m j ha hS hC hj hpl h9 => by
                 cases ha
                 have LE : z1.toInt = cond s.ld 1 0 := Option.some.inj (hz1.symm.trans hS.ld)
                 have LD : s.ld = true := by cases hl : s.ld with | true => rfl | false => (rw [hl] at LE; have LE2 : _ = (0 : Int) := LE; omega)
                 rw [show lnLoad (tok B n lim) s j = _ from if_pos LD]
                 exact LRES_bad ⟨z24, rfl, by omega⟩ (rhp22.trans (congrArg some (by omega))) (((ehp22 _ _ (Or.inr (by omega)))).trans hpl))⟩)
def kq_X9_takeName_v : sf_Q := ([(1, 9, 0)], [], some (0, 0, 0), [(1, 0, 0, 0, 1, 0)], [(9, 4, 9)])
def ke_X9_takeName_v : List Value → ab_H → Option Value → ab_H → Prop := fun _ hp r hp' => ∀ (B : Nat → Int) (n lim m i : Nat), CK hp B n lim m i → i < m → ∃ z : Int32, r = some (.int z) ∧ ((z.toInt = 1 ∧ (tok B n lim i).k = 2 ∧ CUR hp' (tok B n lim i) ∧ CK hp' B n lim m (i + 1) ∧ sf_rd hp' 3 9 = sf_rd hp 3 9) ∨ (z.toInt = 0 ∧ sf_rd hp' 3 6 = some (tok B n lim i).pl ∧ (tok B n lim i).k ≠ 2 ∧ sf_rd hp' 3 9 = some 1))
set_option maxRecDepth 100000 in
set_option maxHeartbeats 4000000 in
theorem ce_X9_takeName_v : sf_cE kq_X9_takeName_v Z_X9_takeName ke_X9_takeName_v := by
  intro t hp as H hl hj hpre
  match as, hl with
  | [v0], _ =>
    obtain ⟨a0, rfl, ra0⟩ := bs_aR (hj 0 _ rfl)
    obtain rfl := ra0.eq H (p := 3) rfl
    clear hpre hj
    have F0 : sf_fr [(9, 4, 9)] t hp t hp := sf_fr_rf
    refine bs_finx (E := ke_X9_takeName_v) (K := kq_X9_takeName_v) (L := (L_X9_takeName Z_X9_step Z_X9_fail)) (nL := 1) (Nat.le_of_ble_eq_true rfl) ?_
    obtain ⟨Q, hQ⟩ : ∃ Q : ab_O → Prop, Q = (fun o => ∃ t', sf_h t' o.2 ∧ sf_fr (kq_X9_takeName_v).2.2.2.2 t hp t' o.2 ∧ sf_an t' o.2.1 (kq_X9_takeName_v).2.2.1 o.1 ∧ sf_S (sf_v1 o.1 [.ref 3] o.2) (kq_X9_takeName_v).2.2.2.1 ∧ ke_X9_takeName_v [.ref 3] hp o.1 o.2) := ⟨_, rfl⟩
    rw [← hQ]
    refine (show Ev (ab_T (L_X9_takeName Z_X9_step Z_X9_fail)) 0 ([some (.ref 3)], [], (0, 0), hp) Q from ?_)
    refine Ev.step (j := 1) (s' := ([some (.ref 3)], [.ref 3], (0, 0), hp)) rfl rfl ?_
    refine bs_callx (K := kq_X9_step_v) [.ref 3] [] rfl ce_X9_step_v H rfl rfl rfl (bs_rcv (g := 9) H (bs_R.uq H (g := 9) rfl) (by decide) rfl) rfl ?_ (sf_S_nil) fun r1 hp2 thp2 Hhp2 fhp2 ahp2 php2 xhp2 => ?_
    · intro q k h
      match q, h with
      | 0, h => cases h; exact bs_jR (bs_R.uq H (g := 9) rfl)
      | q + 1, h => cases h
    obtain rfl := ahp2.1 rfl
    have Fhp2 := sf_fr_tr F0 (sf_fr_wider (W := [(9, 4, 9)]) rfl fhp2)
    refine (show Ev _ 4 ([some (.ref 3)], [], (0, 0), hp2) _ from ?_)
    exact by
     refine Ev.step (j := 5) (s' := ([some (.ref 3)], [.ref 3], (0, 0), hp2)) rfl rfl ?_
     refine bs_getI 9 rfl rfl rfl Hhp2 (bs_R.uq Hhp2 (g := 9) rfl) (by decide) rfl fun z3 hz3 lz3 gz3 => ?_
     refine bs_lit (k := 2) rfl rfl fun z4 hz4 => ?_
     refine bs_eq rfl (fun c5 => ?_) (fun c5 => ?_)
     · skip
       have c6 : z3.toInt = 2 := by omega
       refine bs_lit (k := 1) rfl rfl fun z7 hz7 => ?_
       refine Ev.step (j := 25) (s' := ([some (.ref 3)], [.int z7], (0, 0), hp2)) rfl rfl ?_
       exact bs_zret rfl rfl (by omega) (by omega) (by rw [hQ]; exact ⟨thp2, Hhp2, Fhp2, bs_an0, sf_S_cons (sf_s1 (x := z7.toInt) rfl (by omega) (by omega)) (sf_S_nil), (fun B n lim m i hC hi_ => by
               obtain ⟨⟨c1, c2, c3, c4⟩, CK1⟩ := xhp2 B n lim m i hC hi_; have KK : z3.toInt = (tok B n lim i).k := Option.some.inj (hz3.symm.trans c1)
               exact ⟨z7, rfl, Or.inl ⟨by omega, by omega, ⟨c1, c2, c3, c4⟩, CK1, (fhp2.2.2.1 _ (bs_R.uq H (g := 9) (p := 3) rfl).1 _ (by rw [(bs_R.uq H (g := 9) (p := 3) rfl).2]; rfl))⟩⟩)⟩)
     · skip
       refine Ev.step (j := 13) (s' := ([some (.ref 3)], [.ref 3], (0, 0), hp2)) rfl rfl ?_
       exact by
        refine bs_lit (k := 1) rfl rfl fun z8 hz8 => ?_
        refine Ev.inl (L := L_X9_fail) (nL := 2) rfl (bs_rcv (g := 9) Hhp2 (bs_R.uq Hhp2 (g := 9) rfl) (by decide) rfl) rfl (Nat.le_of_ble_eq_true rfl) ?_
        generalize hQ9 : (fun (o : ab_O) => Ev _ _ _ _) = Q9
        refine (show Ev (ab_T L_X9_fail) 0 ([some (.ref 3), some (.int z8)], [], (0, 0), hp2) Q9 from ?_)
        refine Ev.step (j := 1) (s' := ([some (.ref 3), some (.int z8)], [.ref 3], (0, 0), hp2)) rfl rfl ?_
        refine Ev.step (j := 2) (s' := ([some (.ref 3), some (.int z8)], [.int z8, .ref 3], (0, 0), hp2)) rfl rfl ?_
        refine bs_putIv (W := [(9, 9, 9)]) (g := 9) rfl rfl Hhp2 (bs_R.uq Hhp2 (g := 9) rfl) (by decide) rfl rfl rfl rfl (Or.inl rfl) (by omega) (by omega) fun hp10 Hhp10 fhp10 rhp10 ehp10 qhp10 nhp10 => ?_
        have Fhp10 := sf_fr_tr Fhp2 (sf_fr_wider (W := [(9, 4, 9)]) rfl fhp10)
        have h11 : sf_rd hp10 3 5 = some z3.toInt := (ehp10 _ _ (Or.inr (by omega))).trans hz3
        refine bs_lit (k := 0) rfl rfl fun z12 hz12 => ?_
        exact by
         refine bs_zret rfl rfl (by omega) (by omega) ?_
         rw [← hQ9]
         refine (show Ev _ 17 ([some (.ref 3)], [.int z12], (0, 0), hp10) _ from ?_)
         refine bs_ifeq rfl (fun c13 => ?_) (fun c13 => ?_)
         · skip
           refine bs_lit (k := 0) rfl rfl fun z14 hz14 => ?_
           exact bs_zret rfl rfl (by omega) (by omega) (by rw [hQ]; exact ⟨thp2, Hhp10, Fhp10, bs_an0, sf_S_cons (sf_s1 (x := z14.toInt) rfl (by omega) (by omega)) (sf_S_nil), (fun B n lim m i hC hi_ => by
                   obtain ⟨⟨c1, c2, c3, c4⟩, CK1⟩ := xhp2 B n lim m i hC hi_; have KK : z3.toInt = (tok B n lim i).k := Option.some.inj (hz3.symm.trans c1)
                   exact ⟨z14, rfl, Or.inr ⟨by omega, ((ehp10 _ _ (Or.inr (by omega)))).trans c2, by omega, rhp10.trans (congrArg some (by omega))⟩⟩)⟩)
         · exfalso; omega
def kq_X7_goodNamed_v : sf_Q := ([(1, 7, 0), (2, 0, 0)], [], some (0, 0, 0), [(1, 0, 0, -1, 5, 0)], [])
def ke_X7_goodNamed_v : List Value → ab_H → Option Value → ab_H → Prop := fun as hp r _ => ∀ (a : Nat) (w : Int64) (s : PS) (v : Int), as = [.ref a, .long w] → SC hp a s → w.toInt = c32 7 v → LW 7 v → ∃ z : Int32, r = some (.int z) ∧ z.toInt = fnd s.nm 0 (s.h 0) v
set_option maxRecDepth 100000 in
set_option maxHeartbeats 4000000 in
theorem ce_X7_goodNamed_v : sf_cE kq_X7_goodNamed_v Z_X7_goodNamed ke_X7_goodNamed_v := by
  intro t hp as H hl hj hpre
  match as, hl with
  | [v0, v1], _ =>
    obtain ⟨a0, rfl, ra0⟩ := bs_aR (hj 0 _ rfl)
    obtain ⟨wa1, rfl⟩ := bs_aL (hj 1 _ rfl)
    clear hpre hj
    have F0 : sf_fr [] t hp t hp := sf_fr_rf
    refine bs_finx (E := ke_X7_goodNamed_v) (K := kq_X7_goodNamed_v) (L := L_X7_goodNamed) (nL := 4) (Nat.le_of_ble_eq_true rfl) ?_
    obtain ⟨Q, hQ⟩ : ∃ Q : ab_O → Prop, Q = (fun o => ∃ t', sf_h t' o.2 ∧ sf_fr (kq_X7_goodNamed_v).2.2.2.2 t hp t' o.2 ∧ sf_an t' o.2.1 (kq_X7_goodNamed_v).2.2.1 o.1 ∧ sf_S (sf_v1 o.1 [.ref a0, .long wa1] o.2) (kq_X7_goodNamed_v).2.2.2.1 ∧ ke_X7_goodNamed_v [.ref a0, .long wa1] hp o.1 o.2) := ⟨_, rfl⟩
    rw [← hQ]
    refine (show Ev (ab_T L_X7_goodNamed) 0 ([some (.ref a0), some (.long wa1), none, none], [], (0, 0), hp) Q from ?_)
    refine bs_lit (k := 0) rfl rfl fun z1 hz1 => ?_
    refine Ev.step (j := 2) (s' := ([some (.ref a0), some (.long wa1), none, some (.int z1)], [], (0, 0), hp)) rfl rfl ?_
    exact by
     refine bs_loop (ι := Int32) (fun k2 => ([some (.ref a0), some (.long wa1), none, some (.int k2)], [], (0, 0), hp)) (fun k2 => (0 ≤ k2.toInt ∧ k2.toInt ≤ 6) ∧ (∀ j : Nat, (j : Int) < k2.toInt → sf_rl hp (rrD hp a0 0) j ≠ some wa1)) (fun k2 => (6 - k2.toInt).toNat) ?_ z1 ⟨(by first | omega | assumption), (by first | exact INV | exact fun j h => absurd h (by omega))⟩
     rintro k2 ⟨i4, i5⟩ ih3
     refine (show Ev _ 2 ([some (.ref a0), some (.long wa1), none, some (.int k2)], [], (0, 0), hp) _ from ?_)
     refine Ev.step (j := 3) (s' := ([some (.ref a0), some (.long wa1), none, some (.int k2)], [.int k2], (0, 0), hp)) rfl rfl ?_
     refine Ev.step (j := 4) (s' := ([some (.ref a0), some (.long wa1), none, some (.int k2)], [.ref a0, .int k2], (0, 0), hp)) rfl rfl ?_
     refine bs_getI 7 rfl rfl rfl H (ra0.fr F0) (by decide) rfl fun z6 hz6 lz6 gz6 => ?_
     refine bs_ge rfl (fun c7 => ?_) (fun c7 => ?_)
     · skip
       refine bs_lit (k := -1) rfl rfl fun z8 hz8 => ?_
       exact Ev.ret rfl rfl (by rw [hQ]; exact ⟨t, H, F0, bs_an0, sf_S_cons (sf_s1 (x := z8.toInt) rfl (by omega) (by omega)) (sf_S_nil), (fun a w s v ha hS hw hv => by
               cases ha; have NN : z6.toInt = s.h 0 := Option.some.inj (hz6.symm.trans hS.goods)
               have NE_ : ∀ j : Nat, (j : Int) < s.h 0 → (j : Int) < k2.toInt → s.nm (j) ≠ v := fun j h1 h2 e => by
                 obtain ⟨w', g1, g2⟩ := hS.gn j h1
                 rw [e, ← hw] at g2
                 exact i5 j h2 (by rw [g1, Int64.toInt_inj.mp g2])
               exact ⟨z8, rfl, (fnd_is (Or.inl ⟨by omega, fun j hj => by rw [Nat.zero_add]; exact NE_ j hj (by omega)⟩)).symm⟩)⟩)
     · skip
       refine Ev.step (j := 11) (s' := ([some (.ref a0), some (.long wa1), none, some (.int k2)], [.ref a0], (0, 0), hp)) rfl rfl ?_
       exact by
        refine bs_getR (g := 7) (g1 := 116) rfl rfl H (ra0.fr F0) (by decide) rfl fun b9 qb9 rb9 => ?_
        refine Ev.step (j := 15) (s' := ([some (.ref a0), some (.long wa1), none, some (.int k2)], [.int k2, .ref b9], (0, 0), hp)) rfl rfl ?_
        refine bs_laldv (g := 116) rfl H rb9 (by decide) rfl (by omega) (by show _ < ((6 : Nat) : Int); omega) fun w10 hw10 => ?_
        have LA : sf_rl hp (rrD hp a0 0) k2.toInt.toNat = some w10 := by rw [rrD_of qb9]; exact hw10
        refine Ev.step (j := 17) (s' := ([some (.ref a0), some (.long wa1), none, some (.int k2)], [.long wa1, .long w10], (0, 0), hp)) rfl rfl ?_
        refine bs_lcmpv rfl fun z11 hz11 => ?_
        refine bs_ifne rfl (fun c12 => ?_) (fun c12 => ?_)
        · skip
          refine bs_iinc (1) rfl rfl rfl rfl (by omega) (by omega) fun z13 hz13 => ?_
          exact by
           refine (show Ev _ 26 ([some (.ref a0), some (.long wa1), none, some (.int z13)], [], (0, 0), hp) _ from ?_)
           refine Ev.step (j := 2) (s' := ([some (.ref a0), some (.long wa1), none, some (.int z13)], [], (0, 0), hp)) rfl rfl ?_
           have INV : ∀ j : Nat, (j : Int) < z13.toInt → sf_rl hp (rrD hp a0 0) j ≠ some wa1 := by
             intro j hj
             rcases (show (j : Int) < k2.toInt ∨ j = k2.toInt.toNat by omega) with h | h
             · exact i5 j h
             · rw [h, LA]; intro e; exact absurd (hz11.mpr (Option.some.inj e)) (by omega)
           refine ih3 z13 ⟨(by first | omega | assumption), (by first | exact INV | exact fun j h => absurd h (by omega))⟩ ?_
           show (6 - z13.toInt).toNat < (6 - k2.toInt).toNat
           omega
        · skip
          have c14 : z11.toInt = 0 := by omega
          refine Ev.step (j := 22) (s' := ([some (.ref a0), some (.long wa1), none, some (.int k2)], [.int k2], (0, 0), hp)) rfl rfl ?_
          exact Ev.ret rfl rfl (by rw [hQ]; exact ⟨t, H, F0, bs_an0, sf_S_cons (sf_s1 (x := k2.toInt) rfl (by omega) (by omega)) (sf_S_nil), (fun a w s v ha hS hw hv => by
                  cases ha; have NN : z6.toInt = s.h 0 := Option.some.inj (hz6.symm.trans hS.goods)
                  have NE_ : ∀ j : Nat, (j : Int) < s.h 0 → (j : Int) < k2.toInt → s.nm (j) ≠ v := fun j h1 h2 e => by
                    obtain ⟨w', g1, g2⟩ := hS.gn j h1
                    rw [e, ← hw] at g2
                    exact i5 j h2 (by rw [g1, Int64.toInt_inj.mp g2])
                  obtain ⟨w', g1, g2⟩ := hS.gn k2.toInt.toNat (by omega)
                  have EW : w' = _ := Option.some.inj (g1.symm.trans LA)
                  rw [EW, hz11.mp (by omega), hw] at g2
                  exact ⟨k2, rfl, (fnd_is (Or.inr ⟨by omega, by omega, by rw [Nat.zero_add]; exact (c32_inj (hS.lg _ (by omega)) hv g2.symm), fun j hj => by rw [Nat.zero_add]; exact NE_ j (by omega) hj⟩)).symm⟩)⟩)
def kq_X7_manNamed_v : sf_Q := ([(1, 7, 0), (2, 0, 0)], [], some (0, 0, 0), [(1, 0, 0, -1, 7, 0)], [])
def ke_X7_manNamed_v : List Value → ab_H → Option Value → ab_H → Prop := fun as hp r _ => ∀ (a : Nat) (w : Int64) (s : PS) (v : Int), as = [.ref a, .long w] → SC hp a s → w.toInt = c32 7 v → LW 7 v → ∃ z : Int32, r = some (.int z) ∧ z.toInt = fnd s.nm 6 (s.h 1) v
set_option maxRecDepth 100000 in
set_option maxHeartbeats 4000000 in
theorem ce_X7_manNamed_v : sf_cE kq_X7_manNamed_v Z_X7_manNamed ke_X7_manNamed_v := by
  intro t hp as H hl hj hpre
  match as, hl with
  | [v0, v1], _ =>
    obtain ⟨a0, rfl, ra0⟩ := bs_aR (hj 0 _ rfl)
    obtain ⟨wa1, rfl⟩ := bs_aL (hj 1 _ rfl)
    clear hpre hj
    have F0 : sf_fr [] t hp t hp := sf_fr_rf
    refine bs_finx (E := ke_X7_manNamed_v) (K := kq_X7_manNamed_v) (L := L_X7_manNamed) (nL := 4) (Nat.le_of_ble_eq_true rfl) ?_
    obtain ⟨Q, hQ⟩ : ∃ Q : ab_O → Prop, Q = (fun o => ∃ t', sf_h t' o.2 ∧ sf_fr (kq_X7_manNamed_v).2.2.2.2 t hp t' o.2 ∧ sf_an t' o.2.1 (kq_X7_manNamed_v).2.2.1 o.1 ∧ sf_S (sf_v1 o.1 [.ref a0, .long wa1] o.2) (kq_X7_manNamed_v).2.2.2.1 ∧ ke_X7_manNamed_v [.ref a0, .long wa1] hp o.1 o.2) := ⟨_, rfl⟩
    rw [← hQ]
    refine (show Ev (ab_T L_X7_manNamed) 0 ([some (.ref a0), some (.long wa1), none, none], [], (0, 0), hp) Q from ?_)
    refine bs_lit (k := 0) rfl rfl fun z1 hz1 => ?_
    refine Ev.step (j := 2) (s' := ([some (.ref a0), some (.long wa1), none, some (.int z1)], [], (0, 0), hp)) rfl rfl ?_
    exact by
     refine bs_loop (ι := Int32) (fun k2 => ([some (.ref a0), some (.long wa1), none, some (.int k2)], [], (0, 0), hp)) (fun k2 => (0 ≤ k2.toInt ∧ k2.toInt ≤ 8) ∧ (∀ j : Nat, (j : Int) < k2.toInt → sf_rl hp (rrD hp a0 1) j ≠ some wa1)) (fun k2 => (8 - k2.toInt).toNat) ?_ z1 ⟨(by first | omega | assumption), (by first | exact INV | exact fun j h => absurd h (by omega))⟩
     rintro k2 ⟨i4, i5⟩ ih3
     refine (show Ev _ 2 ([some (.ref a0), some (.long wa1), none, some (.int k2)], [], (0, 0), hp) _ from ?_)
     refine Ev.step (j := 3) (s' := ([some (.ref a0), some (.long wa1), none, some (.int k2)], [.int k2], (0, 0), hp)) rfl rfl ?_
     refine Ev.step (j := 4) (s' := ([some (.ref a0), some (.long wa1), none, some (.int k2)], [.ref a0, .int k2], (0, 0), hp)) rfl rfl ?_
     refine bs_getI 7 rfl rfl rfl H (ra0.fr F0) (by decide) rfl fun z6 hz6 lz6 gz6 => ?_
     refine bs_ge rfl (fun c7 => ?_) (fun c7 => ?_)
     · skip
       refine bs_lit (k := -1) rfl rfl fun z8 hz8 => ?_
       exact Ev.ret rfl rfl (by rw [hQ]; exact ⟨t, H, F0, bs_an0, sf_S_cons (sf_s1 (x := z8.toInt) rfl (by omega) (by omega)) (sf_S_nil), (fun a w s v ha hS hw hv => by
               cases ha; have NN : z6.toInt = s.h 1 := Option.some.inj (hz6.symm.trans hS.men)
               have NE_ : ∀ j : Nat, (j : Int) < s.h 1 → (j : Int) < k2.toInt → s.nm (6 + j) ≠ v := fun j h1 h2 e => by
                 obtain ⟨w', g1, g2⟩ := hS.mn j h1
                 rw [e, ← hw] at g2
                 exact i5 j h2 (by rw [g1, Int64.toInt_inj.mp g2])
               exact ⟨z8, rfl, (fnd_is (Or.inl ⟨by omega, fun j hj => NE_ j hj (by omega)⟩)).symm⟩)⟩)
     · skip
       refine Ev.step (j := 11) (s' := ([some (.ref a0), some (.long wa1), none, some (.int k2)], [.ref a0], (0, 0), hp)) rfl rfl ?_
       exact by
        refine bs_getR (g := 7) (g1 := 117) rfl rfl H (ra0.fr F0) (by decide) rfl fun b9 qb9 rb9 => ?_
        refine Ev.step (j := 15) (s' := ([some (.ref a0), some (.long wa1), none, some (.int k2)], [.int k2, .ref b9], (0, 0), hp)) rfl rfl ?_
        refine bs_laldv (g := 117) rfl H rb9 (by decide) rfl (by omega) (by show _ < ((8 : Nat) : Int); omega) fun w10 hw10 => ?_
        have LA : sf_rl hp (rrD hp a0 1) k2.toInt.toNat = some w10 := by rw [rrD_of qb9]; exact hw10
        refine Ev.step (j := 17) (s' := ([some (.ref a0), some (.long wa1), none, some (.int k2)], [.long wa1, .long w10], (0, 0), hp)) rfl rfl ?_
        refine bs_lcmpv rfl fun z11 hz11 => ?_
        refine bs_ifne rfl (fun c12 => ?_) (fun c12 => ?_)
        · skip
          refine bs_iinc (1) rfl rfl rfl rfl (by omega) (by omega) fun z13 hz13 => ?_
          exact by
           refine (show Ev _ 26 ([some (.ref a0), some (.long wa1), none, some (.int z13)], [], (0, 0), hp) _ from ?_)
           refine Ev.step (j := 2) (s' := ([some (.ref a0), some (.long wa1), none, some (.int z13)], [], (0, 0), hp)) rfl rfl ?_
           have INV : ∀ j : Nat, (j : Int) < z13.toInt → sf_rl hp (rrD hp a0 1) j ≠ some wa1 := by
             intro j hj
             rcases (show (j : Int) < k2.toInt ∨ j = k2.toInt.toNat by omega) with h | h
             · exact i5 j h
             · rw [h, LA]; intro e; exact absurd (hz11.mpr (Option.some.inj e)) (by omega)
           refine ih3 z13 ⟨(by first | omega | assumption), (by first | exact INV | exact fun j h => absurd h (by omega))⟩ ?_
           show (8 - z13.toInt).toNat < (8 - k2.toInt).toNat
           omega
        · skip
          have c14 : z11.toInt = 0 := by omega
          refine Ev.step (j := 22) (s' := ([some (.ref a0), some (.long wa1), none, some (.int k2)], [.int k2], (0, 0), hp)) rfl rfl ?_
          exact Ev.ret rfl rfl (by rw [hQ]; exact ⟨t, H, F0, bs_an0, sf_S_cons (sf_s1 (x := k2.toInt) rfl (by omega) (by omega)) (sf_S_nil), (fun a w s v ha hS hw hv => by
                  cases ha; have NN : z6.toInt = s.h 1 := Option.some.inj (hz6.symm.trans hS.men)
                  have NE_ : ∀ j : Nat, (j : Int) < s.h 1 → (j : Int) < k2.toInt → s.nm (6 + j) ≠ v := fun j h1 h2 e => by
                    obtain ⟨w', g1, g2⟩ := hS.mn j h1
                    rw [e, ← hw] at g2
                    exact i5 j h2 (by rw [g1, Int64.toInt_inj.mp g2])
                  obtain ⟨w', g1, g2⟩ := hS.mn k2.toInt.toNat (by omega)
                  have EW : w' = _ := Option.some.inj (g1.symm.trans LA)
                  rw [EW, hz11.mp (by omega), hw] at g2
                  exact ⟨k2, rfl, (fnd_is (Or.inr ⟨by omega, by omega, (c32_inj (hS.lm _ (by omega)) hv g2.symm), fun j hj => NE_ j (by omega) hj⟩)).symm⟩)⟩)
def kq_X7_takeNewName_v : sf_Q := ([(1, 7, 0), (1, 9, 0)], [], some (0, 0, 0), [(1, 0, 0, 0, 1, 0)], [(9, 4, 9)])
def ke_X7_takeNewName_v : List Value → ab_H → Option Value → ab_H → Prop := fun as hp r hp' => ∀ (a : Nat) (s : PS) (B : Nat → Int) (n lim m i : Nat), as = [.ref a, .ref 3] → SC hp a s → CK hp B n lim m i → i < m → ∃ z : Int32, r = some (.int z) ∧ ((z.toInt = 1 ∧ (tok B n lim i).k = 2 ∧ ¬ (0 ≤ fnd s.nm 0 (s.h 0) (tok B n lim i).v ∨ 0 ≤ fnd s.nm 6 (s.h 1) (tok B n lim i).v) ∧ CUR hp' (tok B n lim i) ∧ CK hp' B n lim m (i + 1) ∧ sf_rd hp' 3 9 = sf_rd hp 3 9) ∨ (z.toInt = 0 ∧ sf_rd hp' 3 6 = some (tok B n lim i).pl ∧ (((tok B n lim i).k ≠ 2 ∧ sf_rd hp' 3 9 = some 1) ∨ ((tok B n lim i).k = 2 ∧ (0 ≤ fnd s.nm 0 (s.h 0) (tok B n lim i).v ∨ 0 ≤ fnd s.nm 6 (s.h 1) (tok B n lim i).v) ∧ sf_rd hp' 3 9 = some 3))))
set_option maxRecDepth 100000 in
set_option maxHeartbeats 4000000 in
theorem ce_X7_takeNewName_v : sf_cE kq_X7_takeNewName_v Z_X7_takeNewName ke_X7_takeNewName_v := by
  intro t hp as H hl hj hpre
  match as, hl with
  | [v0, v1], _ =>
    obtain ⟨a0, rfl, ra0⟩ := bs_aR (hj 0 _ rfl)
    obtain ⟨a1, rfl, ra1⟩ := bs_aR (hj 1 _ rfl)
    obtain rfl := ra1.eq H (p := 3) rfl
    clear hpre hj
    have F0 : sf_fr [(9, 4, 9)] t hp t hp := sf_fr_rf
    refine bs_finx (E := ke_X7_takeNewName_v) (K := kq_X7_takeNewName_v) (L := (L_X7_takeNewName Z_X9_takeName Z_X7_goodNamed Z_X7_manNamed Z_X9_fail)) (nL := 3) (Nat.le_of_ble_eq_true rfl) ?_
    obtain ⟨Q, hQ⟩ : ∃ Q : ab_O → Prop, Q = (fun o => ∃ t', sf_h t' o.2 ∧ sf_fr (kq_X7_takeNewName_v).2.2.2.2 t hp t' o.2 ∧ sf_an t' o.2.1 (kq_X7_takeNewName_v).2.2.1 o.1 ∧ sf_S (sf_v1 o.1 [.ref a0, .ref 3] o.2) (kq_X7_takeNewName_v).2.2.2.1 ∧ ke_X7_takeNewName_v [.ref a0, .ref 3] hp o.1 o.2) := ⟨_, rfl⟩
    rw [← hQ]
    refine (show Ev (ab_T (L_X7_takeNewName Z_X9_takeName Z_X7_goodNamed Z_X7_manNamed Z_X9_fail)) 0 ([some (.ref a0), some (.ref 3), none], [], (0, 0), hp) Q from ?_)
    refine Ev.step (j := 1) (s' := ([some (.ref a0), some (.ref 3), none], [.ref 3], (0, 0), hp)) rfl rfl ?_
    exact by
     refine bs_callx (K := kq_X9_takeName_v) [.ref 3] [] rfl ce_X9_takeName_v H rfl rfl rfl (bs_rcv (g := 9) H (bs_R.uq H (g := 9) rfl) (by decide) rfl) rfl ?_ (sf_S_nil) fun r1 hp2 thp2 Hhp2 fhp2 ahp2 php2 xhp2 => ?_
     · intro q k h
       match q, h with
       | 0, h => cases h; exact bs_jR (bs_R.uq H (g := 9) rfl)
       | q + 1, h => cases h
     obtain ⟨z3, rfl⟩ := bs_anI ahp2
     have rgz3 := n_range z3
     have Fhp2 := sf_fr_tr F0 (sf_fr_wider (W := [(9, 4, 9)]) rfl fhp2)
     obtain ⟨uz3, vz3⟩ := bs_s1 (x := z3.toInt) rfl (php2 _ (List.mem_of_getElem? (i := 0) rfl))
     refine (show Ev _ 4 ([some (.ref a0), some (.ref 3), none], [.int z3], (0, 0), hp2) _ from ?_)
     refine bs_ifne rfl (fun c4 => ?_) (fun c4 => ?_)
     · skip
       refine Ev.step (j := 10) (s' := ([some (.ref a0), some (.ref 3), none], [.ref a0], (0, 0), hp2)) rfl rfl ?_
       exact by
        refine Ev.step (j := 11) (s' := ([some (.ref a0), some (.ref 3), none], [.ref 3, .ref a0], (0, 0), hp2)) rfl rfl ?_
        refine bs_getLv (g := 9) rfl rfl Hhp2 (bs_R.uq Hhp2 (g := 9) rfl) (by decide) rfl fun w5 hw5 => ?_
        refine bs_callx (K := kq_X7_goodNamed_v) [.ref a0, .long w5] [] rfl ce_X7_goodNamed_v Hhp2 rfl rfl rfl (bs_rcv (g := 7) Hhp2 (ra0.fr Fhp2) (by decide) rfl) rfl ?_ (sf_S_nil) fun r6 hp7 thp7 Hhp7 fhp7 ahp7 php7 xhp7 => ?_
        · intro q k h
          match q, h with
          | 0, h => cases h; exact bs_jR (ra0.fr Fhp2)
          | 1, h => cases h; exact sf_j2
          | q + 2, h => cases h
        obtain ⟨z8, rfl⟩ := bs_anI ahp7
        have rgz8 := n_range z8
        have Fhp7 := sf_fr_tr Fhp2 (sf_fr_wider (W := [(9, 4, 9)]) rfl fhp7)
        have h9 : sf_rl hp7 3 8 = some w5 := (sf_rl_cell (fhp7.2.2.2.1 _ (bs_R.uq Hhp2 (g := 9) (p := 3) rfl).1 (by rw [(bs_R.uq Hhp2 (g := 9) (p := 3) rfl).2]; rfl))).trans hw5
        obtain ⟨uz8, vz8⟩ := bs_s1 (x := z8.toInt) rfl (php7 _ (List.mem_of_getElem? (i := 0) rfl))
        refine (show Ev _ 17 ([some (.ref a0), some (.ref 3), none], [.int z8], (0, 0), hp7) _ from ?_)
        exact by
         refine bs_lit (k := -1) rfl rfl fun z10 hz10 => ?_
         refine bs_ne rfl (fun c11 => ?_) (fun c11 => ?_)
         · skip
           refine bs_lit (k := 0) rfl rfl fun z12 hz12 => ?_
           refine Ev.step (j := 39) (s' := ([some (.ref a0), some (.ref 3), some (.int z12)], [], (0, 0), hp7)) rfl rfl ?_
           refine Ev.step (j := 40) (s' := ([some (.ref a0), some (.ref 3), some (.int z12)], [.int z12], (0, 0), hp7)) rfl rfl ?_
           refine bs_ifne rfl (fun c13 => ?_) (fun c13 => ?_)
           · exfalso; omega
           · skip
             refine Ev.step (j := 44) (s' := ([some (.ref a0), some (.ref 3), some (.int z12)], [.ref 3], (0, 0), hp7)) rfl rfl ?_
             refine bs_lit (k := 3) rfl rfl fun z14 hz14 => ?_
             exact by
              refine Ev.inl (L := L_X9_fail) (nL := 2) rfl (bs_rcv (g := 9) Hhp7 (bs_R.uq Hhp7 (g := 9) rfl) (by decide) rfl) rfl (Nat.le_of_ble_eq_true rfl) ?_
              generalize hQ15 : (fun (o : ab_O) => Ev _ _ _ _) = Q15
              refine (show Ev (ab_T L_X9_fail) 0 ([some (.ref 3), some (.int z14)], [], (0, 0), hp7) Q15 from ?_)
              refine Ev.step (j := 1) (s' := ([some (.ref 3), some (.int z14)], [.ref 3], (0, 0), hp7)) rfl rfl ?_
              refine Ev.step (j := 2) (s' := ([some (.ref 3), some (.int z14)], [.int z14, .ref 3], (0, 0), hp7)) rfl rfl ?_
              refine bs_putIv (W := [(9, 9, 9)]) (g := 9) rfl rfl Hhp7 (bs_R.uq Hhp7 (g := 9) rfl) (by decide) rfl rfl rfl rfl (Or.inl rfl) (by omega) (by omega) fun hp16 Hhp16 fhp16 rhp16 ehp16 qhp16 nhp16 => ?_
              have Fhp16 := sf_fr_tr Fhp7 (sf_fr_wider (W := [(9, 4, 9)]) rfl fhp16)
              have h17 : sf_rl hp16 3 8 = some w5 := (nhp16 _ _).trans h9
              refine bs_lit (k := 0) rfl rfl fun z18 hz18 => ?_
              exact by
               refine bs_zret rfl rfl (by omega) (by omega) ?_
               rw [← hQ15]
               refine (show Ev _ 48 ([some (.ref a0), some (.ref 3), some (.int z12)], [.int z18], (0, 0), hp16) _ from ?_)
               refine bs_ifeq rfl (fun c19 => ?_) (fun c19 => ?_)
               · skip
                 refine bs_lit (k := 0) rfl rfl fun z20 hz20 => ?_
                 exact bs_zret rfl rfl (by omega) (by omega) (by rw [hQ]; exact ⟨thp7, Hhp16, Fhp16, bs_an0, sf_S_cons (sf_s1 (x := z20.toInt) rfl (by omega) (by omega)) (sf_S_nil), (fun a s B n lim m i ha hS hC hi_ => by
                         cases ha
                         obtain ⟨q1, rq1, X1⟩ := xhp2 B n lim m i hC hi_
                         obtain rfl := Value.int.inj (Option.some.inj rq1)
                         obtain ⟨Y1, X2, X3, X4, X5⟩ := X1.resolve_right (fun h => absurd h.1 (by omega))
                         obtain ⟨wq9, W1, W2⟩ := X3.2.2.2 X2
                         have WE : w5 = wq9 := Option.some.inj (hw5.symm.trans W1)
                         have LW9 := (tok_wok B n lim i (Or.inl X2)).1
                         have S1 := SC_fr H ra0 hS fhp2 rfl rfl
                         obtain ⟨q2, rq2, G2⟩ := xhp7 _ _ s (tok B n lim i).v rfl S1 (by rw [WE]; exact W2) LW9
                         obtain rfl := Value.int.inj (Option.some.inj rq2)
                         exact ⟨z20, rfl, Or.inr ⟨by omega, (((ehp16 _ _ (Or.inr (by omega))).trans (fhp7.2.2.1 _ (bs_R.uq Hhp2 (g := 9) (p := 3) rfl).1 _ (by rw [(bs_R.uq Hhp2 (g := 9) (p := 3) rfl).2]; rfl)))).trans X3.2.1, Or.inr ⟨X2, by omega, rhp16.trans (congrArg some (by omega))⟩⟩⟩)⟩)
               · exfalso; omega
         · skip
           have c21 : z8.toInt = -1 := by omega
           refine Ev.step (j := 22) (s' := ([some (.ref a0), some (.ref 3), none], [.ref a0], (0, 0), hp7)) rfl rfl ?_
           exact by
            refine Ev.step (j := 23) (s' := ([some (.ref a0), some (.ref 3), none], [.ref 3, .ref a0], (0, 0), hp7)) rfl rfl ?_
            refine bs_getLe (g := 9) rfl rfl Hhp7 (bs_R.uq Hhp7 (g := 9) rfl) (by decide) rfl h9 ?_
            refine bs_callx (K := kq_X7_manNamed_v) [.ref a0, .long w5] [] rfl ce_X7_manNamed_v Hhp7 rfl rfl rfl (bs_rcv (g := 7) Hhp7 (ra0.fr Fhp7) (by decide) rfl) rfl ?_ (sf_S_nil) fun r22 hp23 thp23 Hhp23 fhp23 ahp23 php23 xhp23 => ?_
            · intro q k h
              match q, h with
              | 0, h => cases h; exact bs_jR (ra0.fr Fhp7)
              | 1, h => cases h; exact sf_j2
              | q + 2, h => cases h
            obtain ⟨z24, rfl⟩ := bs_anI ahp23
            have rgz24 := n_range z24
            have Fhp23 := sf_fr_tr Fhp7 (sf_fr_wider (W := [(9, 4, 9)]) rfl fhp23)
            have h25 : sf_rl hp23 3 8 = some w5 := (sf_rl_cell (fhp23.2.2.2.1 _ (bs_R.uq Hhp7 (g := 9) (p := 3) rfl).1 (by rw [(bs_R.uq Hhp7 (g := 9) (p := 3) rfl).2]; rfl))).trans h9
            obtain ⟨uz24, vz24⟩ := bs_s1 (x := z24.toInt) rfl (php23 _ (List.mem_of_getElem? (i := 0) rfl))
            refine (show Ev _ 29 ([some (.ref a0), some (.ref 3), none], [.int z24], (0, 0), hp23) _ from ?_)
            exact by
             refine bs_lit (k := -1) rfl rfl fun z26 hz26 => ?_
             refine bs_ne rfl (fun c27 => ?_) (fun c27 => ?_)
             · skip
               refine bs_lit (k := 0) rfl rfl fun z28 hz28 => ?_
               refine Ev.step (j := 39) (s' := ([some (.ref a0), some (.ref 3), some (.int z28)], [], (0, 0), hp23)) rfl rfl ?_
               refine Ev.step (j := 40) (s' := ([some (.ref a0), some (.ref 3), some (.int z28)], [.int z28], (0, 0), hp23)) rfl rfl ?_
               refine bs_ifne rfl (fun c29 => ?_) (fun c29 => ?_)
               · exfalso; omega
               · skip
                 refine Ev.step (j := 44) (s' := ([some (.ref a0), some (.ref 3), some (.int z28)], [.ref 3], (0, 0), hp23)) rfl rfl ?_
                 refine bs_lit (k := 3) rfl rfl fun z30 hz30 => ?_
                 exact by
                  refine Ev.inl (L := L_X9_fail) (nL := 2) rfl (bs_rcv (g := 9) Hhp23 (bs_R.uq Hhp23 (g := 9) rfl) (by decide) rfl) rfl (Nat.le_of_ble_eq_true rfl) ?_
                  generalize hQ31 : (fun (o : ab_O) => Ev _ _ _ _) = Q31
                  refine (show Ev (ab_T L_X9_fail) 0 ([some (.ref 3), some (.int z30)], [], (0, 0), hp23) Q31 from ?_)
                  refine Ev.step (j := 1) (s' := ([some (.ref 3), some (.int z30)], [.ref 3], (0, 0), hp23)) rfl rfl ?_
                  refine Ev.step (j := 2) (s' := ([some (.ref 3), some (.int z30)], [.int z30, .ref 3], (0, 0), hp23)) rfl rfl ?_
                  refine bs_putIv (W := [(9, 9, 9)]) (g := 9) rfl rfl Hhp23 (bs_R.uq Hhp23 (g := 9) rfl) (by decide) rfl rfl rfl rfl (Or.inl rfl) (by omega) (by omega) fun hp32 Hhp32 fhp32 rhp32 ehp32 qhp32 nhp32 => ?_
                  have Fhp32 := sf_fr_tr Fhp23 (sf_fr_wider (W := [(9, 4, 9)]) rfl fhp32)
                  have h33 : sf_rl hp32 3 8 = some w5 := (nhp32 _ _).trans h25
                  refine bs_lit (k := 0) rfl rfl fun z34 hz34 => ?_
                  exact by
                   refine bs_zret rfl rfl (by omega) (by omega) ?_
                   rw [← hQ31]
                   refine (show Ev _ 48 ([some (.ref a0), some (.ref 3), some (.int z28)], [.int z34], (0, 0), hp32) _ from ?_)
                   refine bs_ifeq rfl (fun c35 => ?_) (fun c35 => ?_)
                   · skip
                     refine bs_lit (k := 0) rfl rfl fun z36 hz36 => ?_
                     exact bs_zret rfl rfl (by omega) (by omega) (by rw [hQ]; exact ⟨thp23, Hhp32, Fhp32, bs_an0, sf_S_cons (sf_s1 (x := z36.toInt) rfl (by omega) (by omega)) (sf_S_nil), (fun a s B n lim m i ha hS hC hi_ => by
                             cases ha
                             obtain ⟨q1, rq1, X1⟩ := xhp2 B n lim m i hC hi_
                             obtain rfl := Value.int.inj (Option.some.inj rq1)
                             obtain ⟨Y1, X2, X3, X4, X5⟩ := X1.resolve_right (fun h => absurd h.1 (by omega))
                             obtain ⟨wq9, W1, W2⟩ := X3.2.2.2 X2
                             have WE : w5 = wq9 := Option.some.inj (hw5.symm.trans W1)
                             have LW9 := (tok_wok B n lim i (Or.inl X2)).1
                             have S1 := SC_fr H ra0 hS fhp2 rfl rfl
                             have S2 := SC_fr Hhp2 (ra0.fr fhp2) S1 fhp7 rfl rfl
                             obtain ⟨q2, rq2, G2⟩ := xhp7 _ _ s (tok B n lim i).v rfl S1 (by rw [WE]; exact W2) LW9
                             obtain rfl := Value.int.inj (Option.some.inj rq2)
                             obtain ⟨q3, rq3, G3⟩ := xhp23 _ _ s (tok B n lim i).v rfl S2 (by rw [WE]; exact W2) LW9
                             obtain rfl := Value.int.inj (Option.some.inj rq3)
                             exact ⟨z36, rfl, Or.inr ⟨by omega, (((ehp32 _ _ (Or.inr (by omega))).trans ((fhp23.2.2.1 _ (bs_R.uq Hhp7 (g := 9) (p := 3) rfl).1 _ (by rw [(bs_R.uq Hhp7 (g := 9) (p := 3) rfl).2]; rfl)).trans (fhp7.2.2.1 _ (bs_R.uq Hhp2 (g := 9) (p := 3) rfl).1 _ (by rw [(bs_R.uq Hhp2 (g := 9) (p := 3) rfl).2]; rfl))))).trans X3.2.1, Or.inr ⟨X2, by omega, rhp32.trans (congrArg some (by omega))⟩⟩⟩)⟩)
                   · exfalso; omega
             · skip
               have c37 : z24.toInt = -1 := by omega
               refine bs_lit (k := 1) rfl rfl fun z38 hz38 => ?_
               exact by
                refine Ev.step (j := 38) (s' := ([some (.ref a0), some (.ref 3), none], [.int z38], (0, 0), hp23)) rfl rfl ?_
                refine Ev.step (j := 39) (s' := ([some (.ref a0), some (.ref 3), some (.int z38)], [], (0, 0), hp23)) rfl rfl ?_
                refine Ev.step (j := 40) (s' := ([some (.ref a0), some (.ref 3), some (.int z38)], [.int z38], (0, 0), hp23)) rfl rfl ?_
                refine bs_ifne rfl (fun c39 => ?_) (fun c39 => ?_)
                · skip
                  refine bs_lit (k := 1) rfl rfl fun z40 hz40 => ?_
                  refine Ev.step (j := 56) (s' := ([some (.ref a0), some (.ref 3), some (.int z38)], [.int z40], (0, 0), hp23)) rfl rfl ?_
                  exact bs_zret rfl rfl (by omega) (by omega) (by rw [hQ]; exact ⟨thp23, Hhp23, Fhp23, bs_an0, sf_S_cons (sf_s1 (x := z40.toInt) rfl (by omega) (by omega)) (sf_S_nil), (fun a s B n lim m i ha hS hC hi_ => by
                          cases ha
                          obtain ⟨q1, rq1, X1⟩ := xhp2 B n lim m i hC hi_
                          obtain rfl := Value.int.inj (Option.some.inj rq1)
                          obtain ⟨Y1, X2, X3, X4, X5⟩ := X1.resolve_right (fun h => absurd h.1 (by omega))
                          obtain ⟨wq9, W1, W2⟩ := X3.2.2.2 X2
                          have WE : w5 = wq9 := Option.some.inj (hw5.symm.trans W1)
                          have LW9 := (tok_wok B n lim i (Or.inl X2)).1
                          have S1 := SC_fr H ra0 hS fhp2 rfl rfl
                          have S2 := SC_fr Hhp2 (ra0.fr fhp2) S1 fhp7 rfl rfl
                          obtain ⟨q2, rq2, G2⟩ := xhp7 _ _ s (tok B n lim i).v rfl S1 (by rw [WE]; exact W2) LW9
                          obtain rfl := Value.int.inj (Option.some.inj rq2)
                          obtain ⟨q3, rq3, G3⟩ := xhp23 _ _ s (tok B n lim i).v rfl S2 (by rw [WE]; exact W2) LW9
                          obtain rfl := Value.int.inj (Option.some.inj rq3)
                          have C1 := TKS_fr Hhp2 X4.1 fhp7 rfl rfl rfl rfl
                          have C2 := TKS_fr Hhp7 C1 fhp23 rfl rfl rfl rfl
                          exact ⟨z40, rfl, Or.inl ⟨by omega, X2, by omega, ⟨(((fhp23.2.2.1 _ (bs_R.uq Hhp7 (g := 9) (p := 3) rfl).1 _ (by rw [(bs_R.uq Hhp7 (g := 9) (p := 3) rfl).2]; rfl)).trans (fhp7.2.2.1 _ (bs_R.uq Hhp2 (g := 9) (p := 3) rfl).1 _ (by rw [(bs_R.uq Hhp2 (g := 9) (p := 3) rfl).2]; rfl)))).trans X3.1, (((fhp23.2.2.1 _ (bs_R.uq Hhp7 (g := 9) (p := 3) rfl).1 _ (by rw [(bs_R.uq Hhp7 (g := 9) (p := 3) rfl).2]; rfl)).trans (fhp7.2.2.1 _ (bs_R.uq Hhp2 (g := 9) (p := 3) rfl).1 _ (by rw [(bs_R.uq Hhp2 (g := 9) (p := 3) rfl).2]; rfl)))).trans X3.2.1, fun h => (((fhp23.2.2.1 _ (bs_R.uq Hhp7 (g := 9) (p := 3) rfl).1 _ (by rw [(bs_R.uq Hhp7 (g := 9) (p := 3) rfl).2]; rfl)).trans (fhp7.2.2.1 _ (bs_R.uq Hhp2 (g := 9) (p := 3) rfl).1 _ (by rw [(bs_R.uq Hhp2 (g := 9) (p := 3) rfl).2]; rfl)))).trans (X3.2.2.1 h), fun h => by obtain ⟨w, g1, g2⟩ := X3.2.2.2 h; exact CURn_i ((((sf_rl_cell (fhp23.2.2.2.1 _ (bs_R.uq Hhp7 (g := 9) (p := 3) rfl).1 (by rw [(bs_R.uq Hhp7 (g := 9) (p := 3) rfl).2]; rfl))).trans (sf_rl_cell (fhp7.2.2.2.1 _ (bs_R.uq Hhp2 (g := 9) (p := 3) rfl).1 (by rw [(bs_R.uq Hhp2 (g := 9) (p := 3) rfl).2]; rfl))))).trans g1) g2⟩, ⟨C2, (((fhp23.2.2.1 _ (bs_R.uq Hhp7 (g := 9) (p := 3) rfl).1 _ (by rw [(bs_R.uq Hhp7 (g := 9) (p := 3) rfl).2]; rfl)).trans (fhp7.2.2.1 _ (bs_R.uq Hhp2 (g := 9) (p := 3) rfl).1 _ (by rw [(bs_R.uq Hhp2 (g := 9) (p := 3) rfl).2]; rfl)))).trans X4.2.1, X4.2.2⟩, (((fhp23.2.2.1 _ (bs_R.uq Hhp7 (g := 9) (p := 3) rfl).1 _ (by rw [(bs_R.uq Hhp7 (g := 9) (p := 3) rfl).2]; rfl)).trans (fhp7.2.2.1 _ (bs_R.uq Hhp2 (g := 9) (p := 3) rfl).1 _ (by rw [(bs_R.uq Hhp2 (g := 9) (p := 3) rfl).2]; rfl)))).trans X5⟩⟩)⟩)
                · exfalso; omega
     · skip
       have c41 : z3.toInt = 0 := by omega
       refine bs_lit (k := 0) rfl rfl fun z42 hz42 => ?_
       exact bs_zret rfl rfl (by omega) (by omega) (by rw [hQ]; exact ⟨thp2, Hhp2, Fhp2, bs_an0, sf_S_cons (sf_s1 (x := z42.toInt) rfl (by omega) (by omega)) (sf_S_nil), (fun a s B n lim m i ha hS hC hi_ => by
               cases ha
               obtain ⟨q1, rq1, X1⟩ := xhp2 B n lim m i hC hi_
               obtain rfl := Value.int.inj (Option.some.inj rq1)
               rcases X1 with X | ⟨_, X2, X3, X4⟩
               · exact absurd X.1 (by omega)
               · exact ⟨z42, rfl, Or.inr ⟨by omega, X2, Or.inl ⟨X3, X4⟩⟩⟩)⟩)
def kq_X7_readGood_v : sf_Q := ([(1, 7, 0), (1, 9, 0)], [], some (0, 0, 0), [(1, 0, 0, 0, 1, 0)], [(7, 8, 8), (9, 4, 9), (116, 0, 0)])
def ke_X7_readGood_v : List Value → ab_H → Option Value → ab_H → Prop := fun as hp r hp' => ∀ (a : Nat) (s : PS) (B : Nat → Int) (n lim m j : Nat), as = [.ref a, .ref 3] → SC hp a s → CK hp B n lim m (j + 1) → j + 1 < m → sf_rd hp 3 6 = some (tok B n lim j).pl → sf_rd hp 3 9 = some 0 → LRES hp' a B n lim m r (lnGood (tok B n lim) s j)
set_option maxRecDepth 100000 in
set_option maxHeartbeats 4000000 in
theorem ce_X7_readGood_v : sf_cE kq_X7_readGood_v Z_X7_readGood ke_X7_readGood_v := by
  intro t hp as H hl hj hpre
  match as, hl with
  | [v0, v1], _ =>
    obtain ⟨a0, rfl, ra0⟩ := bs_aR (hj 0 _ rfl)
    obtain ⟨a1, rfl, ra1⟩ := bs_aR (hj 1 _ rfl)
    obtain rfl := ra1.eq H (p := 3) rfl
    clear hpre hj
    have F0 : sf_fr [(7, 8, 8), (9, 4, 9), (116, 0, 0)] t hp t hp := sf_fr_rf
    refine bs_finx (E := ke_X7_readGood_v) (K := kq_X7_readGood_v) (L := (L_X7_readGood Z_X9_fail Z_X7_takeNewName)) (nL := 2) (Nat.le_of_ble_eq_true rfl) ?_
    obtain ⟨Q, hQ⟩ : ∃ Q : ab_O → Prop, Q = (fun o => ∃ t', sf_h t' o.2 ∧ sf_fr (kq_X7_readGood_v).2.2.2.2 t hp t' o.2 ∧ sf_an t' o.2.1 (kq_X7_readGood_v).2.2.1 o.1 ∧ sf_S (sf_v1 o.1 [.ref a0, .ref 3] o.2) (kq_X7_readGood_v).2.2.2.1 ∧ ke_X7_readGood_v [.ref a0, .ref 3] hp o.1 o.2) := ⟨_, rfl⟩
    rw [← hQ]
    refine (show Ev (ab_T (L_X7_readGood Z_X9_fail Z_X7_takeNewName)) 0 ([some (.ref a0), some (.ref 3)], [], (0, 0), hp) Q from ?_)
    refine Ev.step (j := 1) (s' := ([some (.ref a0), some (.ref 3)], [.ref a0], (0, 0), hp)) rfl rfl ?_
    exact by
     refine bs_getI 7 rfl rfl rfl H (ra0.fr F0) (by decide) rfl fun z1 hz1 lz1 gz1 => ?_
     refine bs_lit (k := 6) rfl rfl fun z2 hz2 => ?_
     refine bs_lt rfl (fun c3 => ?_) (fun c3 => ?_)
     · skip
       refine Ev.step (j := 16) (s' := ([some (.ref a0), some (.ref 3)], [.ref a0], (0, 0), hp)) rfl rfl ?_
       refine Ev.step (j := 17) (s' := ([some (.ref a0), some (.ref 3)], [.ref 3, .ref a0], (0, 0), hp)) rfl rfl ?_
       refine bs_callx (K := kq_X7_takeNewName_v) [.ref a0, .ref 3] [] rfl ce_X7_takeNewName_v H rfl rfl rfl (bs_rcv (g := 7) H (ra0.fr F0) (by decide) rfl) rfl ?_ (sf_S_nil) fun r4 hp5 thp5 Hhp5 fhp5 ahp5 php5 xhp5 => ?_
       · intro q k h
         match q, h with
         | 0, h => cases h; exact bs_jR (ra0.fr F0)
         | 1, h => cases h; exact bs_jR (bs_R.uq H (g := 9) rfl)
         | q + 2, h => cases h
       obtain ⟨z6, rfl⟩ := bs_anI ahp5
       have rgz6 := n_range z6
       have Fhp5 := sf_fr_tr F0 (sf_fr_wider (W := [(7, 8, 8), (9, 4, 9), (116, 0, 0)]) rfl fhp5)
       have h7 : sf_rd hp5 a0 8 = some z1.toInt := (fhp5.2.2.1 _ (ra0.fr F0).1 _ (by rw [(ra0.fr F0).2]; rfl)).trans hz1
       obtain ⟨uz6, vz6⟩ := bs_s1 (x := z6.toInt) rfl (php5 _ (List.mem_of_getElem? (i := 0) rfl))
       refine (show Ev _ 20 ([some (.ref a0), some (.ref 3)], [.int z6], (0, 0), hp5) _ from ?_)
       exact by
        refine bs_ifne rfl (fun c8 => ?_) (fun c8 => ?_)
        · skip
          refine Ev.step (j := 26) (s' := ([some (.ref a0), some (.ref 3)], [.ref a0], (0, 0), hp5)) rfl rfl ?_
          refine bs_getR (g := 7) (g1 := 116) rfl rfl Hhp5 (ra0.fr Fhp5) (by decide) rfl fun b9 qb9 rb9 => ?_
          refine Ev.step (j := 30) (s' := ([some (.ref a0), some (.ref 3)], [.ref a0, .ref b9], (0, 0), hp5)) rfl rfl ?_
          refine bs_getI 7 rfl rfl rfl Hhp5 (ra0.fr Fhp5) (by decide) rfl fun z10 hz10 lz10 gz10 => ?_
          have e11 : z10.toInt = z1.toInt := Option.some.inj (hz10.symm.trans h7)
          refine Ev.step (j := 34) (s' := ([some (.ref a0), some (.ref 3)], [.ref 3, .int z10, .ref b9], (0, 0), hp5)) rfl rfl ?_
          refine bs_getLv (g := 9) rfl rfl Hhp5 (bs_R.uq Hhp5 (g := 9) rfl) (by decide) rfl fun w12 hw12 => ?_
          exact by
           refine bs_lastv (W := [(116, 0, 0)]) (g := 116) rfl Hhp5 rb9 (by decide) rfl rfl (by omega) (by show _ < ((6 : Nat) : Int); omega) fun hp13 Hhp13 fhp13 mhp13 lhp13 ehp13 qhp13 => ?_
           have Fhp13 := sf_fr_tr Fhp5 (sf_fr_wider (W := [(7, 8, 8), (9, 4, 9), (116, 0, 0)]) rfl fhp13)
           have h14 : sf_rd hp13 a0 8 = some z1.toInt := (ehp13 _ _).trans h7
           have h15 : sf_rl hp13 3 8 = some w12 := (lhp13 _ _ (Or.inl (bs_nq (bs_R.uq Hhp5 (g := 9) rfl) rb9 (by decide)))).trans hw12
           have r16 := rb9.fr fhp13
           refine Ev.step (j := 39) (s' := ([some (.ref a0), some (.ref 3)], [.ref a0], (0, 0), hp13)) rfl rfl ?_
           refine Ev.step (j := 40) (s' := ([some (.ref a0), some (.ref 3)], [.ref a0, .ref a0], (0, 0), hp13)) rfl rfl ?_
           refine bs_getI 7 rfl rfl rfl Hhp13 (ra0.fr Fhp13) (by decide) rfl fun z17 hz17 lz17 gz17 => ?_
           have e18 : z17.toInt = z1.toInt := Option.some.inj (hz17.symm.trans h14)
           refine bs_lit (k := 1) rfl rfl fun z19 hz19 => ?_
           first | (refine bs_add rfl (by omega) (by omega) fun z20 hz20 => ?_) | (refine bs_any rfl fun z20 => ?_)
           have rz20 := n_range z20
           refine bs_putIv (W := [(7, 8, 8)]) (g := 7) rfl rfl Hhp13 (ra0.fr Fhp13) (by decide) rfl rfl rfl rfl (Or.inl rfl) (by omega) (by omega) fun hp21 Hhp21 fhp21 rhp21 ehp21 qhp21 nhp21 => ?_
           have Fhp21 := sf_fr_tr Fhp13 (sf_fr_wider (W := [(7, 8, 8), (9, 4, 9), (116, 0, 0)]) rfl fhp21)
           have h22 : sf_rl hp21 3 8 = some w12 := (nhp21 _ _).trans h15
           have h23 : sf_rl hp21 b9 z10.toInt.toNat = some w12 := (nhp21 _ _).trans mhp13
           have r24 := r16.fr fhp21
           refine bs_lit (k := 1) rfl rfl fun z25 hz25 => ?_
           exact bs_zret rfl rfl (by omega) (by omega) (by rw [hQ]; exact ⟨thp5, Hhp21, Fhp21, bs_an0, sf_S_cons (sf_s1 (x := z25.toInt) rfl (by omega) (by omega)) (sf_S_nil), (fun a s B n lim m j ha hS hC hj hpl h9 => by
                   cases ha
                   have GE : z1.toInt = s.h 0 := Option.some.inj (hz1.symm.trans hS.goods)
                   rw [show lnGood (tok B n lim) s j = _ from if_neg (by omega)]
                   obtain ⟨q1, rq1, X1⟩ := xhp5 _ s B n lim m (j + 1) rfl hS hC hj
                   obtain rfl := Value.int.inj (Option.some.inj rq1)
                   obtain ⟨Y0, Y1, Y2, Y3, Y4, Y5⟩ := X1.resolve_right (fun h => absurd h.1 (by omega))
                   rw [lnew_o Y1 Y2]
                   have S1 := SC_fr H ra0 hS fhp5 rfl rfl
                   have C1 := TKS_fr Hhp5 Y4.1 fhp13 rfl rfl rfl rfl
                   have C2 := TKS_fr Hhp13 C1 fhp21 rfl rfl rfl rfl
                   obtain ⟨wq9, W1, W2⟩ := Y3.2.2.2 Y1
                   have WE : w12 = wq9 := Option.some.inj (hw12.symm.trans W1)
                   have LW9 := (tok_wok B n lim (j + 1) (Or.inl Y1)).1
                   have EB0 := rrD_of qb9
                   have EI : (s.h 0).toNat = z10.toInt.toNat := by omega
                   exact LRES_ok ⟨z25, rfl, by omega⟩ (SC_good (w := w12) Hhp5 (ra0.fr fhp5) S1 (by omega) (by omega) (by rw [WE]; exact W2) LW9 (fun k => ((qhp21 _ _).trans (qhp13 _ _))) (by rw [EB0, EI]; exact (nhp21 _ _).trans mhp13) (fun b q h => (nhp21 _ _).trans (lhp13 _ _ (by rw [EB0, EI] at h; exact h))) (fun b q h => (ehp21 _ _ h).trans (ehp13 _ _)) (rhp21.trans (congrArg some (by omega)))) ⟨C2, (((ehp21 _ _ (Or.inl (bs_nq (bs_R.uq Hhp13 (g := 9) rfl) (ra0.fr Fhp13) (by decide)))).trans (ehp13 _ _))).trans Y4.2.1, Y4.2.2⟩ ((((ehp21 _ _ (Or.inl (bs_nq (bs_R.uq Hhp13 (g := 9) rfl) (ra0.fr Fhp13) (by decide)))).trans (ehp13 _ _))).trans (Y5.trans h9)) (CK_more Y4.1 hj (by omega) (by omega)))⟩)
        · skip
          have c26 : z6.toInt = 0 := by omega
          refine bs_lit (k := 0) rfl rfl fun z27 hz27 => ?_
          exact bs_zret rfl rfl (by omega) (by omega) (by rw [hQ]; exact ⟨thp5, Hhp5, Fhp5, bs_an0, sf_S_cons (sf_s1 (x := z27.toInt) rfl (by omega) (by omega)) (sf_S_nil), (fun a s B n lim m j ha hS hC hj hpl h9 => by
                  cases ha
                  have GE : z1.toInt = s.h 0 := Option.some.inj (hz1.symm.trans hS.goods)
                  rw [show lnGood (tok B n lim) s j = _ from if_neg (by omega)]
                  obtain ⟨q1, rq1, X1⟩ := xhp5 _ s B n lim m (j + 1) rfl hS hC hj
                  obtain rfl := Value.int.inj (Option.some.inj rq1)
                  rcases X1.resolve_left (fun h => absurd h.1 (by omega)) with ⟨_, P1, ⟨P2, P3⟩ | ⟨P2, P4, P3⟩⟩
                  · rw [lnew_1 P2]
                    exact LRES_bad ⟨z27, rfl, by omega⟩ (P3) (P1)
                  · rw [lnew_3 P2 P4]
                    exact LRES_bad ⟨z27, rfl, by omega⟩ (P3) (P1))⟩)
     · skip
       refine Ev.step (j := 10) (s' := ([some (.ref a0), some (.ref 3)], [.ref 3], (0, 0), hp)) rfl rfl ?_
       exact by
        refine bs_lit (k := 4) rfl rfl fun z28 hz28 => ?_
        refine Ev.inl (L := L_X9_fail) (nL := 2) rfl (bs_rcv (g := 9) H (bs_R.uq H (g := 9) rfl) (by decide) rfl) rfl (Nat.le_of_ble_eq_true rfl) ?_
        generalize hQ29 : (fun (o : ab_O) => Ev _ _ _ _) = Q29
        refine (show Ev (ab_T L_X9_fail) 0 ([some (.ref 3), some (.int z28)], [], (0, 0), hp) Q29 from ?_)
        refine Ev.step (j := 1) (s' := ([some (.ref 3), some (.int z28)], [.ref 3], (0, 0), hp)) rfl rfl ?_
        refine Ev.step (j := 2) (s' := ([some (.ref 3), some (.int z28)], [.int z28, .ref 3], (0, 0), hp)) rfl rfl ?_
        refine bs_putIv (W := [(9, 9, 9)]) (g := 9) rfl rfl H (bs_R.uq H (g := 9) rfl) (by decide) rfl rfl rfl rfl (Or.inl rfl) (by omega) (by omega) fun hp30 Hhp30 fhp30 rhp30 ehp30 qhp30 nhp30 => ?_
        have Fhp30 := sf_fr_tr F0 (sf_fr_wider (W := [(7, 8, 8), (9, 4, 9), (116, 0, 0)]) rfl fhp30)
        have h31 : sf_rd hp30 a0 8 = some z1.toInt := (ehp30 _ _ (Or.inl (bs_nq (ra0.fr F0) (bs_R.uq H (g := 9) rfl) (by decide)))).trans hz1
        refine bs_lit (k := 0) rfl rfl fun z32 hz32 => ?_
        exact by
         refine bs_zret rfl rfl (by omega) (by omega) ?_
         rw [← hQ29]
         refine (show Ev _ 14 ([some (.ref a0), some (.ref 3)], [.int z32], (0, 0), hp30) _ from ?_)
         exact bs_zret rfl rfl (by omega) (by omega) (by rw [hQ]; exact ⟨t, Hhp30, Fhp30, bs_an0, sf_S_cons (sf_s1 (x := z32.toInt) rfl (by omega) (by omega)) (sf_S_nil), (fun a s B n lim m j ha hS hC hj hpl h9 => by
                 cases ha
                 have GE : z1.toInt = s.h 0 := Option.some.inj (hz1.symm.trans hS.goods)
                 rw [show lnGood (tok B n lim) s j = _ from if_pos (by omega)]
                 exact LRES_bad ⟨z32, rfl, by omega⟩ (rhp30.trans (congrArg some (by omega))) (((ehp30 _ _ (Or.inr (by omega)))).trans hpl))⟩)
def kq_X7_readMan_v : sf_Q := ([(1, 7, 0), (1, 9, 0)], [], some (0, 0, 0), [(1, 0, 0, 0, 1, 0)], [(7, 9, 9), (9, 4, 9), (117, 0, 0), (118, 0, 7)])
def ke_X7_readMan_v : List Value → ab_H → Option Value → ab_H → Prop := fun as hp r hp' => ∀ (a : Nat) (s : PS) (B : Nat → Int) (n lim m j : Nat), as = [.ref a, .ref 3] → SC hp a s → CK hp B n lim m (j + 1) → j + 1 < m → sf_rd hp 3 6 = some (tok B n lim j).pl → sf_rd hp 3 9 = some 0 → LRES hp' a B n lim m r (lnMan (tok B n lim) s j)
set_option maxRecDepth 100000 in
set_option maxHeartbeats 4000000 in
theorem ce_X7_readMan_v : sf_cE kq_X7_readMan_v Z_X7_readMan ke_X7_readMan_v := by
  intro t hp as H hl hj hpre
  match as, hl with
  | [v0, v1], _ =>
    obtain ⟨a0, rfl, ra0⟩ := bs_aR (hj 0 _ rfl)
    obtain ⟨a1, rfl, ra1⟩ := bs_aR (hj 1 _ rfl)
    obtain rfl := ra1.eq H (p := 3) rfl
    clear hpre hj
    have F0 : sf_fr [(7, 9, 9), (9, 4, 9), (117, 0, 0), (118, 0, 7)] t hp t hp := sf_fr_rf
    refine bs_finx (E := ke_X7_readMan_v) (K := kq_X7_readMan_v) (L := (L_X7_readMan Z_X9_fail Z_X7_takeNewName Z_X9_takeNumber)) (nL := 4) (Nat.le_of_ble_eq_true rfl) ?_
    obtain ⟨Q, hQ⟩ : ∃ Q : ab_O → Prop, Q = (fun o => ∃ t', sf_h t' o.2 ∧ sf_fr (kq_X7_readMan_v).2.2.2.2 t hp t' o.2 ∧ sf_an t' o.2.1 (kq_X7_readMan_v).2.2.1 o.1 ∧ sf_S (sf_v1 o.1 [.ref a0, .ref 3] o.2) (kq_X7_readMan_v).2.2.2.1 ∧ ke_X7_readMan_v [.ref a0, .ref 3] hp o.1 o.2) := ⟨_, rfl⟩
    rw [← hQ]
    refine (show Ev (ab_T (L_X7_readMan Z_X9_fail Z_X7_takeNewName Z_X9_takeNumber)) 0 ([some (.ref a0), some (.ref 3), none, none], [], (0, 0), hp) Q from ?_)
    refine Ev.step (j := 1) (s' := ([some (.ref a0), some (.ref 3), none, none], [.ref a0], (0, 0), hp)) rfl rfl ?_
    exact by
     refine bs_getI 7 rfl rfl rfl H (ra0.fr F0) (by decide) rfl fun z1 hz1 lz1 gz1 => ?_
     refine bs_lit (k := 8) rfl rfl fun z2 hz2 => ?_
     refine bs_lt rfl (fun c3 => ?_) (fun c3 => ?_)
     · skip
       refine Ev.step (j := 16) (s' := ([some (.ref a0), some (.ref 3), none, none], [.ref a0], (0, 0), hp)) rfl rfl ?_
       refine Ev.step (j := 17) (s' := ([some (.ref a0), some (.ref 3), none, none], [.ref 3, .ref a0], (0, 0), hp)) rfl rfl ?_
       refine bs_callx (K := kq_X7_takeNewName_v) [.ref a0, .ref 3] [] rfl ce_X7_takeNewName_v H rfl rfl rfl (bs_rcv (g := 7) H (ra0.fr F0) (by decide) rfl) rfl ?_ (sf_S_nil) fun r4 hp5 thp5 Hhp5 fhp5 ahp5 php5 xhp5 => ?_
       · intro q k h
         match q, h with
         | 0, h => cases h; exact bs_jR (ra0.fr F0)
         | 1, h => cases h; exact bs_jR (bs_R.uq H (g := 9) rfl)
         | q + 2, h => cases h
       obtain ⟨z6, rfl⟩ := bs_anI ahp5
       have rgz6 := n_range z6
       have Fhp5 := sf_fr_tr F0 (sf_fr_wider (W := [(7, 9, 9), (9, 4, 9), (117, 0, 0), (118, 0, 7)]) rfl fhp5)
       have h7 : sf_rd hp5 a0 9 = some z1.toInt := (fhp5.2.2.1 _ (ra0.fr F0).1 _ (by rw [(ra0.fr F0).2]; rfl)).trans hz1
       obtain ⟨uz6, vz6⟩ := bs_s1 (x := z6.toInt) rfl (php5 _ (List.mem_of_getElem? (i := 0) rfl))
       refine (show Ev _ 20 ([some (.ref a0), some (.ref 3), none, none], [.int z6], (0, 0), hp5) _ from ?_)
       exact by
        refine bs_ifne rfl (fun c8 => ?_) (fun c8 => ?_)
        · skip
          refine Ev.step (j := 26) (s' := ([some (.ref a0), some (.ref 3), none, none], [.ref 3], (0, 0), hp5)) rfl rfl ?_
          refine bs_getLv (g := 9) rfl rfl Hhp5 (bs_R.uq Hhp5 (g := 9) rfl) (by decide) rfl fun w9 hw9 => ?_
          refine Ev.step (j := 30) (s' := ([some (.ref a0), some (.ref 3), some (.long w9), none], [], (0, 0), hp5)) rfl rfl ?_
          refine Ev.step (j := 31) (s' := ([some (.ref a0), some (.ref 3), some (.long w9), none], [.ref 3], (0, 0), hp5)) rfl rfl ?_
          refine bs_lit (k := 0) rfl rfl fun z10 hz10 => ?_
          refine bs_lit (k := 1) rfl rfl fun z11 hz11 => ?_
          refine bs_callx (K := kq_X9_takeNumber_v) [.ref 3, .int z10, .int z11] [] rfl ce_X9_takeNumber_v Hhp5 rfl rfl rfl (bs_rcv (g := 9) Hhp5 (bs_R.uq Hhp5 (g := 9) rfl) (by decide) rfl) rfl ?_ (sf_S_nil) fun r12 hp13 thp13 Hhp13 fhp13 ahp13 php13 xhp13 => ?_
          · intro q k h
            match q, h with
            | 0, h => cases h; exact bs_jR (bs_R.uq Hhp5 (g := 9) rfl)
            | 1, h => cases h; exact sf_j0
            | 2, h => cases h; exact sf_j0
            | q + 3, h => cases h
          obtain ⟨z14, rfl⟩ := bs_anI ahp13
          have rgz14 := n_range z14
          have Fhp13 := sf_fr_tr Fhp5 (sf_fr_wider (W := [(7, 9, 9), (9, 4, 9), (117, 0, 0), (118, 0, 7)]) rfl fhp13)
          have h15 : sf_rd hp13 a0 9 = some z1.toInt := (fhp13.2.2.1 _ (ra0.fr Fhp5).1 _ (by rw [(ra0.fr Fhp5).2]; rfl)).trans h7
          obtain ⟨uz14, vz14⟩ := bs_s1 (x := z14.toInt) rfl (php13 _ (List.mem_of_getElem? (i := 0) rfl))
          refine (show Ev _ 36 ([some (.ref a0), some (.ref 3), some (.long w9), none], [.int z14], (0, 0), hp13) _ from ?_)
          exact by
           refine bs_ifne rfl (fun c16 => ?_) (fun c16 => ?_)
           · skip
             refine Ev.step (j := 42) (s' := ([some (.ref a0), some (.ref 3), some (.long w9), none], [.ref a0], (0, 0), hp13)) rfl rfl ?_
             refine bs_getR (g := 7) (g1 := 117) rfl rfl Hhp13 (ra0.fr Fhp13) (by decide) rfl fun b17 qb17 rb17 => ?_
             refine Ev.step (j := 46) (s' := ([some (.ref a0), some (.ref 3), some (.long w9), none], [.ref a0, .ref b17], (0, 0), hp13)) rfl rfl ?_
             refine bs_getI 7 rfl rfl rfl Hhp13 (ra0.fr Fhp13) (by decide) rfl fun z18 hz18 lz18 gz18 => ?_
             have e19 : z18.toInt = z1.toInt := Option.some.inj (hz18.symm.trans h15)
             refine Ev.step (j := 50) (s' := ([some (.ref a0), some (.ref 3), some (.long w9), none], [.long w9, .int z18, .ref b17], (0, 0), hp13)) rfl rfl ?_
             refine bs_lastv (W := [(117, 0, 0)]) (g := 117) rfl Hhp13 rb17 (by decide) rfl rfl (by omega) (by show _ < ((8 : Nat) : Int); omega) fun hp20 Hhp20 fhp20 mhp20 lhp20 ehp20 qhp20 => ?_
             have Fhp20 := sf_fr_tr Fhp13 (sf_fr_wider (W := [(7, 9, 9), (9, 4, 9), (117, 0, 0), (118, 0, 7)]) rfl fhp20)
             have h21 : sf_rd hp20 a0 9 = some z1.toInt := (ehp20 _ _).trans h15
             have r22 := rb17.fr fhp20
             refine Ev.step (j := 52) (s' := ([some (.ref a0), some (.ref 3), some (.long w9), none], [.ref a0], (0, 0), hp20)) rfl rfl ?_
             exact by
              refine bs_getR (g := 7) (g1 := 118) rfl rfl Hhp20 (ra0.fr Fhp20) (by decide) rfl fun b23 qb23 rb23 => ?_
              refine Ev.step (j := 56) (s' := ([some (.ref a0), some (.ref 3), some (.long w9), none], [.ref a0, .ref b23], (0, 0), hp20)) rfl rfl ?_
              refine bs_getI 7 rfl rfl rfl Hhp20 (ra0.fr Fhp20) (by decide) rfl fun z24 hz24 lz24 gz24 => ?_
              have e25 : z24.toInt = z1.toInt := Option.some.inj (hz24.symm.trans h21)
              refine Ev.step (j := 60) (s' := ([some (.ref a0), some (.ref 3), some (.long w9), none], [.ref 3, .int z24, .ref b23], (0, 0), hp20)) rfl rfl ?_
              refine bs_getI 9 rfl rfl rfl Hhp20 (bs_R.uq Hhp20 (g := 9) rfl) (by decide) rfl fun z26 hz26 lz26 gz26 => ?_
              refine bs_stv (W := [(118, 0, 7)]) (g := 118) 0 7 (-2147483648, 2147483647) rfl Hhp20 rb23 (by decide) rfl rfl (by decide) rfl rfl (by omega) (by omega) (by dsimp only; omega) (by dsimp only; omega) fun hp27 Hhp27 fhp27 rhp27 ehp27 qhp27 nhp27 => ?_
              have Fhp27 := sf_fr_tr Fhp20 (sf_fr_wider (W := [(7, 9, 9), (9, 4, 9), (117, 0, 0), (118, 0, 7)]) rfl fhp27)
              have h28 : sf_rd hp27 a0 9 = some z1.toInt := (ehp27 _ _ (Or.inl (bs_nq (ra0.fr Fhp20) rb23 (by decide)))).trans h21
              have h29 : sf_rd hp27 3 7 = some z26.toInt := (ehp27 _ _ (Or.inl (bs_nq (bs_R.uq Hhp20 (g := 9) rfl) rb23 (by decide)))).trans hz26
              have h30 : sf_rl hp27 b17 z18.toInt.toNat = some w9 := (nhp27 _ _).trans mhp20
              have r31 := r22.fr fhp27
              have r32 := rb23.fr fhp27
              refine Ev.step (j := 65) (s' := ([some (.ref a0), some (.ref 3), some (.long w9), none], [.ref a0], (0, 0), hp27)) rfl rfl ?_
              exact by
               refine Ev.step (j := 66) (s' := ([some (.ref a0), some (.ref 3), some (.long w9), none], [.ref a0, .ref a0], (0, 0), hp27)) rfl rfl ?_
               refine bs_getI 7 rfl rfl rfl Hhp27 (ra0.fr Fhp27) (by decide) rfl fun z33 hz33 lz33 gz33 => ?_
               have e34 : z33.toInt = z1.toInt := Option.some.inj (hz33.symm.trans h28)
               refine bs_lit (k := 1) rfl rfl fun z35 hz35 => ?_
               first | (refine bs_add rfl (by omega) (by omega) fun z36 hz36 => ?_) | (refine bs_any rfl fun z36 => ?_)
               have rz36 := n_range z36
               refine bs_putIv (W := [(7, 9, 9)]) (g := 7) rfl rfl Hhp27 (ra0.fr Fhp27) (by decide) rfl rfl rfl rfl (Or.inl rfl) (by omega) (by omega) fun hp37 Hhp37 fhp37 rhp37 ehp37 qhp37 nhp37 => ?_
               have Fhp37 := sf_fr_tr Fhp27 (sf_fr_wider (W := [(7, 9, 9), (9, 4, 9), (117, 0, 0), (118, 0, 7)]) rfl fhp37)
               have h38 : sf_rd hp37 3 7 = some z26.toInt := (ehp37 _ _ (Or.inl (bs_nq (bs_R.uq Hhp27 (g := 9) rfl) (ra0.fr Fhp27) (by decide)))).trans h29
               have h39 : sf_rd hp37 b23 z24.toInt.toNat = some z26.toInt := (ehp37 _ _ (Or.inl (bs_nq r32 (ra0.fr Fhp27) (by decide)))).trans rhp27
               have h40 : sf_rl hp37 b17 z18.toInt.toNat = some w9 := (nhp37 _ _).trans h30
               have r41 := r31.fr fhp37
               have r42 := r32.fr fhp37
               refine bs_lit (k := 1) rfl rfl fun z43 hz43 => ?_
               exact bs_zret rfl rfl (by omega) (by omega) (by rw [hQ]; exact ⟨thp13, Hhp37, Fhp37, bs_an0, sf_S_cons (sf_s1 (x := z43.toInt) rfl (by omega) (by omega)) (sf_S_nil), (fun a s B n lim m j ha hS hC hj hpl h9 => by
                       cases ha
                       have GE : z1.toInt = s.h 1 := Option.some.inj (hz1.symm.trans hS.men)
                       rw [show lnMan (tok B n lim) s j = _ from if_neg (by omega)]
                       obtain ⟨q1, rq1, X1⟩ := xhp5 _ s B n lim m (j + 1) rfl hS hC hj
                       obtain rfl := Value.int.inj (Option.some.inj rq1)
                       obtain ⟨Y0, Y1, Y2, Y3, Y4, Y5⟩ := X1.resolve_right (fun h => absurd h.1 (by omega))
                       rw [lnew_o Y1 Y2]
                       have J2 : j + 2 < m := CK_more Y4.1 hj (by omega) (by omega)
                       obtain ⟨q2, rq2, X2⟩ := (xhp13 _ _ rfl).2 B n lim m (j + 2) Y4 J2
                       obtain rfl := Value.int.inj (Option.some.inj rq2)
                       obtain ⟨Z0, Z1, Z2, Z3, Z4, Z5, Z6⟩ := X2.resolve_right (fun h => absurd h.1 (by omega))
                       rw [lnum_o Z1 (by omega) (by omega)]
                       have S1 := SC_fr H ra0 hS fhp5 rfl rfl
                       have S2 := SC_fr Hhp5 (ra0.fr fhp5) S1 fhp13 rfl rfl
                       have C1 := TKS_fr Hhp13 Z5.1 fhp20 rfl rfl rfl rfl
                       have C2 := TKS_fr Hhp20 C1 fhp27 rfl rfl rfl rfl
                       have C3 := TKS_fr Hhp27 C2 fhp37 rfl rfl rfl rfl
                       obtain ⟨wq9, W1, W2⟩ := Y3.2.2.2 Y1
                       have WE : w9 = wq9 := Option.some.inj (hw9.symm.trans W1)
                       have LW9 := (tok_wok B n lim (j + 1) (Or.inl Y1)).1
                       have VV : z26.toInt = (tok B n lim (j + 2)).v := Option.some.inj (hz26.symm.trans (((ehp20 _ _)).trans (Z4.2.2.1 Z1)))
                       have EB1 := rrD_of qb17
                       have EB2 := rrD_of ((qhp20 _ _).symm.trans qb23)
                       have EI : (s.h 1).toNat = z18.toInt.toNat := by omega
                       have EJ : (s.h 1).toNat = z24.toInt.toNat := by omega
                       exact LRES_ok ⟨z43, rfl, by omega⟩ (SC_man (w := w9) Hhp13 ((ra0.fr fhp5).fr fhp13) S2 (by omega) (by rw [WE]; exact W2) LW9 (fun k => ((qhp37 _ _).trans ((qhp27 _ _).trans (qhp20 _ _)))) (by rw [EB1, EI]; exact (nhp37 _ _).trans ((nhp27 _ _).trans mhp20)) (fun b q h => (nhp37 _ _).trans ((nhp27 _ _).trans (lhp20 _ _ (by rw [EB1, EI] at h; exact h)))) (fun b q h g => (ehp37 _ _ h).trans ((ehp27 _ _ (by rw [EB2, EJ] at g; exact g)).trans (ehp20 _ _))) (rhp37.trans (congrArg some (by omega))) (by rw [EB2, EJ]; exact h39.trans (congrArg some VV))) ⟨C3, (((ehp37 _ _ (Or.inl (bs_nq (bs_R.uq Hhp27 (g := 9) rfl) (ra0.fr Fhp27) (by decide)))).trans ((ehp27 _ _ (Or.inl (bs_nq (bs_R.uq Hhp20 (g := 9) rfl) rb23 (by decide)))).trans (ehp20 _ _)))).trans Z5.2.1, Z5.2.2⟩ ((((ehp37 _ _ (Or.inl (bs_nq (bs_R.uq Hhp27 (g := 9) rfl) (ra0.fr Fhp27) (by decide)))).trans ((ehp27 _ _ (Or.inl (bs_nq (bs_R.uq Hhp20 (g := 9) rfl) rb23 (by decide)))).trans (ehp20 _ _)))).trans (Z6.trans (Y5.trans h9))) (CK_more Z5.1 J2 (by omega) (by omega)))⟩)
           · skip
             have c44 : z14.toInt = 0 := by omega
             refine bs_lit (k := 0) rfl rfl fun z45 hz45 => ?_
             exact bs_zret rfl rfl (by omega) (by omega) (by rw [hQ]; exact ⟨thp13, Hhp13, Fhp13, bs_an0, sf_S_cons (sf_s1 (x := z45.toInt) rfl (by omega) (by omega)) (sf_S_nil), (fun a s B n lim m j ha hS hC hj hpl h9 => by
                     cases ha
                     have GE : z1.toInt = s.h 1 := Option.some.inj (hz1.symm.trans hS.men)
                     rw [show lnMan (tok B n lim) s j = _ from if_neg (by omega)]
                     obtain ⟨q1, rq1, X1⟩ := xhp5 _ s B n lim m (j + 1) rfl hS hC hj
                     obtain rfl := Value.int.inj (Option.some.inj rq1)
                     obtain ⟨Y0, Y1, Y2, Y3, Y4, Y5⟩ := X1.resolve_right (fun h => absurd h.1 (by omega))
                     rw [lnew_o Y1 Y2]
                     have J2 : j + 2 < m := CK_more Y4.1 hj (by omega) (by omega)
                     obtain ⟨q2, rq2, X2⟩ := (xhp13 _ _ rfl).2 B n lim m (j + 2) Y4 J2
                     obtain rfl := Value.int.inj (Option.some.inj rq2)
                     rcases X2.resolve_left (fun h => absurd h.1 (by omega)) with ⟨_, P1, ⟨P2, P3⟩ | ⟨P2, P4, P3⟩⟩
                     · rw [lnum_1 P2]
                       exact LRES_bad ⟨z45, rfl, by omega⟩ (P3) (P1)
                     · rw [lnum_2 P2 (by omega)]
                       exact LRES_bad ⟨z45, rfl, by omega⟩ (P3) (P1))⟩)
        · skip
          have c46 : z6.toInt = 0 := by omega
          refine bs_lit (k := 0) rfl rfl fun z47 hz47 => ?_
          exact bs_zret rfl rfl (by omega) (by omega) (by rw [hQ]; exact ⟨thp5, Hhp5, Fhp5, bs_an0, sf_S_cons (sf_s1 (x := z47.toInt) rfl (by omega) (by omega)) (sf_S_nil), (fun a s B n lim m j ha hS hC hj hpl h9 => by
                  cases ha
                  have GE : z1.toInt = s.h 1 := Option.some.inj (hz1.symm.trans hS.men)
                  rw [show lnMan (tok B n lim) s j = _ from if_neg (by omega)]
                  obtain ⟨q1, rq1, X1⟩ := xhp5 _ s B n lim m (j + 1) rfl hS hC hj
                  obtain rfl := Value.int.inj (Option.some.inj rq1)
                  rcases X1.resolve_left (fun h => absurd h.1 (by omega)) with ⟨_, P1, ⟨P2, P3⟩ | ⟨P2, P4, P3⟩⟩
                  · rw [lnew_1 P2]
                    exact LRES_bad ⟨z47, rfl, by omega⟩ (P3) (P1)
                  · rw [lnew_3 P2 P4]
                    exact LRES_bad ⟨z47, rfl, by omega⟩ (P3) (P1))⟩)
     · skip
       refine Ev.step (j := 10) (s' := ([some (.ref a0), some (.ref 3), none, none], [.ref 3], (0, 0), hp)) rfl rfl ?_
       exact by
        refine bs_lit (k := 4) rfl rfl fun z48 hz48 => ?_
        refine Ev.inl (L := L_X9_fail) (nL := 2) rfl (bs_rcv (g := 9) H (bs_R.uq H (g := 9) rfl) (by decide) rfl) rfl (Nat.le_of_ble_eq_true rfl) ?_
        generalize hQ49 : (fun (o : ab_O) => Ev _ _ _ _) = Q49
        refine (show Ev (ab_T L_X9_fail) 0 ([some (.ref 3), some (.int z48)], [], (0, 0), hp) Q49 from ?_)
        refine Ev.step (j := 1) (s' := ([some (.ref 3), some (.int z48)], [.ref 3], (0, 0), hp)) rfl rfl ?_
        refine Ev.step (j := 2) (s' := ([some (.ref 3), some (.int z48)], [.int z48, .ref 3], (0, 0), hp)) rfl rfl ?_
        refine bs_putIv (W := [(9, 9, 9)]) (g := 9) rfl rfl H (bs_R.uq H (g := 9) rfl) (by decide) rfl rfl rfl rfl (Or.inl rfl) (by omega) (by omega) fun hp50 Hhp50 fhp50 rhp50 ehp50 qhp50 nhp50 => ?_
        have Fhp50 := sf_fr_tr F0 (sf_fr_wider (W := [(7, 9, 9), (9, 4, 9), (117, 0, 0), (118, 0, 7)]) rfl fhp50)
        have h51 : sf_rd hp50 a0 9 = some z1.toInt := (ehp50 _ _ (Or.inl (bs_nq (ra0.fr F0) (bs_R.uq H (g := 9) rfl) (by decide)))).trans hz1
        refine bs_lit (k := 0) rfl rfl fun z52 hz52 => ?_
        exact by
         refine bs_zret rfl rfl (by omega) (by omega) ?_
         rw [← hQ49]
         refine (show Ev _ 14 ([some (.ref a0), some (.ref 3), none, none], [.int z52], (0, 0), hp50) _ from ?_)
         exact bs_zret rfl rfl (by omega) (by omega) (by rw [hQ]; exact ⟨t, Hhp50, Fhp50, bs_an0, sf_S_cons (sf_s1 (x := z52.toInt) rfl (by omega) (by omega)) (sf_S_nil), (fun a s B n lim m j ha hS hC hj hpl h9 => by
                 cases ha
                 have GE : z1.toInt = s.h 1 := Option.some.inj (hz1.symm.trans hS.men)
                 rw [show lnMan (tok B n lim) s j = _ from if_pos (by omega)]
                 exact LRES_bad ⟨z52, rfl, by omega⟩ (rhp50.trans (congrArg some (by omega))) (((ehp50 _ _ (Or.inr (by omega)))).trans hpl))⟩)
def kq_X7_takeMan_v : sf_Q := ([(1, 7, 0), (1, 9, 0)], [], some (0, 0, 0), [(1, 0, 0, -1, 7, 0)], [(9, 4, 9)])
def ke_X7_takeMan_v : List Value → ab_H → Option Value → ab_H → Prop := fun as hp r hp' => ∀ (a : Nat) (s : PS) (B : Nat → Int) (n lim m i : Nat), as = [.ref a, .ref 3] → SC hp a s → CK hp B n lim m i → i < m → ∃ z : Int32, r = some (.int z) ∧ ((0 ≤ z.toInt ∧ z.toInt = fnd s.nm 6 (s.h 1) (tok B n lim i).v ∧ (tok B n lim i).k = 2 ∧ CK hp' B n lim m (i + 1) ∧ sf_rd hp' 3 9 = sf_rd hp 3 9 ∧ sf_rd hp' 3 6 = some (tok B n lim i).pl) ∨ (z.toInt = -1 ∧ sf_rd hp' 3 6 = some (tok B n lim i).pl ∧ (((tok B n lim i).k ≠ 2 ∧ sf_rd hp' 3 9 = some 1) ∨ ((tok B n lim i).k = 2 ∧ fnd s.nm 6 (s.h 1) (tok B n lim i).v < 0 ∧ sf_rd hp' 3 9 = some 3))))
set_option maxRecDepth 100000 in
set_option maxHeartbeats 4000000 in
theorem ce_X7_takeMan_v : sf_cE kq_X7_takeMan_v Z_X7_takeMan ke_X7_takeMan_v := by
  intro t hp as H hl hj hpre
  match as, hl with
  | [v0, v1], _ =>
    obtain ⟨a0, rfl, ra0⟩ := bs_aR (hj 0 _ rfl)
    obtain ⟨a1, rfl, ra1⟩ := bs_aR (hj 1 _ rfl)
    obtain rfl := ra1.eq H (p := 3) rfl
    clear hpre hj
    have F0 : sf_fr [(9, 4, 9)] t hp t hp := sf_fr_rf
    refine bs_finx (E := ke_X7_takeMan_v) (K := kq_X7_takeMan_v) (L := (L_X7_takeMan Z_X9_takeName Z_X7_manNamed Z_X9_fail)) (nL := 3) (Nat.le_of_ble_eq_true rfl) ?_
    obtain ⟨Q, hQ⟩ : ∃ Q : ab_O → Prop, Q = (fun o => ∃ t', sf_h t' o.2 ∧ sf_fr (kq_X7_takeMan_v).2.2.2.2 t hp t' o.2 ∧ sf_an t' o.2.1 (kq_X7_takeMan_v).2.2.1 o.1 ∧ sf_S (sf_v1 o.1 [.ref a0, .ref 3] o.2) (kq_X7_takeMan_v).2.2.2.1 ∧ ke_X7_takeMan_v [.ref a0, .ref 3] hp o.1 o.2) := ⟨_, rfl⟩
    rw [← hQ]
    refine (show Ev (ab_T (L_X7_takeMan Z_X9_takeName Z_X7_manNamed Z_X9_fail)) 0 ([some (.ref a0), some (.ref 3), none], [], (0, 0), hp) Q from ?_)
    refine Ev.step (j := 1) (s' := ([some (.ref a0), some (.ref 3), none], [.ref 3], (0, 0), hp)) rfl rfl ?_
    exact by
     refine bs_callx (K := kq_X9_takeName_v) [.ref 3] [] rfl ce_X9_takeName_v H rfl rfl rfl (bs_rcv (g := 9) H (bs_R.uq H (g := 9) rfl) (by decide) rfl) rfl ?_ (sf_S_nil) fun r1 hp2 thp2 Hhp2 fhp2 ahp2 php2 xhp2 => ?_
     · intro q k h
       match q, h with
       | 0, h => cases h; exact bs_jR (bs_R.uq H (g := 9) rfl)
       | q + 1, h => cases h
     obtain ⟨z3, rfl⟩ := bs_anI ahp2
     have rgz3 := n_range z3
     have Fhp2 := sf_fr_tr F0 (sf_fr_wider (W := [(9, 4, 9)]) rfl fhp2)
     obtain ⟨uz3, vz3⟩ := bs_s1 (x := z3.toInt) rfl (php2 _ (List.mem_of_getElem? (i := 0) rfl))
     refine (show Ev _ 4 ([some (.ref a0), some (.ref 3), none], [.int z3], (0, 0), hp2) _ from ?_)
     refine bs_ifne rfl (fun c4 => ?_) (fun c4 => ?_)
     · skip
       refine Ev.step (j := 10) (s' := ([some (.ref a0), some (.ref 3), none], [.ref a0], (0, 0), hp2)) rfl rfl ?_
       exact by
        refine Ev.step (j := 11) (s' := ([some (.ref a0), some (.ref 3), none], [.ref 3, .ref a0], (0, 0), hp2)) rfl rfl ?_
        refine bs_getLv (g := 9) rfl rfl Hhp2 (bs_R.uq Hhp2 (g := 9) rfl) (by decide) rfl fun w5 hw5 => ?_
        refine bs_callx (K := kq_X7_manNamed_v) [.ref a0, .long w5] [] rfl ce_X7_manNamed_v Hhp2 rfl rfl rfl (bs_rcv (g := 7) Hhp2 (ra0.fr Fhp2) (by decide) rfl) rfl ?_ (sf_S_nil) fun r6 hp7 thp7 Hhp7 fhp7 ahp7 php7 xhp7 => ?_
        · intro q k h
          match q, h with
          | 0, h => cases h; exact bs_jR (ra0.fr Fhp2)
          | 1, h => cases h; exact sf_j2
          | q + 2, h => cases h
        obtain ⟨z8, rfl⟩ := bs_anI ahp7
        have rgz8 := n_range z8
        have Fhp7 := sf_fr_tr Fhp2 (sf_fr_wider (W := [(9, 4, 9)]) rfl fhp7)
        have h9 : sf_rl hp7 3 8 = some w5 := (sf_rl_cell (fhp7.2.2.2.1 _ (bs_R.uq Hhp2 (g := 9) (p := 3) rfl).1 (by rw [(bs_R.uq Hhp2 (g := 9) (p := 3) rfl).2]; rfl))).trans hw5
        obtain ⟨uz8, vz8⟩ := bs_s1 (x := z8.toInt) rfl (php7 _ (List.mem_of_getElem? (i := 0) rfl))
        refine (show Ev _ 17 ([some (.ref a0), some (.ref 3), none], [.int z8], (0, 0), hp7) _ from ?_)
        exact by
         refine Ev.step (j := 18) (s' := ([some (.ref a0), some (.ref 3), some (.int z8)], [], (0, 0), hp7)) rfl rfl ?_
         refine Ev.step (j := 19) (s' := ([some (.ref a0), some (.ref 3), some (.int z8)], [.int z8], (0, 0), hp7)) rfl rfl ?_
         refine bs_lit (k := -1) rfl rfl fun z10 hz10 => ?_
         refine bs_ne rfl (fun c11 => ?_) (fun c11 => ?_)
         · skip
           refine Ev.step (j := 30) (s' := ([some (.ref a0), some (.ref 3), some (.int z8)], [.int z8], (0, 0), hp7)) rfl rfl ?_
           exact Ev.ret rfl rfl (by rw [hQ]; exact ⟨thp7, Hhp7, Fhp7, bs_an0, sf_S_cons (sf_s1 (x := z8.toInt) rfl (by omega) (by omega)) (sf_S_nil), (fun a s B n lim m i ha hS hC hi_ => by
                   cases ha
                   obtain ⟨q1, rq1, X1⟩ := xhp2 B n lim m i hC hi_
                   obtain rfl := Value.int.inj (Option.some.inj rq1)
                   obtain ⟨Y1, X2, X3, X4, X5⟩ := X1.resolve_right (fun h => absurd h.1 (by omega))
                   obtain ⟨wq9, W1, W2⟩ := X3.2.2.2 X2
                   have WE : w5 = wq9 := Option.some.inj (hw5.symm.trans W1)
                   have LW9 := (tok_wok B n lim i (Or.inl X2)).1
                   have S1 := SC_fr H ra0 hS fhp2 rfl rfl
                   obtain ⟨q2, rq2, G2⟩ := xhp7 _ _ s (tok B n lim i).v rfl S1 (by rw [WE]; exact W2) LW9
                   obtain rfl := Value.int.inj (Option.some.inj rq2)
                   have C1 := TKS_fr Hhp2 X4.1 fhp7 rfl rfl rfl rfl
                   exact ⟨z8, rfl, Or.inl ⟨by omega, G2, X2, ⟨C1, ((fhp7.2.2.1 _ (bs_R.uq Hhp2 (g := 9) (p := 3) rfl).1 _ (by rw [(bs_R.uq Hhp2 (g := 9) (p := 3) rfl).2]; rfl))).trans X4.2.1, X4.2.2⟩, ((fhp7.2.2.1 _ (bs_R.uq Hhp2 (g := 9) (p := 3) rfl).1 _ (by rw [(bs_R.uq Hhp2 (g := 9) (p := 3) rfl).2]; rfl))).trans X5, ((fhp7.2.2.1 _ (bs_R.uq Hhp2 (g := 9) (p := 3) rfl).1 _ (by rw [(bs_R.uq Hhp2 (g := 9) (p := 3) rfl).2]; rfl))).trans X3.2.1⟩⟩)⟩)
         · skip
           have c12 : z8.toInt = -1 := by omega
           refine Ev.step (j := 24) (s' := ([some (.ref a0), some (.ref 3), some (.int z8)], [.ref 3], (0, 0), hp7)) rfl rfl ?_
           exact by
            refine bs_lit (k := 3) rfl rfl fun z13 hz13 => ?_
            refine Ev.inl (L := L_X9_fail) (nL := 2) rfl (bs_rcv (g := 9) Hhp7 (bs_R.uq Hhp7 (g := 9) rfl) (by decide) rfl) rfl (Nat.le_of_ble_eq_true rfl) ?_
            generalize hQ14 : (fun (o : ab_O) => Ev _ _ _ _) = Q14
            refine (show Ev (ab_T L_X9_fail) 0 ([some (.ref 3), some (.int z13)], [], (0, 0), hp7) Q14 from ?_)
            refine Ev.step (j := 1) (s' := ([some (.ref 3), some (.int z13)], [.ref 3], (0, 0), hp7)) rfl rfl ?_
            refine Ev.step (j := 2) (s' := ([some (.ref 3), some (.int z13)], [.int z13, .ref 3], (0, 0), hp7)) rfl rfl ?_
            refine bs_putIv (W := [(9, 9, 9)]) (g := 9) rfl rfl Hhp7 (bs_R.uq Hhp7 (g := 9) rfl) (by decide) rfl rfl rfl rfl (Or.inl rfl) (by omega) (by omega) fun hp15 Hhp15 fhp15 rhp15 ehp15 qhp15 nhp15 => ?_
            have Fhp15 := sf_fr_tr Fhp7 (sf_fr_wider (W := [(9, 4, 9)]) rfl fhp15)
            have h16 : sf_rl hp15 3 8 = some w5 := (nhp15 _ _).trans h9
            refine bs_lit (k := 0) rfl rfl fun z17 hz17 => ?_
            exact by
             refine bs_zret rfl rfl (by omega) (by omega) ?_
             rw [← hQ14]
             refine (show Ev _ 28 ([some (.ref a0), some (.ref 3), some (.int z8)], [.int z17], (0, 0), hp15) _ from ?_)
             refine Ev.step (j := 29) (s' := ([some (.ref a0), some (.ref 3), some (.int z8)], [], (0, 0), hp15)) rfl rfl ?_
             refine Ev.step (j := 30) (s' := ([some (.ref a0), some (.ref 3), some (.int z8)], [.int z8], (0, 0), hp15)) rfl rfl ?_
             exact Ev.ret rfl rfl (by rw [hQ]; exact ⟨thp7, Hhp15, Fhp15, bs_an0, sf_S_cons (sf_s1 (x := z8.toInt) rfl (by omega) (by omega)) (sf_S_nil), (fun a s B n lim m i ha hS hC hi_ => by
                     cases ha
                     obtain ⟨q1, rq1, X1⟩ := xhp2 B n lim m i hC hi_
                     obtain rfl := Value.int.inj (Option.some.inj rq1)
                     obtain ⟨Y1, X2, X3, X4, X5⟩ := X1.resolve_right (fun h => absurd h.1 (by omega))
                     obtain ⟨wq9, W1, W2⟩ := X3.2.2.2 X2
                     have WE : w5 = wq9 := Option.some.inj (hw5.symm.trans W1)
                     have LW9 := (tok_wok B n lim i (Or.inl X2)).1
                     have S1 := SC_fr H ra0 hS fhp2 rfl rfl
                     obtain ⟨q2, rq2, G2⟩ := xhp7 _ _ s (tok B n lim i).v rfl S1 (by rw [WE]; exact W2) LW9
                     obtain rfl := Value.int.inj (Option.some.inj rq2)
                     exact ⟨z8, rfl, Or.inr ⟨by omega, (((ehp15 _ _ (Or.inr (by omega))).trans (fhp7.2.2.1 _ (bs_R.uq Hhp2 (g := 9) (p := 3) rfl).1 _ (by rw [(bs_R.uq Hhp2 (g := 9) (p := 3) rfl).2]; rfl)))).trans X3.2.1, Or.inr ⟨X2, by omega, rhp15.trans (congrArg some (by omega))⟩⟩⟩)⟩)
     · skip
       have c18 : z3.toInt = 0 := by omega
       refine bs_lit (k := -1) rfl rfl fun z19 hz19 => ?_
       exact Ev.ret rfl rfl (by rw [hQ]; exact ⟨thp2, Hhp2, Fhp2, bs_an0, sf_S_cons (sf_s1 (x := z19.toInt) rfl (by omega) (by omega)) (sf_S_nil), (fun a s B n lim m i ha hS hC hi_ => by
               cases ha
               obtain ⟨q1, rq1, X1⟩ := xhp2 B n lim m i hC hi_
               obtain rfl := Value.int.inj (Option.some.inj rq1)
               rcases X1 with X | ⟨_, X2, X3, X4⟩
               · exact absurd X.1 (by omega)
               · exact ⟨z19, rfl, Or.inr ⟨by omega, X2, Or.inl ⟨X3, X4⟩⟩⟩)⟩)
def kq_X7_isMissTold_v : sf_Q := ([(1, 7, 0), (0, 0, 0), (0, 0, 0)], [], some (0, 0, 0), [(1, 0, 0, 0, 1, 0)], [])
def ke_X7_isMissTold_v : List Value → ab_H → Option Value → ab_H → Prop := fun as hp r _ => ∀ (a : Nat) (m q : Int32) (s : PS), as = [.ref a, .int m, .int q] → SC hp a s → ∃ z : Int32, r = some (.int z) ∧ (z.toInt = 1 → mtold s.h m.toInt q.toInt (s.h 3).toNat = true) ∧ (mtold s.h m.toInt q.toInt (s.h 3).toNat = true → z.toInt = 1)
set_option maxRecDepth 100000 in
set_option maxHeartbeats 4000000 in
theorem ce_X7_isMissTold_v : sf_cE kq_X7_isMissTold_v Z_X7_isMissTold ke_X7_isMissTold_v := by
  intro t hp as H hl hj hpre
  match as, hl with
  | [v0, v1, v2], _ =>
    obtain ⟨a0, rfl, ra0⟩ := bs_aR (hj 0 _ rfl)
    obtain ⟨x1, rfl⟩ := bs_aI (hj 1 _ rfl)
    have rg1 := n_range x1
    obtain ⟨x2, rfl⟩ := bs_aI (hj 2 _ rfl)
    have rg2 := n_range x2
    clear hpre hj
    have F0 : sf_fr [] t hp t hp := sf_fr_rf
    refine bs_finx (E := ke_X7_isMissTold_v) (K := kq_X7_isMissTold_v) (L := L_X7_isMissTold) (nL := 4) (Nat.le_of_ble_eq_true rfl) ?_
    obtain ⟨Q, hQ⟩ : ∃ Q : ab_O → Prop, Q = (fun o => ∃ t', sf_h t' o.2 ∧ sf_fr (kq_X7_isMissTold_v).2.2.2.2 t hp t' o.2 ∧ sf_an t' o.2.1 (kq_X7_isMissTold_v).2.2.1 o.1 ∧ sf_S (sf_v1 o.1 [.ref a0, .int x1, .int x2] o.2) (kq_X7_isMissTold_v).2.2.2.1 ∧ ke_X7_isMissTold_v [.ref a0, .int x1, .int x2] hp o.1 o.2) := ⟨_, rfl⟩
    rw [← hQ]
    refine (show Ev (ab_T L_X7_isMissTold) 0 ([some (.ref a0), some (.int x1), some (.int x2), none], [], (0, 0), hp) Q from ?_)
    exact by
     refine bs_lit (k := 0) rfl rfl fun z1 hz1 => ?_
     refine Ev.step (j := 2) (s' := ([some (.ref a0), some (.int x1), some (.int x2), some (.int z1)], [], (0, 0), hp)) rfl rfl ?_
     refine bs_loop (ι := Int32) (fun k2 => ([some (.ref a0), some (.int x1), some (.int x2), some (.int k2)], [], (0, 0), hp)) (fun k2 => (0 ≤ k2.toInt ∧ k2.toInt ≤ 20) ∧ (∀ j : Nat, (j : Int) < k2.toInt → ¬ (sf_rd hp (rrD hp a0 4) j = some x1.toInt ∧ sf_rd hp (rrD hp a0 5) j = some x2.toInt))) (fun k2 => (20 - k2.toInt).toNat) ?_ z1 ⟨(by first | omega | assumption), (by first | exact INV | exact fun j h => absurd h (by omega))⟩
     rintro k2 ⟨i4, i5⟩ ih3
     refine (show Ev _ 2 ([some (.ref a0), some (.int x1), some (.int x2), some (.int k2)], [], (0, 0), hp) _ from ?_)
     refine Ev.step (j := 3) (s' := ([some (.ref a0), some (.int x1), some (.int x2), some (.int k2)], [.int k2], (0, 0), hp)) rfl rfl ?_
     refine Ev.step (j := 4) (s' := ([some (.ref a0), some (.int x1), some (.int x2), some (.int k2)], [.ref a0, .int k2], (0, 0), hp)) rfl rfl ?_
     refine bs_getI 7 rfl rfl rfl H (ra0.fr F0) (by decide) rfl fun z6 hz6 lz6 gz6 => ?_
     exact by
      refine bs_ge rfl (fun c7 => ?_) (fun c7 => ?_)
      · skip
        refine bs_lit (k := 0) rfl rfl fun z8 hz8 => ?_
        exact bs_zret rfl rfl (by omega) (by omega) (by rw [hQ]; exact ⟨t, H, F0, bs_an0, sf_S_cons (sf_s1 (x := z8.toInt) rfl (by omega) (by omega)) (sf_S_nil), (fun a m q s ha hS => by
                cases ha; have NN : z6.toInt = s.h 3 := Option.some.inj (hz6.symm.trans hS.miss)
                exact ⟨z8, rfl, fun e => absurd e (by omega), fun e => by obtain ⟨j, j1, j2, j3⟩ := (mtold_iff _).mp e; exact absurd ⟨(hS.m4 j (by omega)).trans (congrArg some j2), (hS.m5 j (by omega)).trans (congrArg some j3)⟩ (i5 j (by omega))⟩)⟩)
      · skip
        refine Ev.step (j := 11) (s' := ([some (.ref a0), some (.int x1), some (.int x2), some (.int k2)], [.ref a0], (0, 0), hp)) rfl rfl ?_
        refine bs_getR (g := 7) (g1 := 120) rfl rfl H (ra0.fr F0) (by decide) rfl fun b9 qb9 rb9 => ?_
        refine Ev.step (j := 15) (s' := ([some (.ref a0), some (.int x1), some (.int x2), some (.int k2)], [.int k2, .ref b9], (0, 0), hp)) rfl rfl ?_
        refine bs_ld (g := 120) 0 19 (0, 7) rfl H rb9 (by decide) rfl (by decide) (by decide) rfl (by decide) (by omega) (by omega) fun z10 hz10 lz10 gz10 => ?_
        dsimp only at lz10 gz10
        have V4 : sf_rd hp (rrD hp a0 4) k2.toInt.toNat = some z10.toInt := by rw [rrD_of qb9]; exact hz10
        refine Ev.step (j := 17) (s' := ([some (.ref a0), some (.int x1), some (.int x2), some (.int k2)], [.int x1, .int z10], (0, 0), hp)) rfl rfl ?_
        exact by
         refine bs_ne rfl (fun c11 => ?_) (fun c11 => ?_)
         · skip
           refine bs_iinc (1) rfl rfl rfl rfl (by omega) (by omega) fun z12 hz12 => ?_
           refine (show Ev _ 35 ([some (.ref a0), some (.int x1), some (.int x2), some (.int z12)], [], (0, 0), hp) _ from ?_)
           refine Ev.step (j := 2) (s' := ([some (.ref a0), some (.int x1), some (.int x2), some (.int z12)], [], (0, 0), hp)) rfl rfl ?_
           have INV : ∀ j : Nat, (j : Int) < z12.toInt → ¬ (sf_rd hp (rrD hp a0 4) j = some x1.toInt ∧ sf_rd hp (rrD hp a0 5) j = some x2.toInt) := by
             intro j hj
             rcases (show (j : Int) < k2.toInt ∨ j = k2.toInt.toNat by omega) with h | h
             · exact i5 j h
             · rw [h, V4]; intro e; have := Option.some.inj e.1; omega
           refine ih3 z12 ⟨(by first | omega | assumption), (by first | exact INV | exact fun j h => absurd h (by omega))⟩ ?_
           show (20 - z12.toInt).toNat < (20 - k2.toInt).toNat
           omega
         · skip
           refine Ev.step (j := 21) (s' := ([some (.ref a0), some (.int x1), some (.int x2), some (.int k2)], [.ref a0], (0, 0), hp)) rfl rfl ?_
           refine bs_getR (g := 7) (g1 := 121) rfl rfl H (ra0.fr F0) (by decide) rfl fun b13 qb13 rb13 => ?_
           exact by
            refine Ev.step (j := 25) (s' := ([some (.ref a0), some (.int x1), some (.int x2), some (.int k2)], [.int k2, .ref b13], (0, 0), hp)) rfl rfl ?_
            refine bs_ld (g := 121) 0 19 (0, 7) rfl H rb13 (by decide) rfl (by decide) (by decide) rfl (by decide) (by omega) (by omega) fun z14 hz14 lz14 gz14 => ?_
            dsimp only at lz14 gz14
            have V5 : sf_rd hp (rrD hp a0 5) k2.toInt.toNat = some z14.toInt := by rw [rrD_of qb13]; exact hz14
            refine Ev.step (j := 27) (s' := ([some (.ref a0), some (.int x1), some (.int x2), some (.int k2)], [.int x2, .int z14], (0, 0), hp)) rfl rfl ?_
            refine bs_ne rfl (fun c15 => ?_) (fun c15 => ?_)
            · skip
              refine bs_iinc (1) rfl rfl rfl rfl (by omega) (by omega) fun z16 hz16 => ?_
              refine (show Ev _ 35 ([some (.ref a0), some (.int x1), some (.int x2), some (.int z16)], [], (0, 0), hp) _ from ?_)
              refine Ev.step (j := 2) (s' := ([some (.ref a0), some (.int x1), some (.int x2), some (.int z16)], [], (0, 0), hp)) rfl rfl ?_
              have INV : ∀ j : Nat, (j : Int) < z16.toInt → ¬ (sf_rd hp (rrD hp a0 4) j = some x1.toInt ∧ sf_rd hp (rrD hp a0 5) j = some x2.toInt) := by
                intro j hj
                rcases (show (j : Int) < k2.toInt ∨ j = k2.toInt.toNat by omega) with h | h
                · exact i5 j h
                · rw [h, V5]; intro e; have := Option.some.inj e.2; omega
              refine ih3 z16 ⟨(by first | omega | assumption), (by first | exact INV | exact fun j h => absurd h (by omega))⟩ ?_
              show (20 - z16.toInt).toNat < (20 - k2.toInt).toNat
              omega
            · skip
              refine bs_lit (k := 1) rfl rfl fun z17 hz17 => ?_
              exact bs_zret rfl rfl (by omega) (by omega) (by rw [hQ]; exact ⟨t, H, F0, bs_an0, sf_S_cons (sf_s1 (x := z17.toInt) rfl (by omega) (by omega)) (sf_S_nil), (fun a m q s ha hS => by
                      cases ha; have NN : z6.toInt = s.h 3 := Option.some.inj (hz6.symm.trans hS.miss)
                      have G4 := Option.some.inj ((hS.m4 k2.toInt.toNat (by omega)).symm.trans V4)
                      have G5 := Option.some.inj ((hS.m5 k2.toInt.toNat (by omega)).symm.trans V5)
                      exact ⟨z17, rfl, fun _ => (mtold_iff _).mpr ⟨k2.toInt.toNat, by omega, by omega, by omega⟩, fun _ => by omega⟩)⟩)
def kq_X7_readMisses_v : sf_Q := ([(1, 7, 0), (1, 9, 0)], [], some (0, 0, 0), [(1, 0, 0, 0, 1, 0)], [(7, 10, 10), (9, 4, 9), (120, 0, 19), (121, 0, 19), (122, 0, 19)])
def ke_X7_readMisses_v : List Value → ab_H → Option Value → ab_H → Prop := fun as hp r hp' => ∀ (a : Nat) (s : PS) (B : Nat → Int) (n lim m j : Nat), as = [.ref a, .ref 3] → SC hp a s → CK hp B n lim m (j + 1) → j + 1 < m → sf_rd hp 3 6 = some (tok B n lim j).pl → sf_rd hp 3 9 = some 0 → LRES hp' a B n lim m r (lnMiss (tok B n lim) s j)
set_option maxRecDepth 100000 in
set_option maxHeartbeats 4000000 in
theorem ce_X7_readMisses_v : sf_cE kq_X7_readMisses_v Z_X7_readMisses ke_X7_readMisses_v := by
  intro t hp as H hl hj hpre
  match as, hl with
  | [v0, v1], _ =>
    obtain ⟨a0, rfl, ra0⟩ := bs_aR (hj 0 _ rfl)
    obtain ⟨a1, rfl, ra1⟩ := bs_aR (hj 1 _ rfl)
    obtain rfl := ra1.eq H (p := 3) rfl
    clear hpre hj
    have F0 : sf_fr [(7, 10, 10), (9, 4, 9), (120, 0, 19), (121, 0, 19), (122, 0, 19)] t hp t hp := sf_fr_rf
    refine bs_finx (E := ke_X7_readMisses_v) (K := kq_X7_readMisses_v) (L := (L_X7_readMisses Z_X9_fail Z_X7_takeMan Z_X7_isMissTold Z_X9_takeNumber)) (nL := 4) (Nat.le_of_ble_eq_true rfl) ?_
    obtain ⟨Q, hQ⟩ : ∃ Q : ab_O → Prop, Q = (fun o => ∃ t', sf_h t' o.2 ∧ sf_fr (kq_X7_readMisses_v).2.2.2.2 t hp t' o.2 ∧ sf_an t' o.2.1 (kq_X7_readMisses_v).2.2.1 o.1 ∧ sf_S (sf_v1 o.1 [.ref a0, .ref 3] o.2) (kq_X7_readMisses_v).2.2.2.1 ∧ ke_X7_readMisses_v [.ref a0, .ref 3] hp o.1 o.2) := ⟨_, rfl⟩
    rw [← hQ]
    refine (show Ev (ab_T (L_X7_readMisses Z_X9_fail Z_X7_takeMan Z_X7_isMissTold Z_X9_takeNumber)) 0 ([some (.ref a0), some (.ref 3), none, none], [], (0, 0), hp) Q from ?_)
    refine Ev.step (j := 1) (s' := ([some (.ref a0), some (.ref 3), none, none], [.ref a0], (0, 0), hp)) rfl rfl ?_
    exact by
     refine bs_getI 7 rfl rfl rfl H (ra0.fr F0) (by decide) rfl fun z1 hz1 lz1 gz1 => ?_
     refine bs_lit (k := 20) rfl rfl fun z2 hz2 => ?_
     refine bs_lt rfl (fun c3 => ?_) (fun c3 => ?_)
     · skip
       refine Ev.step (j := 16) (s' := ([some (.ref a0), some (.ref 3), none, none], [.ref a0], (0, 0), hp)) rfl rfl ?_
       refine Ev.step (j := 17) (s' := ([some (.ref a0), some (.ref 3), none, none], [.ref 3, .ref a0], (0, 0), hp)) rfl rfl ?_
       refine bs_callx (K := kq_X7_takeMan_v) [.ref a0, .ref 3] [] rfl ce_X7_takeMan_v H rfl rfl rfl (bs_rcv (g := 7) H (ra0.fr F0) (by decide) rfl) rfl ?_ (sf_S_nil) fun r4 hp5 thp5 Hhp5 fhp5 ahp5 php5 xhp5 => ?_
       · intro q k h
         match q, h with
         | 0, h => cases h; exact bs_jR (ra0.fr F0)
         | 1, h => cases h; exact bs_jR (bs_R.uq H (g := 9) rfl)
         | q + 2, h => cases h
       obtain ⟨z6, rfl⟩ := bs_anI ahp5
       have rgz6 := n_range z6
       have Fhp5 := sf_fr_tr F0 (sf_fr_wider (W := [(7, 10, 10), (9, 4, 9), (120, 0, 19), (121, 0, 19), (122, 0, 19)]) rfl fhp5)
       have h7 : sf_rd hp5 a0 10 = some z1.toInt := (fhp5.2.2.1 _ (ra0.fr F0).1 _ (by rw [(ra0.fr F0).2]; rfl)).trans hz1
       obtain ⟨uz6, vz6⟩ := bs_s1 (x := z6.toInt) rfl (php5 _ (List.mem_of_getElem? (i := 0) rfl))
       refine (show Ev _ 20 ([some (.ref a0), some (.ref 3), none, none], [.int z6], (0, 0), hp5) _ from ?_)
       exact by
        refine Ev.step (j := 21) (s' := ([some (.ref a0), some (.ref 3), some (.int z6), none], [], (0, 0), hp5)) rfl rfl ?_
        refine Ev.step (j := 22) (s' := ([some (.ref a0), some (.ref 3), some (.int z6), none], [.int z6], (0, 0), hp5)) rfl rfl ?_
        refine bs_lit (k := -1) rfl rfl fun z8 hz8 => ?_
        refine bs_ne rfl (fun c9 => ?_) (fun c9 => ?_)
        · skip
          refine Ev.step (j := 29) (s' := ([some (.ref a0), some (.ref 3), some (.int z6), none], [.ref a0], (0, 0), hp5)) rfl rfl ?_
          refine Ev.step (j := 30) (s' := ([some (.ref a0), some (.ref 3), some (.int z6), none], [.ref 3, .ref a0], (0, 0), hp5)) rfl rfl ?_
          refine bs_callx (K := kq_X7_takeMan_v) [.ref a0, .ref 3] [] rfl ce_X7_takeMan_v Hhp5 rfl rfl rfl (bs_rcv (g := 7) Hhp5 (ra0.fr Fhp5) (by decide) rfl) rfl ?_ (sf_S_nil) fun r10 hp11 thp11 Hhp11 fhp11 ahp11 php11 xhp11 => ?_
          · intro q k h
            match q, h with
            | 0, h => cases h; exact bs_jR (ra0.fr Fhp5)
            | 1, h => cases h; exact bs_jR (bs_R.uq Hhp5 (g := 9) rfl)
            | q + 2, h => cases h
          obtain ⟨z12, rfl⟩ := bs_anI ahp11
          have rgz12 := n_range z12
          have Fhp11 := sf_fr_tr Fhp5 (sf_fr_wider (W := [(7, 10, 10), (9, 4, 9), (120, 0, 19), (121, 0, 19), (122, 0, 19)]) rfl fhp11)
          have h13 : sf_rd hp11 a0 10 = some z1.toInt := (fhp11.2.2.1 _ (ra0.fr Fhp5).1 _ (by rw [(ra0.fr Fhp5).2]; rfl)).trans h7
          obtain ⟨uz12, vz12⟩ := bs_s1 (x := z12.toInt) rfl (php11 _ (List.mem_of_getElem? (i := 0) rfl))
          refine (show Ev _ 33 ([some (.ref a0), some (.ref 3), some (.int z6), none], [.int z12], (0, 0), hp11) _ from ?_)
          exact by
           refine Ev.step (j := 34) (s' := ([some (.ref a0), some (.ref 3), some (.int z6), some (.int z12)], [], (0, 0), hp11)) rfl rfl ?_
           refine Ev.step (j := 35) (s' := ([some (.ref a0), some (.ref 3), some (.int z6), some (.int z12)], [.int z12], (0, 0), hp11)) rfl rfl ?_
           refine bs_lit (k := -1) rfl rfl fun z14 hz14 => ?_
           refine bs_ne rfl (fun c15 => ?_) (fun c15 => ?_)
           · skip
             refine Ev.step (j := 42) (s' := ([some (.ref a0), some (.ref 3), some (.int z6), some (.int z12)], [.int z6], (0, 0), hp11)) rfl rfl ?_
             refine Ev.step (j := 43) (s' := ([some (.ref a0), some (.ref 3), some (.int z6), some (.int z12)], [.int z12, .int z6], (0, 0), hp11)) rfl rfl ?_
             refine bs_eq rfl (fun c16 => ?_) (fun c16 => ?_)
             · skip
               refine Ev.step (j := 56) (s' := ([some (.ref a0), some (.ref 3), some (.int z6), some (.int z12)], [.ref 3], (0, 0), hp11)) rfl rfl ?_
               exact by
                refine bs_lit (k := 3) rfl rfl fun z17 hz17 => ?_
                refine Ev.inl (L := L_X9_fail) (nL := 2) rfl (bs_rcv (g := 9) Hhp11 (bs_R.uq Hhp11 (g := 9) rfl) (by decide) rfl) rfl (Nat.le_of_ble_eq_true rfl) ?_
                generalize hQ18 : (fun (o : ab_O) => Ev _ _ _ _) = Q18
                refine (show Ev (ab_T L_X9_fail) 0 ([some (.ref 3), some (.int z17)], [], (0, 0), hp11) Q18 from ?_)
                refine Ev.step (j := 1) (s' := ([some (.ref 3), some (.int z17)], [.ref 3], (0, 0), hp11)) rfl rfl ?_
                refine Ev.step (j := 2) (s' := ([some (.ref 3), some (.int z17)], [.int z17, .ref 3], (0, 0), hp11)) rfl rfl ?_
                refine bs_putIv (W := [(9, 9, 9)]) (g := 9) rfl rfl Hhp11 (bs_R.uq Hhp11 (g := 9) rfl) (by decide) rfl rfl rfl rfl (Or.inl rfl) (by omega) (by omega) fun hp19 Hhp19 fhp19 rhp19 ehp19 qhp19 nhp19 => ?_
                have Fhp19 := sf_fr_tr Fhp11 (sf_fr_wider (W := [(7, 10, 10), (9, 4, 9), (120, 0, 19), (121, 0, 19), (122, 0, 19)]) rfl fhp19)
                have h20 : sf_rd hp19 a0 10 = some z1.toInt := (ehp19 _ _ (Or.inl (bs_nq (ra0.fr Fhp11) (bs_R.uq Hhp11 (g := 9) rfl) (by decide)))).trans h13
                refine bs_lit (k := 0) rfl rfl fun z21 hz21 => ?_
                exact by
                 refine bs_zret rfl rfl (by omega) (by omega) ?_
                 rw [← hQ18]
                 refine (show Ev _ 60 ([some (.ref a0), some (.ref 3), some (.int z6), some (.int z12)], [.int z21], (0, 0), hp19) _ from ?_)
                 exact bs_zret rfl rfl (by omega) (by omega) (by rw [hQ]; exact ⟨thp11, Hhp19, Fhp19, bs_an0, sf_S_cons (sf_s1 (x := z21.toInt) rfl (by omega) (by omega)) (sf_S_nil), (fun a s B n lim m j ha hS hC hj hpl h9 => by
                         cases ha
                         have GE : z1.toInt = s.h 3 := Option.some.inj (hz1.symm.trans hS.miss)
                         rw [show lnMiss (tok B n lim) s j = _ from if_neg (by omega)]
                         obtain ⟨q1, rq1, X1⟩ := xhp5 _ s B n lim m (j + 1) rfl hS hC hj
                         obtain rfl := Value.int.inj (Option.some.inj rq1)
                         obtain ⟨Y0, Y1, Y2, Y3, Y4, Y5⟩ := X1.resolve_right (fun h => absurd h.1 (by omega))
                         rw [lold_o Y2 (by omega)]
                         have S1 := SC_fr H ra0 hS fhp5 rfl rfl
                         have J2 : j + 2 < m := CK_more Y3.1 hj (by omega) (by omega)
                         obtain ⟨q2, rq2, X2⟩ := xhp11 _ s B n lim m (j + 2) rfl S1 Y3 J2
                         obtain rfl := Value.int.inj (Option.some.inj rq2)
                         obtain ⟨Z0, Z1, Z2, Z3, Z4, Z5⟩ := X2.resolve_right (fun h => absurd h.1 (by omega))
                         rw [lold_o Z2 (by omega)]
                         have S2 := SC_fr Hhp5 (ra0.fr fhp5) S1 fhp11 rfl rfl
                         rw [if_pos (Or.inl (by omega))]
                         exact LRES_bad ⟨z21, rfl, by omega⟩ (rhp19.trans (congrArg some (by omega))) (((ehp19 _ _ (Or.inr (by omega)))).trans Z5))⟩)
             · skip
               refine Ev.step (j := 47) (s' := ([some (.ref a0), some (.ref 3), some (.int z6), some (.int z12)], [.ref a0], (0, 0), hp11)) rfl rfl ?_
               exact by
                refine Ev.step (j := 48) (s' := ([some (.ref a0), some (.ref 3), some (.int z6), some (.int z12)], [.int z6, .ref a0], (0, 0), hp11)) rfl rfl ?_
                refine Ev.step (j := 49) (s' := ([some (.ref a0), some (.ref 3), some (.int z6), some (.int z12)], [.int z12, .int z6, .ref a0], (0, 0), hp11)) rfl rfl ?_
                refine bs_callx (K := kq_X7_isMissTold_v) [.ref a0, .int z6, .int z12] [] rfl ce_X7_isMissTold_v Hhp11 rfl rfl rfl (bs_rcv (g := 7) Hhp11 (ra0.fr Fhp11) (by decide) rfl) rfl ?_ (sf_S_nil) fun r22 hp23 thp23 Hhp23 fhp23 ahp23 php23 xhp23 => ?_
                · intro q k h
                  match q, h with
                  | 0, h => cases h; exact bs_jR (ra0.fr Fhp11)
                  | 1, h => cases h; exact sf_j0
                  | 2, h => cases h; exact sf_j0
                  | q + 3, h => cases h
                obtain ⟨z24, rfl⟩ := bs_anI ahp23
                have rgz24 := n_range z24
                have Fhp23 := sf_fr_tr Fhp11 (sf_fr_wider (W := [(7, 10, 10), (9, 4, 9), (120, 0, 19), (121, 0, 19), (122, 0, 19)]) rfl fhp23)
                have h25 : sf_rd hp23 a0 10 = some z1.toInt := (fhp23.2.2.1 _ (ra0.fr Fhp11).1 _ (by rw [(ra0.fr Fhp11).2]; rfl)).trans h13
                obtain ⟨uz24, vz24⟩ := bs_s1 (x := z24.toInt) rfl (php23 _ (List.mem_of_getElem? (i := 0) rfl))
                refine (show Ev _ 52 ([some (.ref a0), some (.ref 3), some (.int z6), some (.int z12)], [.int z24], (0, 0), hp23) _ from ?_)
                exact by
                 refine bs_ifeq rfl (fun c26 => ?_) (fun c26 => ?_)
                 · skip
                   have c27 : z24.toInt = 0 := by omega
                   refine Ev.step (j := 62) (s' := ([some (.ref a0), some (.ref 3), some (.int z6), some (.int z12)], [.ref 3], (0, 0), hp23)) rfl rfl ?_
                   refine bs_lit (k := 0) rfl rfl fun z28 hz28 => ?_
                   refine bs_lit (k := 60) rfl rfl fun z29 hz29 => ?_
                   refine bs_callx (K := kq_X9_takeNumber_v) [.ref 3, .int z28, .int z29] [] rfl ce_X9_takeNumber_v Hhp23 rfl rfl rfl (bs_rcv (g := 9) Hhp23 (bs_R.uq Hhp23 (g := 9) rfl) (by decide) rfl) rfl ?_ (sf_S_nil) fun r30 hp31 thp31 Hhp31 fhp31 ahp31 php31 xhp31 => ?_
                   · intro q k h
                     match q, h with
                     | 0, h => cases h; exact bs_jR (bs_R.uq Hhp23 (g := 9) rfl)
                     | 1, h => cases h; exact sf_j0
                     | 2, h => cases h; exact sf_j0
                     | q + 3, h => cases h
                   obtain ⟨z32, rfl⟩ := bs_anI ahp31
                   have rgz32 := n_range z32
                   have Fhp31 := sf_fr_tr Fhp23 (sf_fr_wider (W := [(7, 10, 10), (9, 4, 9), (120, 0, 19), (121, 0, 19), (122, 0, 19)]) rfl fhp31)
                   have h33 : sf_rd hp31 a0 10 = some z1.toInt := (fhp31.2.2.1 _ (ra0.fr Fhp23).1 _ (by rw [(ra0.fr Fhp23).2]; rfl)).trans h25
                   obtain ⟨uz32, vz32⟩ := bs_s1 (x := z32.toInt) rfl (php31 _ (List.mem_of_getElem? (i := 0) rfl))
                   refine (show Ev _ 68 ([some (.ref a0), some (.ref 3), some (.int z6), some (.int z12)], [.int z32], (0, 0), hp31) _ from ?_)
                   exact by
                    refine bs_ifne rfl (fun c34 => ?_) (fun c34 => ?_)
                    · skip
                      refine Ev.step (j := 74) (s' := ([some (.ref a0), some (.ref 3), some (.int z6), some (.int z12)], [.ref a0], (0, 0), hp31)) rfl rfl ?_
                      refine bs_getR (g := 7) (g1 := 120) rfl rfl Hhp31 (ra0.fr Fhp31) (by decide) rfl fun b35 qb35 rb35 => ?_
                      refine Ev.step (j := 78) (s' := ([some (.ref a0), some (.ref 3), some (.int z6), some (.int z12)], [.ref a0, .ref b35], (0, 0), hp31)) rfl rfl ?_
                      refine bs_getI 7 rfl rfl rfl Hhp31 (ra0.fr Fhp31) (by decide) rfl fun z36 hz36 lz36 gz36 => ?_
                      have e37 : z36.toInt = z1.toInt := Option.some.inj (hz36.symm.trans h33)
                      refine Ev.step (j := 82) (s' := ([some (.ref a0), some (.ref 3), some (.int z6), some (.int z12)], [.int z6, .int z36, .ref b35], (0, 0), hp31)) rfl rfl ?_
                      refine bs_stv (W := [(120, 0, 19)]) (g := 120) 0 19 (0, 7) rfl Hhp31 rb35 (by decide) rfl rfl (by decide) rfl rfl (by omega) (by omega) (by dsimp only; omega) (by dsimp only; omega) fun hp38 Hhp38 fhp38 rhp38 ehp38 qhp38 nhp38 => ?_
                      have Fhp38 := sf_fr_tr Fhp31 (sf_fr_wider (W := [(7, 10, 10), (9, 4, 9), (120, 0, 19), (121, 0, 19), (122, 0, 19)]) rfl fhp38)
                      have h39 : sf_rd hp38 a0 10 = some z1.toInt := (ehp38 _ _ (Or.inl (bs_nq (ra0.fr Fhp31) rb35 (by decide)))).trans h33
                      have r40 := rb35.fr fhp38
                      refine Ev.step (j := 84) (s' := ([some (.ref a0), some (.ref 3), some (.int z6), some (.int z12)], [.ref a0], (0, 0), hp38)) rfl rfl ?_
                      exact by
                       refine bs_getR (g := 7) (g1 := 121) rfl rfl Hhp38 (ra0.fr Fhp38) (by decide) rfl fun b41 qb41 rb41 => ?_
                       refine Ev.step (j := 88) (s' := ([some (.ref a0), some (.ref 3), some (.int z6), some (.int z12)], [.ref a0, .ref b41], (0, 0), hp38)) rfl rfl ?_
                       refine bs_getI 7 rfl rfl rfl Hhp38 (ra0.fr Fhp38) (by decide) rfl fun z42 hz42 lz42 gz42 => ?_
                       have e43 : z42.toInt = z1.toInt := Option.some.inj (hz42.symm.trans h39)
                       refine Ev.step (j := 92) (s' := ([some (.ref a0), some (.ref 3), some (.int z6), some (.int z12)], [.int z12, .int z42, .ref b41], (0, 0), hp38)) rfl rfl ?_
                       refine bs_stv (W := [(121, 0, 19)]) (g := 121) 0 19 (0, 7) rfl Hhp38 rb41 (by decide) rfl rfl (by decide) rfl rfl (by omega) (by omega) (by dsimp only; omega) (by dsimp only; omega) fun hp44 Hhp44 fhp44 rhp44 ehp44 qhp44 nhp44 => ?_
                       have Fhp44 := sf_fr_tr Fhp38 (sf_fr_wider (W := [(7, 10, 10), (9, 4, 9), (120, 0, 19), (121, 0, 19), (122, 0, 19)]) rfl fhp44)
                       have h45 : sf_rd hp44 a0 10 = some z1.toInt := (ehp44 _ _ (Or.inl (bs_nq (ra0.fr Fhp38) rb41 (by decide)))).trans h39
                       have h46 : sf_rd hp44 b35 z36.toInt.toNat = some z6.toInt := (ehp44 _ _ (Or.inl (bs_nq r40 rb41 (by decide)))).trans rhp38
                       have r47 := r40.fr fhp44
                       have r48 := rb41.fr fhp44
                       refine Ev.step (j := 94) (s' := ([some (.ref a0), some (.ref 3), some (.int z6), some (.int z12)], [.ref a0], (0, 0), hp44)) rfl rfl ?_
                       exact by
                        refine bs_getR (g := 7) (g1 := 122) rfl rfl Hhp44 (ra0.fr Fhp44) (by decide) rfl fun b49 qb49 rb49 => ?_
                        refine Ev.step (j := 98) (s' := ([some (.ref a0), some (.ref 3), some (.int z6), some (.int z12)], [.ref a0, .ref b49], (0, 0), hp44)) rfl rfl ?_
                        refine bs_getI 7 rfl rfl rfl Hhp44 (ra0.fr Fhp44) (by decide) rfl fun z50 hz50 lz50 gz50 => ?_
                        have e51 : z50.toInt = z1.toInt := Option.some.inj (hz50.symm.trans h45)
                        refine Ev.step (j := 102) (s' := ([some (.ref a0), some (.ref 3), some (.int z6), some (.int z12)], [.ref 3, .int z50, .ref b49], (0, 0), hp44)) rfl rfl ?_
                        refine bs_getI 9 rfl rfl rfl Hhp44 (bs_R.uq Hhp44 (g := 9) rfl) (by decide) rfl fun z52 hz52 lz52 gz52 => ?_
                        refine bs_stv (W := [(122, 0, 19)]) (g := 122) 0 19 (-2147483648, 2147483647) rfl Hhp44 rb49 (by decide) rfl rfl (by decide) rfl rfl (by omega) (by omega) (by dsimp only; omega) (by dsimp only; omega) fun hp53 Hhp53 fhp53 rhp53 ehp53 qhp53 nhp53 => ?_
                        have Fhp53 := sf_fr_tr Fhp44 (sf_fr_wider (W := [(7, 10, 10), (9, 4, 9), (120, 0, 19), (121, 0, 19), (122, 0, 19)]) rfl fhp53)
                        have h54 : sf_rd hp53 a0 10 = some z1.toInt := (ehp53 _ _ (Or.inl (bs_nq (ra0.fr Fhp44) rb49 (by decide)))).trans h45
                        have h55 : sf_rd hp53 b35 z36.toInt.toNat = some z6.toInt := (ehp53 _ _ (Or.inl (bs_nq r47 rb49 (by decide)))).trans h46
                        have h56 : sf_rd hp53 b41 z42.toInt.toNat = some z12.toInt := (ehp53 _ _ (Or.inl (bs_nq r48 rb49 (by decide)))).trans rhp44
                        have h57 : sf_rd hp53 3 7 = some z52.toInt := (ehp53 _ _ (Or.inl (bs_nq (bs_R.uq Hhp44 (g := 9) rfl) rb49 (by decide)))).trans hz52
                        have r58 := r47.fr fhp53
                        have r59 := r48.fr fhp53
                        have r60 := rb49.fr fhp53
                        refine Ev.step (j := 107) (s' := ([some (.ref a0), some (.ref 3), some (.int z6), some (.int z12)], [.ref a0], (0, 0), hp53)) rfl rfl ?_
                        exact by
                         refine Ev.step (j := 108) (s' := ([some (.ref a0), some (.ref 3), some (.int z6), some (.int z12)], [.ref a0, .ref a0], (0, 0), hp53)) rfl rfl ?_
                         refine bs_getI 7 rfl rfl rfl Hhp53 (ra0.fr Fhp53) (by decide) rfl fun z61 hz61 lz61 gz61 => ?_
                         have e62 : z61.toInt = z1.toInt := Option.some.inj (hz61.symm.trans h54)
                         refine bs_lit (k := 1) rfl rfl fun z63 hz63 => ?_
                         first | (refine bs_add rfl (by omega) (by omega) fun z64 hz64 => ?_) | (refine bs_any rfl fun z64 => ?_)
                         have rz64 := n_range z64
                         refine bs_putIv (W := [(7, 10, 10)]) (g := 7) rfl rfl Hhp53 (ra0.fr Fhp53) (by decide) rfl rfl rfl rfl (Or.inl rfl) (by omega) (by omega) fun hp65 Hhp65 fhp65 rhp65 ehp65 qhp65 nhp65 => ?_
                         have Fhp65 := sf_fr_tr Fhp53 (sf_fr_wider (W := [(7, 10, 10), (9, 4, 9), (120, 0, 19), (121, 0, 19), (122, 0, 19)]) rfl fhp65)
                         have h66 : sf_rd hp65 b35 z36.toInt.toNat = some z6.toInt := (ehp65 _ _ (Or.inl (bs_nq r58 (ra0.fr Fhp53) (by decide)))).trans h55
                         have h67 : sf_rd hp65 b41 z42.toInt.toNat = some z12.toInt := (ehp65 _ _ (Or.inl (bs_nq r59 (ra0.fr Fhp53) (by decide)))).trans h56
                         have h68 : sf_rd hp65 3 7 = some z52.toInt := (ehp65 _ _ (Or.inl (bs_nq (bs_R.uq Hhp53 (g := 9) rfl) (ra0.fr Fhp53) (by decide)))).trans h57
                         have h69 : sf_rd hp65 b49 z50.toInt.toNat = some z52.toInt := (ehp65 _ _ (Or.inl (bs_nq r60 (ra0.fr Fhp53) (by decide)))).trans rhp53
                         have r70 := r58.fr fhp65
                         have r71 := r59.fr fhp65
                         have r72 := r60.fr fhp65
                         refine bs_lit (k := 1) rfl rfl fun z73 hz73 => ?_
                         exact bs_zret rfl rfl (by omega) (by omega) (by rw [hQ]; exact ⟨thp31, Hhp65, Fhp65, bs_an0, sf_S_cons (sf_s1 (x := z73.toInt) rfl (by omega) (by omega)) (sf_S_nil), (fun a s B n lim m j ha hS hC hj hpl h9 => by
                                 cases ha
                                 have GE : z1.toInt = s.h 3 := Option.some.inj (hz1.symm.trans hS.miss)
                                 rw [show lnMiss (tok B n lim) s j = _ from if_neg (by omega)]
                                 obtain ⟨q1, rq1, X1⟩ := xhp5 _ s B n lim m (j + 1) rfl hS hC hj
                                 obtain rfl := Value.int.inj (Option.some.inj rq1)
                                 obtain ⟨Y0, Y1, Y2, Y3, Y4, Y5⟩ := X1.resolve_right (fun h => absurd h.1 (by omega))
                                 rw [lold_o Y2 (by omega)]
                                 have S1 := SC_fr H ra0 hS fhp5 rfl rfl
                                 have J2 : j + 2 < m := CK_more Y3.1 hj (by omega) (by omega)
                                 obtain ⟨q2, rq2, X2⟩ := xhp11 _ s B n lim m (j + 2) rfl S1 Y3 J2
                                 obtain rfl := Value.int.inj (Option.some.inj rq2)
                                 obtain ⟨Z0, Z1, Z2, Z3, Z4, Z5⟩ := X2.resolve_right (fun h => absurd h.1 (by omega))
                                 rw [lold_o Z2 (by omega)]
                                 have S2 := SC_fr Hhp5 (ra0.fr fhp5) S1 fhp11 rfl rfl
                                 obtain ⟨q3, rq3, M1, M2⟩ := xhp23 _ _ _ s rfl S2
                                 obtain rfl := Value.int.inj (Option.some.inj rq3)
                                 rw [Y1, Z1] at M1 M2
                                 rw [if_neg (fun h => h.elim (fun e => absurd e (by omega)) (fun e => absurd (M2 e) (by omega)))]
                                 have C0 := TKS_fr Hhp11 Z3.1 fhp23 rfl rfl rfl rfl
                                 have J3 : j + 3 < m := CK_more Z3.1 J2 (by omega) (by omega)
                                 obtain ⟨q4, rq4, X4⟩ := (xhp31 _ _ rfl).2 B n lim m (j + 3) ⟨C0, ((fhp23.2.2.1 _ (bs_R.uq Hhp11 (g := 9) (p := 3) rfl).1 _ (by rw [(bs_R.uq Hhp11 (g := 9) (p := 3) rfl).2]; rfl))).trans Z3.2.1, Z3.2.2⟩ J3
                                 obtain rfl := Value.int.inj (Option.some.inj rq4)
                                 obtain ⟨V0, V1, V2, V3, V4, V5, V6⟩ := X4.resolve_right (fun h => absurd h.1 (by omega))
                                 rw [lnum_o V1 (by omega) (by omega)]
                                 have S3 := SC_fr Hhp11 ((ra0.fr fhp5).fr fhp11) S2 fhp23 rfl rfl
                                 have S4 := SC_fr Hhp23 (((ra0.fr fhp5).fr fhp11).fr fhp23) S3 fhp31 rfl rfl
                                 have C1 := TKS_fr Hhp31 V5.1 fhp38 rfl rfl rfl rfl
                                 have C2 := TKS_fr Hhp38 C1 fhp44 rfl rfl rfl rfl
                                 have C3 := TKS_fr Hhp44 C2 fhp53 rfl rfl rfl rfl
                                 have C4 := TKS_fr Hhp53 C3 fhp65 rfl rfl rfl rfl
                                 have VV : z52.toInt = (tok B n lim (j + 3)).v := Option.some.inj (hz52.symm.trans ((((ehp44 _ _ (Or.inl (bs_nq (bs_R.uq Hhp38 (g := 9) rfl) rb41 (by decide)))).trans (ehp38 _ _ (Or.inl (bs_nq (bs_R.uq Hhp31 (g := 9) rfl) rb35 (by decide)))))).trans (V4.2.2.1 V1)))
                                 have E4 := rrD_of qb35
                                 have E5 := rrD_of ((qhp38 _ _).symm.trans qb41)
                                 have E6 := rrD_of (((qhp44 _ _).trans (qhp38 _ _)).symm.trans qb49)
                                 have I4 : (s.h 3).toNat = z36.toInt.toNat := by omega
                                 have I5 : (s.h 3).toNat = z42.toInt.toNat := by omega
                                 have I6 : (s.h 3).toNat = z50.toInt.toNat := by omega
                                 exact LRES_ok ⟨z73, rfl, by omega⟩ (SC_miss Hhp31 ((((ra0.fr fhp5).fr fhp11).fr fhp23).fr fhp31) S4 (by omega) (fun k => ((qhp65 _ _).trans ((qhp53 _ _).trans ((qhp44 _ _).trans (qhp38 _ _))))) (fun b q => (nhp65 _ _).trans ((nhp53 _ _).trans ((nhp44 _ _).trans (nhp38 _ _)))) (fun b i h g4 g5 g6 => (ehp65 _ _ h).trans ((ehp53 _ _ (by rw [E6, I6] at g6; exact g6)).trans ((ehp44 _ _ (by rw [E5, I5] at g5; exact g5)).trans (ehp38 _ _ (by rw [E4, I4] at g4; exact g4))))) (rhp65.trans (congrArg some (by omega))) (by rw [E4, I4]; exact h66.trans (congrArg some Y1)) (by rw [E5, I5]; exact h67.trans (congrArg some Z1)) (by rw [E6, I6]; exact h69.trans (congrArg some VV))) ⟨C4, (((ehp65 _ _ (Or.inl (bs_nq (bs_R.uq Hhp53 (g := 9) rfl) (ra0.fr Fhp53) (by decide)))).trans ((ehp53 _ _ (Or.inl (bs_nq (bs_R.uq Hhp44 (g := 9) rfl) rb49 (by decide)))).trans ((ehp44 _ _ (Or.inl (bs_nq (bs_R.uq Hhp38 (g := 9) rfl) rb41 (by decide)))).trans (ehp38 _ _ (Or.inl (bs_nq (bs_R.uq Hhp31 (g := 9) rfl) rb35 (by decide)))))))).trans V5.2.1, V5.2.2⟩ ((((ehp65 _ _ (Or.inl (bs_nq (bs_R.uq Hhp53 (g := 9) rfl) (ra0.fr Fhp53) (by decide)))).trans ((ehp53 _ _ (Or.inl (bs_nq (bs_R.uq Hhp44 (g := 9) rfl) rb49 (by decide)))).trans ((ehp44 _ _ (Or.inl (bs_nq (bs_R.uq Hhp38 (g := 9) rfl) rb41 (by decide)))).trans (ehp38 _ _ (Or.inl (bs_nq (bs_R.uq Hhp31 (g := 9) rfl) rb35 (by decide)))))))).trans (V6.trans (((fhp23.2.2.1 _ (bs_R.uq Hhp11 (g := 9) (p := 3) rfl).1 _ (by rw [(bs_R.uq Hhp11 (g := 9) (p := 3) rfl).2]; rfl))).trans (Z4.trans (Y4.trans h9))))) (CK_more V5.1 J3 (by omega) (by omega)))⟩)
                    · skip
                      have c74 : z32.toInt = 0 := by omega
                      refine bs_lit (k := 0) rfl rfl fun z75 hz75 => ?_
                      exact bs_zret rfl rfl (by omega) (by omega) (by rw [hQ]; exact ⟨thp31, Hhp31, Fhp31, bs_an0, sf_S_cons (sf_s1 (x := z75.toInt) rfl (by omega) (by omega)) (sf_S_nil), (fun a s B n lim m j ha hS hC hj hpl h9 => by
                              cases ha
                              have GE : z1.toInt = s.h 3 := Option.some.inj (hz1.symm.trans hS.miss)
                              rw [show lnMiss (tok B n lim) s j = _ from if_neg (by omega)]
                              obtain ⟨q1, rq1, X1⟩ := xhp5 _ s B n lim m (j + 1) rfl hS hC hj
                              obtain rfl := Value.int.inj (Option.some.inj rq1)
                              obtain ⟨Y0, Y1, Y2, Y3, Y4, Y5⟩ := X1.resolve_right (fun h => absurd h.1 (by omega))
                              rw [lold_o Y2 (by omega)]
                              have S1 := SC_fr H ra0 hS fhp5 rfl rfl
                              have J2 : j + 2 < m := CK_more Y3.1 hj (by omega) (by omega)
                              obtain ⟨q2, rq2, X2⟩ := xhp11 _ s B n lim m (j + 2) rfl S1 Y3 J2
                              obtain rfl := Value.int.inj (Option.some.inj rq2)
                              obtain ⟨Z0, Z1, Z2, Z3, Z4, Z5⟩ := X2.resolve_right (fun h => absurd h.1 (by omega))
                              rw [lold_o Z2 (by omega)]
                              have S2 := SC_fr Hhp5 (ra0.fr fhp5) S1 fhp11 rfl rfl
                              obtain ⟨q3, rq3, M1, M2⟩ := xhp23 _ _ _ s rfl S2
                              obtain rfl := Value.int.inj (Option.some.inj rq3)
                              rw [Y1, Z1] at M1 M2
                              rw [if_neg (fun h => h.elim (fun e => absurd e (by omega)) (fun e => absurd (M2 e) (by omega)))]
                              have C0 := TKS_fr Hhp11 Z3.1 fhp23 rfl rfl rfl rfl
                              have J3 : j + 3 < m := CK_more Z3.1 J2 (by omega) (by omega)
                              obtain ⟨q4, rq4, X4⟩ := (xhp31 _ _ rfl).2 B n lim m (j + 3) ⟨C0, ((fhp23.2.2.1 _ (bs_R.uq Hhp11 (g := 9) (p := 3) rfl).1 _ (by rw [(bs_R.uq Hhp11 (g := 9) (p := 3) rfl).2]; rfl))).trans Z3.2.1, Z3.2.2⟩ J3
                              obtain rfl := Value.int.inj (Option.some.inj rq4)
                              rcases X4.resolve_left (fun h => absurd h.1 (by omega)) with ⟨_, P1, ⟨P2, P3⟩ | ⟨P2, P4, P3⟩⟩
                              · rw [lnum_1 P2]
                                exact LRES_bad ⟨z75, rfl, by omega⟩ (P3) (P1)
                              · rw [lnum_2 P2 (by omega)]
                                exact LRES_bad ⟨z75, rfl, by omega⟩ (P3) (P1))⟩)
                 · skip
                   refine Ev.step (j := 56) (s' := ([some (.ref a0), some (.ref 3), some (.int z6), some (.int z12)], [.ref 3], (0, 0), hp23)) rfl rfl ?_
                   exact by
                    refine bs_lit (k := 3) rfl rfl fun z76 hz76 => ?_
                    refine Ev.inl (L := L_X9_fail) (nL := 2) rfl (bs_rcv (g := 9) Hhp23 (bs_R.uq Hhp23 (g := 9) rfl) (by decide) rfl) rfl (Nat.le_of_ble_eq_true rfl) ?_
                    generalize hQ77 : (fun (o : ab_O) => Ev _ _ _ _) = Q77
                    refine (show Ev (ab_T L_X9_fail) 0 ([some (.ref 3), some (.int z76)], [], (0, 0), hp23) Q77 from ?_)
                    refine Ev.step (j := 1) (s' := ([some (.ref 3), some (.int z76)], [.ref 3], (0, 0), hp23)) rfl rfl ?_
                    refine Ev.step (j := 2) (s' := ([some (.ref 3), some (.int z76)], [.int z76, .ref 3], (0, 0), hp23)) rfl rfl ?_
                    refine bs_putIv (W := [(9, 9, 9)]) (g := 9) rfl rfl Hhp23 (bs_R.uq Hhp23 (g := 9) rfl) (by decide) rfl rfl rfl rfl (Or.inl rfl) (by omega) (by omega) fun hp78 Hhp78 fhp78 rhp78 ehp78 qhp78 nhp78 => ?_
                    have Fhp78 := sf_fr_tr Fhp23 (sf_fr_wider (W := [(7, 10, 10), (9, 4, 9), (120, 0, 19), (121, 0, 19), (122, 0, 19)]) rfl fhp78)
                    have h79 : sf_rd hp78 a0 10 = some z1.toInt := (ehp78 _ _ (Or.inl (bs_nq (ra0.fr Fhp23) (bs_R.uq Hhp23 (g := 9) rfl) (by decide)))).trans h25
                    refine bs_lit (k := 0) rfl rfl fun z80 hz80 => ?_
                    exact by
                     refine bs_zret rfl rfl (by omega) (by omega) ?_
                     rw [← hQ77]
                     refine (show Ev _ 60 ([some (.ref a0), some (.ref 3), some (.int z6), some (.int z12)], [.int z80], (0, 0), hp78) _ from ?_)
                     exact bs_zret rfl rfl (by omega) (by omega) (by rw [hQ]; exact ⟨thp23, Hhp78, Fhp78, bs_an0, sf_S_cons (sf_s1 (x := z80.toInt) rfl (by omega) (by omega)) (sf_S_nil), (fun a s B n lim m j ha hS hC hj hpl h9 => by
                             cases ha
                             have GE : z1.toInt = s.h 3 := Option.some.inj (hz1.symm.trans hS.miss)
                             rw [show lnMiss (tok B n lim) s j = _ from if_neg (by omega)]
                             obtain ⟨q1, rq1, X1⟩ := xhp5 _ s B n lim m (j + 1) rfl hS hC hj
                             obtain rfl := Value.int.inj (Option.some.inj rq1)
                             obtain ⟨Y0, Y1, Y2, Y3, Y4, Y5⟩ := X1.resolve_right (fun h => absurd h.1 (by omega))
                             rw [lold_o Y2 (by omega)]
                             have S1 := SC_fr H ra0 hS fhp5 rfl rfl
                             have J2 : j + 2 < m := CK_more Y3.1 hj (by omega) (by omega)
                             obtain ⟨q2, rq2, X2⟩ := xhp11 _ s B n lim m (j + 2) rfl S1 Y3 J2
                             obtain rfl := Value.int.inj (Option.some.inj rq2)
                             obtain ⟨Z0, Z1, Z2, Z3, Z4, Z5⟩ := X2.resolve_right (fun h => absurd h.1 (by omega))
                             rw [lold_o Z2 (by omega)]
                             have S2 := SC_fr Hhp5 (ra0.fr fhp5) S1 fhp11 rfl rfl
                             obtain ⟨q3, rq3, M1, M2⟩ := xhp23 _ _ _ s rfl S2
                             obtain rfl := Value.int.inj (Option.some.inj rq3)
                             rw [Y1, Z1] at M1 M2
                             rw [if_pos (Or.inr (M1 (by omega)))]
                             exact LRES_bad ⟨z80, rfl, by omega⟩ (rhp78.trans (congrArg some (by omega))) ((((ehp78 _ _ (Or.inr (by omega))).trans (fhp23.2.2.1 _ (bs_R.uq Hhp11 (g := 9) (p := 3) rfl).1 _ (by rw [(bs_R.uq Hhp11 (g := 9) (p := 3) rfl).2]; rfl)))).trans Z5))⟩)
           · skip
             have c81 : z12.toInt = -1 := by omega
             refine bs_lit (k := 0) rfl rfl fun z82 hz82 => ?_
             exact bs_zret rfl rfl (by omega) (by omega) (by rw [hQ]; exact ⟨thp11, Hhp11, Fhp11, bs_an0, sf_S_cons (sf_s1 (x := z82.toInt) rfl (by omega) (by omega)) (sf_S_nil), (fun a s B n lim m j ha hS hC hj hpl h9 => by
                     cases ha
                     have GE : z1.toInt = s.h 3 := Option.some.inj (hz1.symm.trans hS.miss)
                     rw [show lnMiss (tok B n lim) s j = _ from if_neg (by omega)]
                     obtain ⟨q1, rq1, X1⟩ := xhp5 _ s B n lim m (j + 1) rfl hS hC hj
                     obtain rfl := Value.int.inj (Option.some.inj rq1)
                     obtain ⟨Y0, Y1, Y2, Y3, Y4, Y5⟩ := X1.resolve_right (fun h => absurd h.1 (by omega))
                     rw [lold_o Y2 (by omega)]
                     have S1 := SC_fr H ra0 hS fhp5 rfl rfl
                     have J2 : j + 2 < m := CK_more Y3.1 hj (by omega) (by omega)
                     obtain ⟨q2, rq2, X2⟩ := xhp11 _ s B n lim m (j + 2) rfl S1 Y3 J2
                     obtain rfl := Value.int.inj (Option.some.inj rq2)
                     rcases X2.resolve_left (fun h => absurd h.1 (by omega)) with ⟨_, P1, ⟨P2, P3⟩ | ⟨P2, P4, P3⟩⟩
                     · rw [lold_1 P2]
                       exact LRES_bad ⟨z82, rfl, by omega⟩ (P3) (P1)
                     · rw [lold_3 P2 P4]
                       exact LRES_bad ⟨z82, rfl, by omega⟩ (P3) (P1))⟩)
        · skip
          have c83 : z6.toInt = -1 := by omega
          refine bs_lit (k := 0) rfl rfl fun z84 hz84 => ?_
          exact bs_zret rfl rfl (by omega) (by omega) (by rw [hQ]; exact ⟨thp5, Hhp5, Fhp5, bs_an0, sf_S_cons (sf_s1 (x := z84.toInt) rfl (by omega) (by omega)) (sf_S_nil), (fun a s B n lim m j ha hS hC hj hpl h9 => by
                  cases ha
                  have GE : z1.toInt = s.h 3 := Option.some.inj (hz1.symm.trans hS.miss)
                  rw [show lnMiss (tok B n lim) s j = _ from if_neg (by omega)]
                  obtain ⟨q1, rq1, X1⟩ := xhp5 _ s B n lim m (j + 1) rfl hS hC hj
                  obtain rfl := Value.int.inj (Option.some.inj rq1)
                  rcases X1.resolve_left (fun h => absurd h.1 (by omega)) with ⟨_, P1, ⟨P2, P3⟩ | ⟨P2, P4, P3⟩⟩
                  · rw [lold_1 P2]
                    exact LRES_bad ⟨z84, rfl, by omega⟩ (P3) (P1)
                  · rw [lold_3 P2 P4]
                    exact LRES_bad ⟨z84, rfl, by omega⟩ (P3) (P1))⟩)
     · skip
       refine Ev.step (j := 10) (s' := ([some (.ref a0), some (.ref 3), none, none], [.ref 3], (0, 0), hp)) rfl rfl ?_
       exact by
        refine bs_lit (k := 4) rfl rfl fun z85 hz85 => ?_
        refine Ev.inl (L := L_X9_fail) (nL := 2) rfl (bs_rcv (g := 9) H (bs_R.uq H (g := 9) rfl) (by decide) rfl) rfl (Nat.le_of_ble_eq_true rfl) ?_
        generalize hQ86 : (fun (o : ab_O) => Ev _ _ _ _) = Q86
        refine (show Ev (ab_T L_X9_fail) 0 ([some (.ref 3), some (.int z85)], [], (0, 0), hp) Q86 from ?_)
        refine Ev.step (j := 1) (s' := ([some (.ref 3), some (.int z85)], [.ref 3], (0, 0), hp)) rfl rfl ?_
        refine Ev.step (j := 2) (s' := ([some (.ref 3), some (.int z85)], [.int z85, .ref 3], (0, 0), hp)) rfl rfl ?_
        refine bs_putIv (W := [(9, 9, 9)]) (g := 9) rfl rfl H (bs_R.uq H (g := 9) rfl) (by decide) rfl rfl rfl rfl (Or.inl rfl) (by omega) (by omega) fun hp87 Hhp87 fhp87 rhp87 ehp87 qhp87 nhp87 => ?_
        have Fhp87 := sf_fr_tr F0 (sf_fr_wider (W := [(7, 10, 10), (9, 4, 9), (120, 0, 19), (121, 0, 19), (122, 0, 19)]) rfl fhp87)
        have h88 : sf_rd hp87 a0 10 = some z1.toInt := (ehp87 _ _ (Or.inl (bs_nq (ra0.fr F0) (bs_R.uq H (g := 9) rfl) (by decide)))).trans hz1
        refine bs_lit (k := 0) rfl rfl fun z89 hz89 => ?_
        exact by
         refine bs_zret rfl rfl (by omega) (by omega) ?_
         rw [← hQ86]
         refine (show Ev _ 14 ([some (.ref a0), some (.ref 3), none, none], [.int z89], (0, 0), hp87) _ from ?_)
         exact bs_zret rfl rfl (by omega) (by omega) (by rw [hQ]; exact ⟨t, Hhp87, Fhp87, bs_an0, sf_S_cons (sf_s1 (x := z89.toInt) rfl (by omega) (by omega)) (sf_S_nil), (fun a s B n lim m j ha hS hC hj hpl h9 => by
                 cases ha
                 have GE : z1.toInt = s.h 3 := Option.some.inj (hz1.symm.trans hS.miss)
                 rw [show lnMiss (tok B n lim) s j = _ from if_pos (by omega)]
                 exact LRES_bad ⟨z89, rfl, by omega⟩ (rhp87.trans (congrArg some (by omega))) (((ehp87 _ _ (Or.inr (by omega)))).trans hpl))⟩)
def kq_X7_takeGood_v : sf_Q := ([(1, 7, 0), (1, 9, 0)], [], some (0, 0, 0), [(1, 0, 0, -1, 5, 0)], [(9, 4, 9)])
def ke_X7_takeGood_v : List Value → ab_H → Option Value → ab_H → Prop := fun as hp r hp' => ∀ (a : Nat) (s : PS) (B : Nat → Int) (n lim m i : Nat), as = [.ref a, .ref 3] → SC hp a s → CK hp B n lim m i → i < m → ∃ z : Int32, r = some (.int z) ∧ ((0 ≤ z.toInt ∧ z.toInt = fnd s.nm 0 (s.h 0) (tok B n lim i).v ∧ (tok B n lim i).k = 2 ∧ CK hp' B n lim m (i + 1) ∧ sf_rd hp' 3 9 = sf_rd hp 3 9 ∧ sf_rd hp' 3 6 = some (tok B n lim i).pl) ∨ (z.toInt = -1 ∧ sf_rd hp' 3 6 = some (tok B n lim i).pl ∧ (((tok B n lim i).k ≠ 2 ∧ sf_rd hp' 3 9 = some 1) ∨ ((tok B n lim i).k = 2 ∧ fnd s.nm 0 (s.h 0) (tok B n lim i).v < 0 ∧ sf_rd hp' 3 9 = some 3))))
set_option maxRecDepth 100000 in
set_option maxHeartbeats 4000000 in
theorem ce_X7_takeGood_v : sf_cE kq_X7_takeGood_v Z_X7_takeGood ke_X7_takeGood_v := by
  intro t hp as H hl hj hpre
  match as, hl with
  | [v0, v1], _ =>
    obtain ⟨a0, rfl, ra0⟩ := bs_aR (hj 0 _ rfl)
    obtain ⟨a1, rfl, ra1⟩ := bs_aR (hj 1 _ rfl)
    obtain rfl := ra1.eq H (p := 3) rfl
    clear hpre hj
    have F0 : sf_fr [(9, 4, 9)] t hp t hp := sf_fr_rf
    refine bs_finx (E := ke_X7_takeGood_v) (K := kq_X7_takeGood_v) (L := (L_X7_takeGood Z_X9_takeName Z_X7_goodNamed Z_X9_fail)) (nL := 3) (Nat.le_of_ble_eq_true rfl) ?_
    obtain ⟨Q, hQ⟩ : ∃ Q : ab_O → Prop, Q = (fun o => ∃ t', sf_h t' o.2 ∧ sf_fr (kq_X7_takeGood_v).2.2.2.2 t hp t' o.2 ∧ sf_an t' o.2.1 (kq_X7_takeGood_v).2.2.1 o.1 ∧ sf_S (sf_v1 o.1 [.ref a0, .ref 3] o.2) (kq_X7_takeGood_v).2.2.2.1 ∧ ke_X7_takeGood_v [.ref a0, .ref 3] hp o.1 o.2) := ⟨_, rfl⟩
    rw [← hQ]
    refine (show Ev (ab_T (L_X7_takeGood Z_X9_takeName Z_X7_goodNamed Z_X9_fail)) 0 ([some (.ref a0), some (.ref 3), none], [], (0, 0), hp) Q from ?_)
    refine Ev.step (j := 1) (s' := ([some (.ref a0), some (.ref 3), none], [.ref 3], (0, 0), hp)) rfl rfl ?_
    exact by
     refine bs_callx (K := kq_X9_takeName_v) [.ref 3] [] rfl ce_X9_takeName_v H rfl rfl rfl (bs_rcv (g := 9) H (bs_R.uq H (g := 9) rfl) (by decide) rfl) rfl ?_ (sf_S_nil) fun r1 hp2 thp2 Hhp2 fhp2 ahp2 php2 xhp2 => ?_
     · intro q k h
       match q, h with
       | 0, h => cases h; exact bs_jR (bs_R.uq H (g := 9) rfl)
       | q + 1, h => cases h
     obtain ⟨z3, rfl⟩ := bs_anI ahp2
     have rgz3 := n_range z3
     have Fhp2 := sf_fr_tr F0 (sf_fr_wider (W := [(9, 4, 9)]) rfl fhp2)
     obtain ⟨uz3, vz3⟩ := bs_s1 (x := z3.toInt) rfl (php2 _ (List.mem_of_getElem? (i := 0) rfl))
     refine (show Ev _ 4 ([some (.ref a0), some (.ref 3), none], [.int z3], (0, 0), hp2) _ from ?_)
     refine bs_ifne rfl (fun c4 => ?_) (fun c4 => ?_)
     · skip
       refine Ev.step (j := 10) (s' := ([some (.ref a0), some (.ref 3), none], [.ref a0], (0, 0), hp2)) rfl rfl ?_
       exact by
        refine Ev.step (j := 11) (s' := ([some (.ref a0), some (.ref 3), none], [.ref 3, .ref a0], (0, 0), hp2)) rfl rfl ?_
        refine bs_getLv (g := 9) rfl rfl Hhp2 (bs_R.uq Hhp2 (g := 9) rfl) (by decide) rfl fun w5 hw5 => ?_
        refine bs_callx (K := kq_X7_goodNamed_v) [.ref a0, .long w5] [] rfl ce_X7_goodNamed_v Hhp2 rfl rfl rfl (bs_rcv (g := 7) Hhp2 (ra0.fr Fhp2) (by decide) rfl) rfl ?_ (sf_S_nil) fun r6 hp7 thp7 Hhp7 fhp7 ahp7 php7 xhp7 => ?_
        · intro q k h
          match q, h with
          | 0, h => cases h; exact bs_jR (ra0.fr Fhp2)
          | 1, h => cases h; exact sf_j2
          | q + 2, h => cases h
        obtain ⟨z8, rfl⟩ := bs_anI ahp7
        have rgz8 := n_range z8
        have Fhp7 := sf_fr_tr Fhp2 (sf_fr_wider (W := [(9, 4, 9)]) rfl fhp7)
        have h9 : sf_rl hp7 3 8 = some w5 := (sf_rl_cell (fhp7.2.2.2.1 _ (bs_R.uq Hhp2 (g := 9) (p := 3) rfl).1 (by rw [(bs_R.uq Hhp2 (g := 9) (p := 3) rfl).2]; rfl))).trans hw5
        obtain ⟨uz8, vz8⟩ := bs_s1 (x := z8.toInt) rfl (php7 _ (List.mem_of_getElem? (i := 0) rfl))
        refine (show Ev _ 17 ([some (.ref a0), some (.ref 3), none], [.int z8], (0, 0), hp7) _ from ?_)
        exact by
         refine Ev.step (j := 18) (s' := ([some (.ref a0), some (.ref 3), some (.int z8)], [], (0, 0), hp7)) rfl rfl ?_
         refine Ev.step (j := 19) (s' := ([some (.ref a0), some (.ref 3), some (.int z8)], [.int z8], (0, 0), hp7)) rfl rfl ?_
         refine bs_lit (k := -1) rfl rfl fun z10 hz10 => ?_
         refine bs_ne rfl (fun c11 => ?_) (fun c11 => ?_)
         · skip
           refine Ev.step (j := 30) (s' := ([some (.ref a0), some (.ref 3), some (.int z8)], [.int z8], (0, 0), hp7)) rfl rfl ?_
           exact Ev.ret rfl rfl (by rw [hQ]; exact ⟨thp7, Hhp7, Fhp7, bs_an0, sf_S_cons (sf_s1 (x := z8.toInt) rfl (by omega) (by omega)) (sf_S_nil), (fun a s B n lim m i ha hS hC hi_ => by
                   cases ha
                   obtain ⟨q1, rq1, X1⟩ := xhp2 B n lim m i hC hi_
                   obtain rfl := Value.int.inj (Option.some.inj rq1)
                   obtain ⟨Y1, X2, X3, X4, X5⟩ := X1.resolve_right (fun h => absurd h.1 (by omega))
                   obtain ⟨wq9, W1, W2⟩ := X3.2.2.2 X2
                   have WE : w5 = wq9 := Option.some.inj (hw5.symm.trans W1)
                   have LW9 := (tok_wok B n lim i (Or.inl X2)).1
                   have S1 := SC_fr H ra0 hS fhp2 rfl rfl
                   obtain ⟨q2, rq2, G2⟩ := xhp7 _ _ s (tok B n lim i).v rfl S1 (by rw [WE]; exact W2) LW9
                   obtain rfl := Value.int.inj (Option.some.inj rq2)
                   have C1 := TKS_fr Hhp2 X4.1 fhp7 rfl rfl rfl rfl
                   exact ⟨z8, rfl, Or.inl ⟨by omega, G2, X2, ⟨C1, ((fhp7.2.2.1 _ (bs_R.uq Hhp2 (g := 9) (p := 3) rfl).1 _ (by rw [(bs_R.uq Hhp2 (g := 9) (p := 3) rfl).2]; rfl))).trans X4.2.1, X4.2.2⟩, ((fhp7.2.2.1 _ (bs_R.uq Hhp2 (g := 9) (p := 3) rfl).1 _ (by rw [(bs_R.uq Hhp2 (g := 9) (p := 3) rfl).2]; rfl))).trans X5, ((fhp7.2.2.1 _ (bs_R.uq Hhp2 (g := 9) (p := 3) rfl).1 _ (by rw [(bs_R.uq Hhp2 (g := 9) (p := 3) rfl).2]; rfl))).trans X3.2.1⟩⟩)⟩)
         · skip
           have c12 : z8.toInt = -1 := by omega
           refine Ev.step (j := 24) (s' := ([some (.ref a0), some (.ref 3), some (.int z8)], [.ref 3], (0, 0), hp7)) rfl rfl ?_
           exact by
            refine bs_lit (k := 3) rfl rfl fun z13 hz13 => ?_
            refine Ev.inl (L := L_X9_fail) (nL := 2) rfl (bs_rcv (g := 9) Hhp7 (bs_R.uq Hhp7 (g := 9) rfl) (by decide) rfl) rfl (Nat.le_of_ble_eq_true rfl) ?_
            generalize hQ14 : (fun (o : ab_O) => Ev _ _ _ _) = Q14
            refine (show Ev (ab_T L_X9_fail) 0 ([some (.ref 3), some (.int z13)], [], (0, 0), hp7) Q14 from ?_)
            refine Ev.step (j := 1) (s' := ([some (.ref 3), some (.int z13)], [.ref 3], (0, 0), hp7)) rfl rfl ?_
            refine Ev.step (j := 2) (s' := ([some (.ref 3), some (.int z13)], [.int z13, .ref 3], (0, 0), hp7)) rfl rfl ?_
            refine bs_putIv (W := [(9, 9, 9)]) (g := 9) rfl rfl Hhp7 (bs_R.uq Hhp7 (g := 9) rfl) (by decide) rfl rfl rfl rfl (Or.inl rfl) (by omega) (by omega) fun hp15 Hhp15 fhp15 rhp15 ehp15 qhp15 nhp15 => ?_
            have Fhp15 := sf_fr_tr Fhp7 (sf_fr_wider (W := [(9, 4, 9)]) rfl fhp15)
            have h16 : sf_rl hp15 3 8 = some w5 := (nhp15 _ _).trans h9
            refine bs_lit (k := 0) rfl rfl fun z17 hz17 => ?_
            exact by
             refine bs_zret rfl rfl (by omega) (by omega) ?_
             rw [← hQ14]
             refine (show Ev _ 28 ([some (.ref a0), some (.ref 3), some (.int z8)], [.int z17], (0, 0), hp15) _ from ?_)
             refine Ev.step (j := 29) (s' := ([some (.ref a0), some (.ref 3), some (.int z8)], [], (0, 0), hp15)) rfl rfl ?_
             refine Ev.step (j := 30) (s' := ([some (.ref a0), some (.ref 3), some (.int z8)], [.int z8], (0, 0), hp15)) rfl rfl ?_
             exact Ev.ret rfl rfl (by rw [hQ]; exact ⟨thp7, Hhp15, Fhp15, bs_an0, sf_S_cons (sf_s1 (x := z8.toInt) rfl (by omega) (by omega)) (sf_S_nil), (fun a s B n lim m i ha hS hC hi_ => by
                     cases ha
                     obtain ⟨q1, rq1, X1⟩ := xhp2 B n lim m i hC hi_
                     obtain rfl := Value.int.inj (Option.some.inj rq1)
                     obtain ⟨Y1, X2, X3, X4, X5⟩ := X1.resolve_right (fun h => absurd h.1 (by omega))
                     obtain ⟨wq9, W1, W2⟩ := X3.2.2.2 X2
                     have WE : w5 = wq9 := Option.some.inj (hw5.symm.trans W1)
                     have LW9 := (tok_wok B n lim i (Or.inl X2)).1
                     have S1 := SC_fr H ra0 hS fhp2 rfl rfl
                     obtain ⟨q2, rq2, G2⟩ := xhp7 _ _ s (tok B n lim i).v rfl S1 (by rw [WE]; exact W2) LW9
                     obtain rfl := Value.int.inj (Option.some.inj rq2)
                     exact ⟨z8, rfl, Or.inr ⟨by omega, (((ehp15 _ _ (Or.inr (by omega))).trans (fhp7.2.2.1 _ (bs_R.uq Hhp2 (g := 9) (p := 3) rfl).1 _ (by rw [(bs_R.uq Hhp2 (g := 9) (p := 3) rfl).2]; rfl)))).trans X3.2.1, Or.inr ⟨X2, by omega, rhp15.trans (congrArg some (by omega))⟩⟩⟩)⟩)
     · skip
       have c18 : z3.toInt = 0 := by omega
       refine bs_lit (k := -1) rfl rfl fun z19 hz19 => ?_
       exact Ev.ret rfl rfl (by rw [hQ]; exact ⟨thp2, Hhp2, Fhp2, bs_an0, sf_S_cons (sf_s1 (x := z19.toInt) rfl (by omega) (by omega)) (sf_S_nil), (fun a s B n lim m i ha hS hC hi_ => by
               cases ha
               obtain ⟨q1, rq1, X1⟩ := xhp2 B n lim m i hC hi_
               obtain rfl := Value.int.inj (Option.some.inj rq1)
               rcases X1 with X | ⟨_, X2, X3, X4⟩
               · exact absurd X.1 (by omega)
               · exact ⟨z19, rfl, Or.inr ⟨by omega, X2, Or.inl ⟨X3, X4⟩⟩⟩)⟩)
def kq_X7_readAmount_v : sf_Q := ([(1, 7, 0), (1, 9, 0), (0, 0, 0)], [(1, 6, 0, 0, 3, 0)], some (0, 0, 0), [(1, 0, 0, 0, 1, 0)], [(7, 12, 12), (9, 4, 9), (119, 0, 47)])
def ke_X7_readAmount_v : List Value → ab_H → Option Value → ab_H → Prop := fun as hp r hp' => ∀ (a : Nat) (s : PS) (B : Nat → Int) (n lim m j : Nat) (x : Int32), as = [.ref a, .ref 3, .int x] → SC hp a s → CK hp B n lim m (j + 1) → j + 1 < m → sf_rd hp 3 6 = some (tok B n lim j).pl → sf_rd hp 3 9 = some 0 → LRES hp' a B n lim m r (lnAmt (tok B n lim) s j x.toInt.toNat)
set_option maxRecDepth 100000 in
set_option maxHeartbeats 4000000 in
theorem ce_X7_readAmount_v : sf_cE kq_X7_readAmount_v Z_X7_readAmount ke_X7_readAmount_v := by
  intro t hp as H hl hj hpre
  match as, hl with
  | [v0, v1, v2], _ =>
    obtain ⟨a0, rfl, ra0⟩ := bs_aR (hj 0 _ rfl)
    obtain ⟨a1, rfl, ra1⟩ := bs_aR (hj 1 _ rfl)
    obtain rfl := ra1.eq H (p := 3) rfl
    obtain ⟨x2, rfl⟩ := bs_aI (hj 2 _ rfl)
    have rg2 := n_range x2
    obtain ⟨pl0, ph0⟩ := bs_s1 (x := x2.toInt) rfl (hpre _ (List.mem_of_getElem? (i := 0) rfl))
    clear hpre hj
    have F0 : sf_fr [(7, 12, 12), (9, 4, 9), (119, 0, 47)] t hp t hp := sf_fr_rf
    refine bs_finx (E := ke_X7_readAmount_v) (K := kq_X7_readAmount_v) (L := (L_X7_readAmount Z_X7_takeGood Z_X9_takeNumber Z_X10_slotOf Z_X9_fail)) (nL := 6) (Nat.le_of_ble_eq_true rfl) ?_
    obtain ⟨Q, hQ⟩ : ∃ Q : ab_O → Prop, Q = (fun o => ∃ t', sf_h t' o.2 ∧ sf_fr (kq_X7_readAmount_v).2.2.2.2 t hp t' o.2 ∧ sf_an t' o.2.1 (kq_X7_readAmount_v).2.2.1 o.1 ∧ sf_S (sf_v1 o.1 [.ref a0, .ref 3, .int x2] o.2) (kq_X7_readAmount_v).2.2.2.1 ∧ ke_X7_readAmount_v [.ref a0, .ref 3, .int x2] hp o.1 o.2) := ⟨_, rfl⟩
    rw [← hQ]
    refine (show Ev (ab_T (L_X7_readAmount Z_X7_takeGood Z_X9_takeNumber Z_X10_slotOf Z_X9_fail)) 0 ([some (.ref a0), some (.ref 3), some (.int x2), none, none, none], [], (0, 0), hp) Q from ?_)
    exact by
     refine Ev.step (j := 1) (s' := ([some (.ref a0), some (.ref 3), some (.int x2), none, none, none], [.ref a0], (0, 0), hp)) rfl rfl ?_
     refine Ev.step (j := 2) (s' := ([some (.ref a0), some (.ref 3), some (.int x2), none, none, none], [.ref 3, .ref a0], (0, 0), hp)) rfl rfl ?_
     refine bs_callx (K := kq_X7_takeGood_v) [.ref a0, .ref 3] [] rfl ce_X7_takeGood_v H rfl rfl rfl (bs_rcv (g := 7) H (ra0.fr F0) (by decide) rfl) rfl ?_ (sf_S_nil) fun r1 hp2 thp2 Hhp2 fhp2 ahp2 php2 xhp2 => ?_
     · intro q k h
       match q, h with
       | 0, h => cases h; exact bs_jR (ra0.fr F0)
       | 1, h => cases h; exact bs_jR (bs_R.uq H (g := 9) rfl)
       | q + 2, h => cases h
     obtain ⟨z3, rfl⟩ := bs_anI ahp2
     have rgz3 := n_range z3
     have Fhp2 := sf_fr_tr F0 (sf_fr_wider (W := [(7, 12, 12), (9, 4, 9), (119, 0, 47)]) rfl fhp2)
     obtain ⟨uz3, vz3⟩ := bs_s1 (x := z3.toInt) rfl (php2 _ (List.mem_of_getElem? (i := 0) rfl))
     refine (show Ev _ 5 ([some (.ref a0), some (.ref 3), some (.int x2), none, none, none], [.int z3], (0, 0), hp2) _ from ?_)
     exact by
      refine Ev.step (j := 6) (s' := ([some (.ref a0), some (.ref 3), some (.int x2), some (.int z3), none, none], [], (0, 0), hp2)) rfl rfl ?_
      refine Ev.step (j := 7) (s' := ([some (.ref a0), some (.ref 3), some (.int x2), some (.int z3), none, none], [.int z3], (0, 0), hp2)) rfl rfl ?_
      refine bs_lit (k := -1) rfl rfl fun z4 hz4 => ?_
      refine bs_eq rfl (fun c5 => ?_) (fun c5 => ?_)
      · skip
        have c6 : z3.toInt = -1 := by omega
        refine bs_lit (k := 0) rfl rfl fun z7 hz7 => ?_
        exact bs_zret rfl rfl (by omega) (by omega) (by rw [hQ]; exact ⟨thp2, Hhp2, Fhp2, bs_an0, sf_S_cons (sf_s1 (x := z7.toInt) rfl (by omega) (by omega)) (sf_S_nil), (fun a s B n lim m j x ha hS hC hj hpl h9 => by
                have EX : x = x2 := by cases ha; rfl
                subst EX
                cases ha
                obtain ⟨q1, rq1, X1⟩ := xhp2 _ s B n lim m (j + 1) rfl hS hC hj
                obtain rfl := Value.int.inj (Option.some.inj rq1)
                show LRES _ _ _ _ _ _ _ (lold (tok B n lim) s 0 (s.h 0) (j + 1) _)
                rcases X1.resolve_left (fun h => absurd h.1 (by omega)) with ⟨_, P1, ⟨P2, P3⟩ | ⟨P2, P4, P3⟩⟩
                · rw [lold_1 P2]
                  exact LRES_bad ⟨z7, rfl, by omega⟩ (P3) (P1)
                · rw [lold_3 P2 P4]
                  exact LRES_bad ⟨z7, rfl, by omega⟩ (P3) (P1))⟩)
      · skip
        refine Ev.step (j := 12) (s' := ([some (.ref a0), some (.ref 3), some (.int x2), some (.int z3), none, none], [.ref 3], (0, 0), hp2)) rfl rfl ?_
        exact by
         refine bs_lit (k := 0) rfl rfl fun z8 hz8 => ?_
         refine bs_lit (k := 1) rfl rfl fun z9 hz9 => ?_
         refine bs_callx (K := kq_X9_takeNumber_v) [.ref 3, .int z8, .int z9] [] rfl ce_X9_takeNumber_v Hhp2 rfl rfl rfl (bs_rcv (g := 9) Hhp2 (bs_R.uq Hhp2 (g := 9) rfl) (by decide) rfl) rfl ?_ (sf_S_nil) fun r10 hp11 thp11 Hhp11 fhp11 ahp11 php11 xhp11 => ?_
         · intro q k h
           match q, h with
           | 0, h => cases h; exact bs_jR (bs_R.uq Hhp2 (g := 9) rfl)
           | 1, h => cases h; exact sf_j0
           | 2, h => cases h; exact sf_j0
           | q + 3, h => cases h
         obtain ⟨z12, rfl⟩ := bs_anI ahp11
         have rgz12 := n_range z12
         have Fhp11 := sf_fr_tr Fhp2 (sf_fr_wider (W := [(7, 12, 12), (9, 4, 9), (119, 0, 47)]) rfl fhp11)
         obtain ⟨uz12, vz12⟩ := bs_s1 (x := z12.toInt) rfl (php11 _ (List.mem_of_getElem? (i := 0) rfl))
         refine (show Ev _ 17 ([some (.ref a0), some (.ref 3), some (.int x2), some (.int z3), none, none], [.int z12], (0, 0), hp11) _ from ?_)
         exact by
          refine bs_ifne rfl (fun c13 => ?_) (fun c13 => ?_)
          · skip
            obtain ⟨y14, hy14, ly14, gy14⟩ := (xhp11 _ _ rfl).1 _ rfl (by omega)
            refine Ev.step (j := 23) (s' := ([some (.ref a0), some (.ref 3), some (.int x2), some (.int z3), none, none], [.int x2], (0, 0), hp11)) rfl rfl ?_
            refine bs_lit (k := 12) rfl rfl fun z15 hz15 => ?_
            refine bs_mul (12) rfl (Or.inr hz15) (by rw [hz15]; omega) (by rw [hz15]; omega) fun z16 hz16 => ?_
            rw [hz15] at hz16
            refine Ev.step (j := 27) (s' := ([some (.ref a0), some (.ref 3), some (.int x2), some (.int z3), none, none], [.int z3, .int z16], (0, 0), hp11)) rfl rfl ?_
            refine Ev.step (j := 28) (s' := ([some (.ref a0), some (.ref 3), some (.int x2), some (.int z3), none, none], [.ref 3, .int z3, .int z16], (0, 0), hp11)) rfl rfl ?_
            refine bs_getI 9 rfl rfl rfl Hhp11 (bs_R.uq Hhp11 (g := 9) rfl) (by decide) rfl fun z17 hz17 lz17 gz17 => ?_
            have e18 : z17.toInt = y14 := Option.some.inj (hz17.symm.trans hy14)
            refine Ev.inlS (L := L_X10_slotOf) (nL := 2) rfl rfl (Nat.le_of_ble_eq_true rfl) ?_
            generalize hQ19 : (fun (o : ab_O) => Ev _ _ _ _) = Q19
            refine (show Ev (ab_T L_X10_slotOf) 0 ([some (.int z3), some (.int z17)], [], (0, 0), hp11) Q19 from ?_)
            exact by
             refine bs_lit (k := 2) rfl rfl fun z20 hz20 => ?_
             refine Ev.step (j := 2) (s' := ([some (.int z3), some (.int z17)], [.int z3, .int z20], (0, 0), hp11)) rfl rfl ?_
             refine bs_mul (2) rfl (Or.inl hz20) (by rw [hz20]; omega) (by rw [hz20]; omega) fun z21 hz21 => ?_
             rw [hz20] at hz21
             refine Ev.step (j := 4) (s' := ([some (.int z3), some (.int z17)], [.int z17, .int z21], (0, 0), hp11)) rfl rfl ?_
             first | (refine bs_add rfl (by omega) (by omega) fun z22 hz22 => ?_) | (refine bs_any rfl fun z22 => ?_)
             have rz22 := n_range z22
             refine Ev.ret rfl rfl ?_
             rw [← hQ19]
             refine (show Ev _ 34 ([some (.ref a0), some (.ref 3), some (.int x2), some (.int z3), none, none], [.int z22, .int z16], (0, 0), hp11) _ from ?_)
             first | (refine bs_add rfl (by omega) (by omega) fun z23 hz23 => ?_) | (refine bs_any rfl fun z23 => ?_)
             have rz23 := n_range z23
             refine Ev.step (j := 37) (s' := ([some (.ref a0), some (.ref 3), some (.int x2), some (.int z3), some (.int z23), none], [], (0, 0), hp11)) rfl rfl ?_
             exact by
              refine Ev.step (j := 38) (s' := ([some (.ref a0), some (.ref 3), some (.int x2), some (.int z3), some (.int z23), none], [.ref a0], (0, 0), hp11)) rfl rfl ?_
              refine bs_getLv (g := 7) rfl rfl Hhp11 (ra0.fr Fhp11) (by decide) rfl fun w24 hw24 => ?_
              refine Ev.step (j := 42) (s' := ([some (.ref a0), some (.ref 3), some (.int x2), some (.int z3), some (.int z23), none], [.long (1 : Int64), .long w24], (0, 0), hp11)) rfl rfl ?_
              refine Ev.step (j := 44) (s' := ([some (.ref a0), some (.ref 3), some (.int x2), some (.int z3), some (.int z23), none], [.int z23, .long (1 : Int64), .long w24], (0, 0), hp11)) rfl rfl ?_
              refine Ev.step (j := 45) (s' := ([some (.ref a0), some (.ref 3), some (.int x2), some (.int z3), some (.int z23), none], [.long ((1 : Int64) <<< (z23.toInt64 &&& 63)), .long w24], (0, 0), hp11)) rfl rfl ?_
              refine Ev.step (j := 46) (s' := ([some (.ref a0), some (.ref 3), some (.int x2), some (.int z3), some (.int z23), none], [.long (w24 &&& ((1 : Int64) <<< (z23.toInt64 &&& 63)))], (0, 0), hp11)) rfl rfl ?_
              refine Ev.step (j := 47) (s' := ([some (.ref a0), some (.ref 3), some (.int x2), some (.int z3), some (.int z23), none], [.long (0 : Int64), .long (w24 &&& ((1 : Int64) <<< (z23.toInt64 &&& 63)))], (0, 0), hp11)) rfl rfl ?_
              refine bs_lcmpv rfl fun z25 hz25 => ?_
              exact by
               refine bs_ifeq rfl (fun c26 => ?_) (fun c26 => ?_)
               · skip
                 have c27 : z25.toInt = 0 := by omega
                 refine Ev.step (j := 58) (s' := ([some (.ref a0), some (.ref 3), some (.int x2), some (.int z3), some (.int z23), none], [.int x2], (0, 0), hp11)) rfl rfl ?_
                 refine bs_lit (k := 2) rfl rfl fun z28 hz28 => ?_
                 refine bs_eq rfl (fun c29 => ?_) (fun c29 => ?_)
                 · skip
                   have c30 : x2.toInt = 2 := by omega
                   refine bs_lit (k := 1) rfl rfl fun z31 hz31 => ?_
                   refine Ev.step (j := 72) (s' := ([some (.ref a0), some (.ref 3), some (.int x2), some (.int z3), some (.int z23), none], [.int z31], (0, 0), hp11)) rfl rfl ?_
                   exact by
                    refine Ev.step (j := 74) (s' := ([some (.ref a0), some (.ref 3), some (.int x2), some (.int z3), some (.int z23), some (.int z31)], [], (0, 0), hp11)) rfl rfl ?_
                    refine Ev.step (j := 75) (s' := ([some (.ref a0), some (.ref 3), some (.int x2), some (.int z3), some (.int z23), some (.int z31)], [.ref 3], (0, 0), hp11)) rfl rfl ?_
                    refine bs_lit (k := 0) rfl rfl fun z32 hz32 => ?_
                    refine Ev.step (j := 78) (s' := ([some (.ref a0), some (.ref 3), some (.int x2), some (.int z3), some (.int z23), some (.int z31)], [.int z31, .int z32, .ref 3], (0, 0), hp11)) rfl rfl ?_
                    refine bs_ifeq rfl (fun c33 => ?_) (fun c33 => ?_)
                    · exfalso; omega
                    · skip
                      refine bs_lit (k := 20) rfl rfl fun z34 hz34 => ?_
                      refine Ev.step (j := 89) (s' := ([some (.ref a0), some (.ref 3), some (.int x2), some (.int z3), some (.int z23), some (.int z31)], [.int z34, .int z32, .ref 3], (0, 0), hp11)) rfl rfl ?_
                      refine bs_callx (K := kq_X9_takeNumber_v) [.ref 3, .int z32, .int z34] [] rfl ce_X9_takeNumber_v Hhp11 rfl rfl rfl (bs_rcv (g := 9) Hhp11 (bs_R.uq Hhp11 (g := 9) rfl) (by decide) rfl) rfl ?_ (sf_S_nil) fun r35 hp36 thp36 Hhp36 fhp36 ahp36 php36 xhp36 => ?_
                      · intro q k h
                        match q, h with
                        | 0, h => cases h; exact bs_jR (bs_R.uq Hhp11 (g := 9) rfl)
                        | 1, h => cases h; exact sf_j0
                        | 2, h => cases h; exact sf_j0
                        | q + 3, h => cases h
                      obtain ⟨z37, rfl⟩ := bs_anI ahp36
                      have rgz37 := n_range z37
                      have Fhp36 := sf_fr_tr Fhp11 (sf_fr_wider (W := [(7, 12, 12), (9, 4, 9), (119, 0, 47)]) rfl fhp36)
                      have h38 : sf_rl hp36 a0 12 = some w24 := (sf_rl_cell (fhp36.2.2.2.1 _ (ra0.fr Fhp11).1 (by rw [(ra0.fr Fhp11).2]; rfl))).trans hw24
                      obtain ⟨uz37, vz37⟩ := bs_s1 (x := z37.toInt) rfl (php36 _ (List.mem_of_getElem? (i := 0) rfl))
                      refine (show Ev _ 92 ([some (.ref a0), some (.ref 3), some (.int x2), some (.int z3), some (.int z23), some (.int z31)], [.int z37], (0, 0), hp36) _ from ?_)
                      exact by
                       refine bs_ifne rfl (fun c39 => ?_) (fun c39 => ?_)
                       · skip
                         obtain ⟨y40, hy40, ly40, gy40⟩ := (xhp36 _ _ rfl).1 _ rfl (by omega)
                         refine Ev.step (j := 98) (s' := ([some (.ref a0), some (.ref 3), some (.int x2), some (.int z3), some (.int z23), some (.int z31)], [.ref a0], (0, 0), hp36)) rfl rfl ?_
                         refine Ev.step (j := 99) (s' := ([some (.ref a0), some (.ref 3), some (.int x2), some (.int z3), some (.int z23), some (.int z31)], [.ref a0, .ref a0], (0, 0), hp36)) rfl rfl ?_
                         refine bs_getLe (g := 7) rfl rfl Hhp36 (ra0.fr Fhp36) (by decide) rfl h38 ?_
                         refine Ev.step (j := 103) (s' := ([some (.ref a0), some (.ref 3), some (.int x2), some (.int z3), some (.int z23), some (.int z31)], [.long (1 : Int64), .long w24, .ref a0], (0, 0), hp36)) rfl rfl ?_
                         refine Ev.step (j := 105) (s' := ([some (.ref a0), some (.ref 3), some (.int x2), some (.int z3), some (.int z23), some (.int z31)], [.int z23, .long (1 : Int64), .long w24, .ref a0], (0, 0), hp36)) rfl rfl ?_
                         refine Ev.step (j := 106) (s' := ([some (.ref a0), some (.ref 3), some (.int x2), some (.int z3), some (.int z23), some (.int z31)], [.long ((1 : Int64) <<< (z23.toInt64 &&& 63)), .long w24, .ref a0], (0, 0), hp36)) rfl rfl ?_
                         exact by
                          refine Ev.step (j := 107) (s' := ([some (.ref a0), some (.ref 3), some (.int x2), some (.int z3), some (.int z23), some (.int z31)], [.long (w24 ||| ((1 : Int64) <<< (z23.toInt64 &&& 63))), .ref a0], (0, 0), hp36)) rfl rfl ?_
                          refine bs_putLv (W := [(7, 12, 12)]) (g := 7) rfl rfl Hhp36 (ra0.fr Fhp36) (by decide) rfl rfl rfl rfl fun hp41 Hhp41 fhp41 mhp41 lhp41 ehp41 qhp41 => ?_
                          have Fhp41 := sf_fr_tr Fhp36 (sf_fr_wider (W := [(7, 12, 12), (9, 4, 9), (119, 0, 47)]) rfl fhp41)
                          have h42 : sf_rd hp41 3 7 = some y40 := (ehp41 _ _).trans hy40
                          refine Ev.step (j := 111) (s' := ([some (.ref a0), some (.ref 3), some (.int x2), some (.int z3), some (.int z23), some (.int z31)], [.ref a0], (0, 0), hp41)) rfl rfl ?_
                          refine bs_getR (g := 7) (g1 := 119) rfl rfl Hhp41 (ra0.fr Fhp41) (by decide) rfl fun b43 qb43 rb43 => ?_
                          refine Ev.step (j := 116) (s' := ([some (.ref a0), some (.ref 3), some (.int x2), some (.int z3), some (.int z23), some (.int z31)], [.int z23, .ref b43], (0, 0), hp41)) rfl rfl ?_
                          refine Ev.step (j := 117) (s' := ([some (.ref a0), some (.ref 3), some (.int x2), some (.int z3), some (.int z23), some (.int z31)], [.ref 3, .int z23, .ref b43], (0, 0), hp41)) rfl rfl ?_
                          exact by
                           refine bs_getI 9 rfl rfl rfl Hhp41 (bs_R.uq Hhp41 (g := 9) rfl) (by decide) rfl fun z44 hz44 lz44 gz44 => ?_
                           have e45 : z44.toInt = y40 := Option.some.inj (hz44.symm.trans h42)
                           refine bs_stv (W := [(119, 0, 47)]) (g := 119) 0 47 (0, 250) rfl Hhp41 rb43 (by decide) rfl rfl (by decide) rfl rfl (by omega) (by omega) (by dsimp only; omega) (by dsimp only; omega) fun hp46 Hhp46 fhp46 rhp46 ehp46 qhp46 nhp46 => ?_
                           have Fhp46 := sf_fr_tr Fhp41 (sf_fr_wider (W := [(7, 12, 12), (9, 4, 9), (119, 0, 47)]) rfl fhp46)
                           have h47 : sf_rd hp46 3 7 = some y40 := (ehp46 _ _ (Or.inl (bs_nq (bs_R.uq Hhp41 (g := 9) rfl) rb43 (by decide)))).trans h42
                           have h48 : sf_rl hp46 a0 12 = some (w24 ||| ((1 : Int64) <<< (z23.toInt64 &&& 63))) := (nhp46 _ _).trans mhp41
                           have r49 := rb43.fr fhp46
                           refine bs_lit (k := 1) rfl rfl fun z50 hz50 => ?_
                           exact bs_zret rfl rfl (by omega) (by omega) (by rw [hQ]; exact ⟨thp36, Hhp46, Fhp46, bs_an0, sf_S_cons (sf_s1 (x := z50.toInt) rfl (by omega) (by omega)) (sf_S_nil), (fun a s B n lim m j x ha hS hC hj hpl h9 => by
                                   have EX : x = x2 := by cases ha; rfl
                                   subst EX
                                   cases ha
                                   obtain ⟨q1, rq1, X1⟩ := xhp2 _ s B n lim m (j + 1) rfl hS hC hj
                                   obtain rfl := Value.int.inj (Option.some.inj rq1)
                                   show LRES _ _ _ _ _ _ _ (lold (tok B n lim) s 0 (s.h 0) (j + 1) _)
                                   obtain ⟨Y0, Y1, Y2, Y3, Y4, Y5⟩ := X1.resolve_right (fun h => absurd h.1 (by omega))
                                   rw [lold_o Y2 (by omega)]
                                   have J2 : j + 2 < m := CK_more Y3.1 hj (by omega) (by omega)
                                   obtain ⟨q2, rq2, X2⟩ := (xhp11 _ _ rfl).2 B n lim m (j + 2) Y3 J2
                                   obtain rfl := Value.int.inj (Option.some.inj rq2)
                                   obtain ⟨Z0, Z1, Z2, Z3, Z4, Z5, Z6⟩ := X2.resolve_right (fun h => absurd h.1 (by omega))
                                   rw [lnum_o Z1 (by omega) (by omega)]
                                   have S1 := SC_fr H ra0 hS fhp2 rfl rfl
                                   have S2 := SC_fr Hhp2 (ra0.fr fhp2) S1 fhp11 rfl rfl
                                   have VD : y14 = (tok B n lim (j + 2)).v := Option.some.inj (hy14.symm.trans (Z4.2.2.1 Z1))
                                   obtain ⟨A9, hA9, hB9⟩ := S2.tl
                                   have EA : w24 = A9 := Option.some.inj (hw24.symm.trans hA9)
                                   have IX : z23.toInt = (((12 * x.toInt.toNat + (2 * fnd s.nm 0 (s.h 0) (tok B n lim (j + 1)).v + (tok B n lim (j + 2)).v).toNat) : Nat) : Int) := by omega
                                   have IB : (12 * x.toInt.toNat + (2 * fnd s.nm 0 (s.h 0) (tok B n lim (j + 1)).v + (tok B n lim (j + 2)).v).toNat) < 48 := by omega
                                   have LB := lb_and (A := w24) IX IB
                                   have NT_ : lb w24 (12 * x.toInt.toNat + (2 * fnd s.nm 0 (s.h 0) (tok B n lim (j + 1)).v + (tok B n lim (j + 2)).v).toNat) = false := LB.mp (hz25.mp (by omega))
                                   rw [if_neg (by rw [← hB9 _ IB, ← EA, NT_]; decide)]
                                   have J3 : j + 3 < m := CK_more Z5.1 J2 (by omega) (by omega)
                                   obtain ⟨q3, rq3, X3⟩ := (xhp36 _ _ rfl).2 B n lim m (j + 3) Z5 J3
                                   obtain rfl := Value.int.inj (Option.some.inj rq3)
                                   rw [show (if x.toInt.toNat = 2 ∨ x.toInt.toNat = 3 then (20 : Int) else 250) = 20 from if_pos (by omega)]
                                   obtain ⟨V0, V1, V2, V3, V4, V5, V6⟩ := X3.resolve_right (fun h => absurd h.1 (by omega))
                                   rw [lnum_o V1 (by omega) (by omega)]
                                   have S1 := SC_fr H ra0 hS fhp2 rfl rfl
                                   have S2 := SC_fr Hhp2 (ra0.fr fhp2) S1 fhp11 rfl rfl
                                   have S3 := SC_fr Hhp11 ((ra0.fr fhp2).fr fhp11) S2 fhp36 rfl rfl
                                   have C1 := TKS_fr Hhp36 V5.1 fhp41 rfl rfl rfl rfl
                                   have C2 := TKS_fr Hhp41 C1 fhp46 rfl rfl rfl rfl
                                   have VV : y40 = (tok B n lim (j + 3)).v := Option.some.inj (h42.symm.trans (((ehp41 _ _)).trans (V4.2.2.1 V1)))
                                   have EB3 := rrD_of ((qhp41 _ _).symm.trans qb43)
                                   have EI : (12 * x.toInt.toNat + (2 * fnd s.nm 0 (s.h 0) (tok B n lim (j + 1)).v + (tok B n lim (j + 2)).v).toNat) = z23.toInt.toNat := by omega
                                   exact LRES_ok ⟨z50, rfl, by omega⟩ (SC_amt Hhp36 (((ra0.fr fhp2).fr fhp11).fr fhp36) S3 IB (fun k => ((qhp46 _ _).trans (qhp41 _ _))) h48 (fun i hi => by rw [lb_or IX IB hi, ups_or, EA, hB9 i hi]) (fun b q h => (nhp46 _ _).trans (lhp41 _ _ h)) (fun b q h => (ehp46 _ _ (by rw [EB3, EI] at h; exact h)).trans (ehp41 _ _)) (by rw [EB3, EI]; exact rhp46.trans (congrArg some (by omega)))) ⟨C2, (((ehp46 _ _ (Or.inl (bs_nq (bs_R.uq Hhp41 (g := 9) rfl) rb43 (by decide)))).trans (ehp41 _ _))).trans V5.2.1, V5.2.2⟩ ((((ehp46 _ _ (Or.inl (bs_nq (bs_R.uq Hhp41 (g := 9) rfl) rb43 (by decide)))).trans (ehp41 _ _))).trans (V6.trans (Z6.trans (Y4.trans h9)))) (CK_more V5.1 J3 (by omega) (by omega)))⟩)
                       · skip
                         have c51 : z37.toInt = 0 := by omega
                         refine bs_lit (k := 0) rfl rfl fun z52 hz52 => ?_
                         exact bs_zret rfl rfl (by omega) (by omega) (by rw [hQ]; exact ⟨thp36, Hhp36, Fhp36, bs_an0, sf_S_cons (sf_s1 (x := z52.toInt) rfl (by omega) (by omega)) (sf_S_nil), (fun a s B n lim m j x ha hS hC hj hpl h9 => by
                                 have EX : x = x2 := by cases ha; rfl
                                 subst EX
                                 cases ha
                                 obtain ⟨q1, rq1, X1⟩ := xhp2 _ s B n lim m (j + 1) rfl hS hC hj
                                 obtain rfl := Value.int.inj (Option.some.inj rq1)
                                 show LRES _ _ _ _ _ _ _ (lold (tok B n lim) s 0 (s.h 0) (j + 1) _)
                                 obtain ⟨Y0, Y1, Y2, Y3, Y4, Y5⟩ := X1.resolve_right (fun h => absurd h.1 (by omega))
                                 rw [lold_o Y2 (by omega)]
                                 have J2 : j + 2 < m := CK_more Y3.1 hj (by omega) (by omega)
                                 obtain ⟨q2, rq2, X2⟩ := (xhp11 _ _ rfl).2 B n lim m (j + 2) Y3 J2
                                 obtain rfl := Value.int.inj (Option.some.inj rq2)
                                 obtain ⟨Z0, Z1, Z2, Z3, Z4, Z5, Z6⟩ := X2.resolve_right (fun h => absurd h.1 (by omega))
                                 rw [lnum_o Z1 (by omega) (by omega)]
                                 have S1 := SC_fr H ra0 hS fhp2 rfl rfl
                                 have S2 := SC_fr Hhp2 (ra0.fr fhp2) S1 fhp11 rfl rfl
                                 have VD : y14 = (tok B n lim (j + 2)).v := Option.some.inj (hy14.symm.trans (Z4.2.2.1 Z1))
                                 obtain ⟨A9, hA9, hB9⟩ := S2.tl
                                 have EA : w24 = A9 := Option.some.inj (hw24.symm.trans hA9)
                                 have IX : z23.toInt = (((12 * x.toInt.toNat + (2 * fnd s.nm 0 (s.h 0) (tok B n lim (j + 1)).v + (tok B n lim (j + 2)).v).toNat) : Nat) : Int) := by omega
                                 have IB : (12 * x.toInt.toNat + (2 * fnd s.nm 0 (s.h 0) (tok B n lim (j + 1)).v + (tok B n lim (j + 2)).v).toNat) < 48 := by omega
                                 have LB := lb_and (A := w24) IX IB
                                 have NT_ : lb w24 (12 * x.toInt.toNat + (2 * fnd s.nm 0 (s.h 0) (tok B n lim (j + 1)).v + (tok B n lim (j + 2)).v).toNat) = false := LB.mp (hz25.mp (by omega))
                                 rw [if_neg (by rw [← hB9 _ IB, ← EA, NT_]; decide)]
                                 have J3 : j + 3 < m := CK_more Z5.1 J2 (by omega) (by omega)
                                 obtain ⟨q3, rq3, X3⟩ := (xhp36 _ _ rfl).2 B n lim m (j + 3) Z5 J3
                                 obtain rfl := Value.int.inj (Option.some.inj rq3)
                                 rw [show (if x.toInt.toNat = 2 ∨ x.toInt.toNat = 3 then (20 : Int) else 250) = 20 from if_pos (by omega)]
                                 rcases X3.resolve_left (fun h => absurd h.1 (by omega)) with ⟨_, P1, ⟨P2, P3⟩ | ⟨P2, P4, P3⟩⟩
                                 · rw [lnum_1 P2]
                                   exact LRES_bad ⟨z52, rfl, by omega⟩ (P3) (P1)
                                 · rw [lnum_2 P2 (by omega)]
                                   exact LRES_bad ⟨z52, rfl, by omega⟩ (P3) (P1))⟩)
                 · skip
                   refine Ev.step (j := 63) (s' := ([some (.ref a0), some (.ref 3), some (.int x2), some (.int z3), some (.int z23), none], [.int x2], (0, 0), hp11)) rfl rfl ?_
                   exact by
                    refine bs_lit (k := 3) rfl rfl fun z53 hz53 => ?_
                    refine bs_ne rfl (fun c54 => ?_) (fun c54 => ?_)
                    · skip
                      refine bs_lit (k := 0) rfl rfl fun z55 hz55 => ?_
                      refine Ev.step (j := 74) (s' := ([some (.ref a0), some (.ref 3), some (.int x2), some (.int z3), some (.int z23), some (.int z55)], [], (0, 0), hp11)) rfl rfl ?_
                      refine Ev.step (j := 75) (s' := ([some (.ref a0), some (.ref 3), some (.int x2), some (.int z3), some (.int z23), some (.int z55)], [.ref 3], (0, 0), hp11)) rfl rfl ?_
                      refine bs_lit (k := 0) rfl rfl fun z56 hz56 => ?_
                      refine Ev.step (j := 78) (s' := ([some (.ref a0), some (.ref 3), some (.int x2), some (.int z3), some (.int z23), some (.int z55)], [.int z55, .int z56, .ref 3], (0, 0), hp11)) rfl rfl ?_
                      refine bs_ifeq rfl (fun c57 => ?_) (fun c57 => ?_)
                      · skip
                        refine bs_lit (k := 250) rfl rfl fun z58 hz58 => ?_
                        exact by
                         refine bs_callx (K := kq_X9_takeNumber_v) [.ref 3, .int z56, .int z58] [] rfl ce_X9_takeNumber_v Hhp11 rfl rfl rfl (bs_rcv (g := 9) Hhp11 (bs_R.uq Hhp11 (g := 9) rfl) (by decide) rfl) rfl ?_ (sf_S_nil) fun r59 hp60 thp60 Hhp60 fhp60 ahp60 php60 xhp60 => ?_
                         · intro q k h
                           match q, h with
                           | 0, h => cases h; exact bs_jR (bs_R.uq Hhp11 (g := 9) rfl)
                           | 1, h => cases h; exact sf_j0
                           | 2, h => cases h; exact sf_j0
                           | q + 3, h => cases h
                         obtain ⟨z61, rfl⟩ := bs_anI ahp60
                         have rgz61 := n_range z61
                         have Fhp60 := sf_fr_tr Fhp11 (sf_fr_wider (W := [(7, 12, 12), (9, 4, 9), (119, 0, 47)]) rfl fhp60)
                         have h62 : sf_rl hp60 a0 12 = some w24 := (sf_rl_cell (fhp60.2.2.2.1 _ (ra0.fr Fhp11).1 (by rw [(ra0.fr Fhp11).2]; rfl))).trans hw24
                         obtain ⟨uz61, vz61⟩ := bs_s1 (x := z61.toInt) rfl (php60 _ (List.mem_of_getElem? (i := 0) rfl))
                         refine (show Ev _ 92 ([some (.ref a0), some (.ref 3), some (.int x2), some (.int z3), some (.int z23), some (.int z55)], [.int z61], (0, 0), hp60) _ from ?_)
                         refine bs_ifne rfl (fun c63 => ?_) (fun c63 => ?_)
                         · skip
                           obtain ⟨y64, hy64, ly64, gy64⟩ := (xhp60 _ _ rfl).1 _ rfl (by omega)
                           refine Ev.step (j := 98) (s' := ([some (.ref a0), some (.ref 3), some (.int x2), some (.int z3), some (.int z23), some (.int z55)], [.ref a0], (0, 0), hp60)) rfl rfl ?_
                           exact by
                            refine Ev.step (j := 99) (s' := ([some (.ref a0), some (.ref 3), some (.int x2), some (.int z3), some (.int z23), some (.int z55)], [.ref a0, .ref a0], (0, 0), hp60)) rfl rfl ?_
                            refine bs_getLe (g := 7) rfl rfl Hhp60 (ra0.fr Fhp60) (by decide) rfl h62 ?_
                            refine Ev.step (j := 103) (s' := ([some (.ref a0), some (.ref 3), some (.int x2), some (.int z3), some (.int z23), some (.int z55)], [.long (1 : Int64), .long w24, .ref a0], (0, 0), hp60)) rfl rfl ?_
                            refine Ev.step (j := 105) (s' := ([some (.ref a0), some (.ref 3), some (.int x2), some (.int z3), some (.int z23), some (.int z55)], [.int z23, .long (1 : Int64), .long w24, .ref a0], (0, 0), hp60)) rfl rfl ?_
                            refine Ev.step (j := 106) (s' := ([some (.ref a0), some (.ref 3), some (.int x2), some (.int z3), some (.int z23), some (.int z55)], [.long ((1 : Int64) <<< (z23.toInt64 &&& 63)), .long w24, .ref a0], (0, 0), hp60)) rfl rfl ?_
                            refine Ev.step (j := 107) (s' := ([some (.ref a0), some (.ref 3), some (.int x2), some (.int z3), some (.int z23), some (.int z55)], [.long (w24 ||| ((1 : Int64) <<< (z23.toInt64 &&& 63))), .ref a0], (0, 0), hp60)) rfl rfl ?_
                            refine bs_putLv (W := [(7, 12, 12)]) (g := 7) rfl rfl Hhp60 (ra0.fr Fhp60) (by decide) rfl rfl rfl rfl fun hp65 Hhp65 fhp65 mhp65 lhp65 ehp65 qhp65 => ?_
                            have Fhp65 := sf_fr_tr Fhp60 (sf_fr_wider (W := [(7, 12, 12), (9, 4, 9), (119, 0, 47)]) rfl fhp65)
                            have h66 : sf_rd hp65 3 7 = some y64 := (ehp65 _ _).trans hy64
                            refine Ev.step (j := 111) (s' := ([some (.ref a0), some (.ref 3), some (.int x2), some (.int z3), some (.int z23), some (.int z55)], [.ref a0], (0, 0), hp65)) rfl rfl ?_
                            exact by
                             refine bs_getR (g := 7) (g1 := 119) rfl rfl Hhp65 (ra0.fr Fhp65) (by decide) rfl fun b67 qb67 rb67 => ?_
                             refine Ev.step (j := 116) (s' := ([some (.ref a0), some (.ref 3), some (.int x2), some (.int z3), some (.int z23), some (.int z55)], [.int z23, .ref b67], (0, 0), hp65)) rfl rfl ?_
                             refine Ev.step (j := 117) (s' := ([some (.ref a0), some (.ref 3), some (.int x2), some (.int z3), some (.int z23), some (.int z55)], [.ref 3, .int z23, .ref b67], (0, 0), hp65)) rfl rfl ?_
                             refine bs_getI 9 rfl rfl rfl Hhp65 (bs_R.uq Hhp65 (g := 9) rfl) (by decide) rfl fun z68 hz68 lz68 gz68 => ?_
                             have e69 : z68.toInt = y64 := Option.some.inj (hz68.symm.trans h66)
                             refine bs_stv (W := [(119, 0, 47)]) (g := 119) 0 47 (0, 250) rfl Hhp65 rb67 (by decide) rfl rfl (by decide) rfl rfl (by omega) (by omega) (by dsimp only; omega) (by dsimp only; omega) fun hp70 Hhp70 fhp70 rhp70 ehp70 qhp70 nhp70 => ?_
                             have Fhp70 := sf_fr_tr Fhp65 (sf_fr_wider (W := [(7, 12, 12), (9, 4, 9), (119, 0, 47)]) rfl fhp70)
                             have h71 : sf_rd hp70 3 7 = some y64 := (ehp70 _ _ (Or.inl (bs_nq (bs_R.uq Hhp65 (g := 9) rfl) rb67 (by decide)))).trans h66
                             have h72 : sf_rl hp70 a0 12 = some (w24 ||| ((1 : Int64) <<< (z23.toInt64 &&& 63))) := (nhp70 _ _).trans mhp65
                             have r73 := rb67.fr fhp70
                             refine bs_lit (k := 1) rfl rfl fun z74 hz74 => ?_
                             exact bs_zret rfl rfl (by omega) (by omega) (by rw [hQ]; exact ⟨thp60, Hhp70, Fhp70, bs_an0, sf_S_cons (sf_s1 (x := z74.toInt) rfl (by omega) (by omega)) (sf_S_nil), (fun a s B n lim m j x ha hS hC hj hpl h9 => by
                                     have EX : x = x2 := by cases ha; rfl
                                     subst EX
                                     cases ha
                                     obtain ⟨q1, rq1, X1⟩ := xhp2 _ s B n lim m (j + 1) rfl hS hC hj
                                     obtain rfl := Value.int.inj (Option.some.inj rq1)
                                     show LRES _ _ _ _ _ _ _ (lold (tok B n lim) s 0 (s.h 0) (j + 1) _)
                                     obtain ⟨Y0, Y1, Y2, Y3, Y4, Y5⟩ := X1.resolve_right (fun h => absurd h.1 (by omega))
                                     rw [lold_o Y2 (by omega)]
                                     have J2 : j + 2 < m := CK_more Y3.1 hj (by omega) (by omega)
                                     obtain ⟨q2, rq2, X2⟩ := (xhp11 _ _ rfl).2 B n lim m (j + 2) Y3 J2
                                     obtain rfl := Value.int.inj (Option.some.inj rq2)
                                     obtain ⟨Z0, Z1, Z2, Z3, Z4, Z5, Z6⟩ := X2.resolve_right (fun h => absurd h.1 (by omega))
                                     rw [lnum_o Z1 (by omega) (by omega)]
                                     have S1 := SC_fr H ra0 hS fhp2 rfl rfl
                                     have S2 := SC_fr Hhp2 (ra0.fr fhp2) S1 fhp11 rfl rfl
                                     have VD : y14 = (tok B n lim (j + 2)).v := Option.some.inj (hy14.symm.trans (Z4.2.2.1 Z1))
                                     obtain ⟨A9, hA9, hB9⟩ := S2.tl
                                     have EA : w24 = A9 := Option.some.inj (hw24.symm.trans hA9)
                                     have IX : z23.toInt = (((12 * x.toInt.toNat + (2 * fnd s.nm 0 (s.h 0) (tok B n lim (j + 1)).v + (tok B n lim (j + 2)).v).toNat) : Nat) : Int) := by omega
                                     have IB : (12 * x.toInt.toNat + (2 * fnd s.nm 0 (s.h 0) (tok B n lim (j + 1)).v + (tok B n lim (j + 2)).v).toNat) < 48 := by omega
                                     have LB := lb_and (A := w24) IX IB
                                     have NT_ : lb w24 (12 * x.toInt.toNat + (2 * fnd s.nm 0 (s.h 0) (tok B n lim (j + 1)).v + (tok B n lim (j + 2)).v).toNat) = false := LB.mp (hz25.mp (by omega))
                                     rw [if_neg (by rw [← hB9 _ IB, ← EA, NT_]; decide)]
                                     have J3 : j + 3 < m := CK_more Z5.1 J2 (by omega) (by omega)
                                     obtain ⟨q3, rq3, X3⟩ := (xhp60 _ _ rfl).2 B n lim m (j + 3) Z5 J3
                                     obtain rfl := Value.int.inj (Option.some.inj rq3)
                                     rw [show (if x.toInt.toNat = 2 ∨ x.toInt.toNat = 3 then (20 : Int) else 250) = 250 from if_neg (by omega)]
                                     obtain ⟨V0, V1, V2, V3, V4, V5, V6⟩ := X3.resolve_right (fun h => absurd h.1 (by omega))
                                     rw [lnum_o V1 (by omega) (by omega)]
                                     have S1 := SC_fr H ra0 hS fhp2 rfl rfl
                                     have S2 := SC_fr Hhp2 (ra0.fr fhp2) S1 fhp11 rfl rfl
                                     have S3 := SC_fr Hhp11 ((ra0.fr fhp2).fr fhp11) S2 fhp60 rfl rfl
                                     have C1 := TKS_fr Hhp60 V5.1 fhp65 rfl rfl rfl rfl
                                     have C2 := TKS_fr Hhp65 C1 fhp70 rfl rfl rfl rfl
                                     have VV : y64 = (tok B n lim (j + 3)).v := Option.some.inj (h66.symm.trans (((ehp65 _ _)).trans (V4.2.2.1 V1)))
                                     have EB3 := rrD_of ((qhp65 _ _).symm.trans qb67)
                                     have EI : (12 * x.toInt.toNat + (2 * fnd s.nm 0 (s.h 0) (tok B n lim (j + 1)).v + (tok B n lim (j + 2)).v).toNat) = z23.toInt.toNat := by omega
                                     exact LRES_ok ⟨z74, rfl, by omega⟩ (SC_amt Hhp60 (((ra0.fr fhp2).fr fhp11).fr fhp60) S3 IB (fun k => ((qhp70 _ _).trans (qhp65 _ _))) h72 (fun i hi => by rw [lb_or IX IB hi, ups_or, EA, hB9 i hi]) (fun b q h => (nhp70 _ _).trans (lhp65 _ _ h)) (fun b q h => (ehp70 _ _ (by rw [EB3, EI] at h; exact h)).trans (ehp65 _ _)) (by rw [EB3, EI]; exact rhp70.trans (congrArg some (by omega)))) ⟨C2, (((ehp70 _ _ (Or.inl (bs_nq (bs_R.uq Hhp65 (g := 9) rfl) rb67 (by decide)))).trans (ehp65 _ _))).trans V5.2.1, V5.2.2⟩ ((((ehp70 _ _ (Or.inl (bs_nq (bs_R.uq Hhp65 (g := 9) rfl) rb67 (by decide)))).trans (ehp65 _ _))).trans (V6.trans (Z6.trans (Y4.trans h9)))) (CK_more V5.1 J3 (by omega) (by omega)))⟩)
                         · skip
                           have c75 : z61.toInt = 0 := by omega
                           refine bs_lit (k := 0) rfl rfl fun z76 hz76 => ?_
                           exact bs_zret rfl rfl (by omega) (by omega) (by rw [hQ]; exact ⟨thp60, Hhp60, Fhp60, bs_an0, sf_S_cons (sf_s1 (x := z76.toInt) rfl (by omega) (by omega)) (sf_S_nil), (fun a s B n lim m j x ha hS hC hj hpl h9 => by
                                   have EX : x = x2 := by cases ha; rfl
                                   subst EX
                                   cases ha
                                   obtain ⟨q1, rq1, X1⟩ := xhp2 _ s B n lim m (j + 1) rfl hS hC hj
                                   obtain rfl := Value.int.inj (Option.some.inj rq1)
                                   show LRES _ _ _ _ _ _ _ (lold (tok B n lim) s 0 (s.h 0) (j + 1) _)
                                   obtain ⟨Y0, Y1, Y2, Y3, Y4, Y5⟩ := X1.resolve_right (fun h => absurd h.1 (by omega))
                                   rw [lold_o Y2 (by omega)]
                                   have J2 : j + 2 < m := CK_more Y3.1 hj (by omega) (by omega)
                                   obtain ⟨q2, rq2, X2⟩ := (xhp11 _ _ rfl).2 B n lim m (j + 2) Y3 J2
                                   obtain rfl := Value.int.inj (Option.some.inj rq2)
                                   obtain ⟨Z0, Z1, Z2, Z3, Z4, Z5, Z6⟩ := X2.resolve_right (fun h => absurd h.1 (by omega))
                                   rw [lnum_o Z1 (by omega) (by omega)]
                                   have S1 := SC_fr H ra0 hS fhp2 rfl rfl
                                   have S2 := SC_fr Hhp2 (ra0.fr fhp2) S1 fhp11 rfl rfl
                                   have VD : y14 = (tok B n lim (j + 2)).v := Option.some.inj (hy14.symm.trans (Z4.2.2.1 Z1))
                                   obtain ⟨A9, hA9, hB9⟩ := S2.tl
                                   have EA : w24 = A9 := Option.some.inj (hw24.symm.trans hA9)
                                   have IX : z23.toInt = (((12 * x.toInt.toNat + (2 * fnd s.nm 0 (s.h 0) (tok B n lim (j + 1)).v + (tok B n lim (j + 2)).v).toNat) : Nat) : Int) := by omega
                                   have IB : (12 * x.toInt.toNat + (2 * fnd s.nm 0 (s.h 0) (tok B n lim (j + 1)).v + (tok B n lim (j + 2)).v).toNat) < 48 := by omega
                                   have LB := lb_and (A := w24) IX IB
                                   have NT_ : lb w24 (12 * x.toInt.toNat + (2 * fnd s.nm 0 (s.h 0) (tok B n lim (j + 1)).v + (tok B n lim (j + 2)).v).toNat) = false := LB.mp (hz25.mp (by omega))
                                   rw [if_neg (by rw [← hB9 _ IB, ← EA, NT_]; decide)]
                                   have J3 : j + 3 < m := CK_more Z5.1 J2 (by omega) (by omega)
                                   obtain ⟨q3, rq3, X3⟩ := (xhp60 _ _ rfl).2 B n lim m (j + 3) Z5 J3
                                   obtain rfl := Value.int.inj (Option.some.inj rq3)
                                   rw [show (if x.toInt.toNat = 2 ∨ x.toInt.toNat = 3 then (20 : Int) else 250) = 250 from if_neg (by omega)]
                                   rcases X3.resolve_left (fun h => absurd h.1 (by omega)) with ⟨_, P1, ⟨P2, P3⟩ | ⟨P2, P4, P3⟩⟩
                                   · rw [lnum_1 P2]
                                     exact LRES_bad ⟨z76, rfl, by omega⟩ (P3) (P1)
                                   · rw [lnum_2 P2 (by omega)]
                                     exact LRES_bad ⟨z76, rfl, by omega⟩ (P3) (P1))⟩)
                      · exfalso; omega
                    · skip
                      have c77 : x2.toInt = 3 := by omega
                      refine bs_lit (k := 1) rfl rfl fun z78 hz78 => ?_
                      exact by
                       refine Ev.step (j := 72) (s' := ([some (.ref a0), some (.ref 3), some (.int x2), some (.int z3), some (.int z23), none], [.int z78], (0, 0), hp11)) rfl rfl ?_
                       refine Ev.step (j := 74) (s' := ([some (.ref a0), some (.ref 3), some (.int x2), some (.int z3), some (.int z23), some (.int z78)], [], (0, 0), hp11)) rfl rfl ?_
                       refine Ev.step (j := 75) (s' := ([some (.ref a0), some (.ref 3), some (.int x2), some (.int z3), some (.int z23), some (.int z78)], [.ref 3], (0, 0), hp11)) rfl rfl ?_
                       refine bs_lit (k := 0) rfl rfl fun z79 hz79 => ?_
                       refine Ev.step (j := 78) (s' := ([some (.ref a0), some (.ref 3), some (.int x2), some (.int z3), some (.int z23), some (.int z78)], [.int z78, .int z79, .ref 3], (0, 0), hp11)) rfl rfl ?_
                       refine bs_ifeq rfl (fun c80 => ?_) (fun c80 => ?_)
                       · exfalso; omega
                       · skip
                         refine bs_lit (k := 20) rfl rfl fun z81 hz81 => ?_
                         refine Ev.step (j := 89) (s' := ([some (.ref a0), some (.ref 3), some (.int x2), some (.int z3), some (.int z23), some (.int z78)], [.int z81, .int z79, .ref 3], (0, 0), hp11)) rfl rfl ?_
                         exact by
                          refine bs_callx (K := kq_X9_takeNumber_v) [.ref 3, .int z79, .int z81] [] rfl ce_X9_takeNumber_v Hhp11 rfl rfl rfl (bs_rcv (g := 9) Hhp11 (bs_R.uq Hhp11 (g := 9) rfl) (by decide) rfl) rfl ?_ (sf_S_nil) fun r82 hp83 thp83 Hhp83 fhp83 ahp83 php83 xhp83 => ?_
                          · intro q k h
                            match q, h with
                            | 0, h => cases h; exact bs_jR (bs_R.uq Hhp11 (g := 9) rfl)
                            | 1, h => cases h; exact sf_j0
                            | 2, h => cases h; exact sf_j0
                            | q + 3, h => cases h
                          obtain ⟨z84, rfl⟩ := bs_anI ahp83
                          have rgz84 := n_range z84
                          have Fhp83 := sf_fr_tr Fhp11 (sf_fr_wider (W := [(7, 12, 12), (9, 4, 9), (119, 0, 47)]) rfl fhp83)
                          have h85 : sf_rl hp83 a0 12 = some w24 := (sf_rl_cell (fhp83.2.2.2.1 _ (ra0.fr Fhp11).1 (by rw [(ra0.fr Fhp11).2]; rfl))).trans hw24
                          obtain ⟨uz84, vz84⟩ := bs_s1 (x := z84.toInt) rfl (php83 _ (List.mem_of_getElem? (i := 0) rfl))
                          refine (show Ev _ 92 ([some (.ref a0), some (.ref 3), some (.int x2), some (.int z3), some (.int z23), some (.int z78)], [.int z84], (0, 0), hp83) _ from ?_)
                          refine bs_ifne rfl (fun c86 => ?_) (fun c86 => ?_)
                          · skip
                            obtain ⟨y87, hy87, ly87, gy87⟩ := (xhp83 _ _ rfl).1 _ rfl (by omega)
                            refine Ev.step (j := 98) (s' := ([some (.ref a0), some (.ref 3), some (.int x2), some (.int z3), some (.int z23), some (.int z78)], [.ref a0], (0, 0), hp83)) rfl rfl ?_
                            exact by
                             refine Ev.step (j := 99) (s' := ([some (.ref a0), some (.ref 3), some (.int x2), some (.int z3), some (.int z23), some (.int z78)], [.ref a0, .ref a0], (0, 0), hp83)) rfl rfl ?_
                             refine bs_getLe (g := 7) rfl rfl Hhp83 (ra0.fr Fhp83) (by decide) rfl h85 ?_
                             refine Ev.step (j := 103) (s' := ([some (.ref a0), some (.ref 3), some (.int x2), some (.int z3), some (.int z23), some (.int z78)], [.long (1 : Int64), .long w24, .ref a0], (0, 0), hp83)) rfl rfl ?_
                             refine Ev.step (j := 105) (s' := ([some (.ref a0), some (.ref 3), some (.int x2), some (.int z3), some (.int z23), some (.int z78)], [.int z23, .long (1 : Int64), .long w24, .ref a0], (0, 0), hp83)) rfl rfl ?_
                             refine Ev.step (j := 106) (s' := ([some (.ref a0), some (.ref 3), some (.int x2), some (.int z3), some (.int z23), some (.int z78)], [.long ((1 : Int64) <<< (z23.toInt64 &&& 63)), .long w24, .ref a0], (0, 0), hp83)) rfl rfl ?_
                             refine Ev.step (j := 107) (s' := ([some (.ref a0), some (.ref 3), some (.int x2), some (.int z3), some (.int z23), some (.int z78)], [.long (w24 ||| ((1 : Int64) <<< (z23.toInt64 &&& 63))), .ref a0], (0, 0), hp83)) rfl rfl ?_
                             refine bs_putLv (W := [(7, 12, 12)]) (g := 7) rfl rfl Hhp83 (ra0.fr Fhp83) (by decide) rfl rfl rfl rfl fun hp88 Hhp88 fhp88 mhp88 lhp88 ehp88 qhp88 => ?_
                             have Fhp88 := sf_fr_tr Fhp83 (sf_fr_wider (W := [(7, 12, 12), (9, 4, 9), (119, 0, 47)]) rfl fhp88)
                             have h89 : sf_rd hp88 3 7 = some y87 := (ehp88 _ _).trans hy87
                             refine Ev.step (j := 111) (s' := ([some (.ref a0), some (.ref 3), some (.int x2), some (.int z3), some (.int z23), some (.int z78)], [.ref a0], (0, 0), hp88)) rfl rfl ?_
                             exact by
                              refine bs_getR (g := 7) (g1 := 119) rfl rfl Hhp88 (ra0.fr Fhp88) (by decide) rfl fun b90 qb90 rb90 => ?_
                              refine Ev.step (j := 116) (s' := ([some (.ref a0), some (.ref 3), some (.int x2), some (.int z3), some (.int z23), some (.int z78)], [.int z23, .ref b90], (0, 0), hp88)) rfl rfl ?_
                              refine Ev.step (j := 117) (s' := ([some (.ref a0), some (.ref 3), some (.int x2), some (.int z3), some (.int z23), some (.int z78)], [.ref 3, .int z23, .ref b90], (0, 0), hp88)) rfl rfl ?_
                              refine bs_getI 9 rfl rfl rfl Hhp88 (bs_R.uq Hhp88 (g := 9) rfl) (by decide) rfl fun z91 hz91 lz91 gz91 => ?_
                              have e92 : z91.toInt = y87 := Option.some.inj (hz91.symm.trans h89)
                              refine bs_stv (W := [(119, 0, 47)]) (g := 119) 0 47 (0, 250) rfl Hhp88 rb90 (by decide) rfl rfl (by decide) rfl rfl (by omega) (by omega) (by dsimp only; omega) (by dsimp only; omega) fun hp93 Hhp93 fhp93 rhp93 ehp93 qhp93 nhp93 => ?_
                              have Fhp93 := sf_fr_tr Fhp88 (sf_fr_wider (W := [(7, 12, 12), (9, 4, 9), (119, 0, 47)]) rfl fhp93)
                              have h94 : sf_rd hp93 3 7 = some y87 := (ehp93 _ _ (Or.inl (bs_nq (bs_R.uq Hhp88 (g := 9) rfl) rb90 (by decide)))).trans h89
                              have h95 : sf_rl hp93 a0 12 = some (w24 ||| ((1 : Int64) <<< (z23.toInt64 &&& 63))) := (nhp93 _ _).trans mhp88
                              have r96 := rb90.fr fhp93
                              refine bs_lit (k := 1) rfl rfl fun z97 hz97 => ?_
                              exact bs_zret rfl rfl (by omega) (by omega) (by rw [hQ]; exact ⟨thp83, Hhp93, Fhp93, bs_an0, sf_S_cons (sf_s1 (x := z97.toInt) rfl (by omega) (by omega)) (sf_S_nil), (fun a s B n lim m j x ha hS hC hj hpl h9 => by
                                      have EX : x = x2 := by cases ha; rfl
                                      subst EX
                                      cases ha
                                      obtain ⟨q1, rq1, X1⟩ := xhp2 _ s B n lim m (j + 1) rfl hS hC hj
                                      obtain rfl := Value.int.inj (Option.some.inj rq1)
                                      show LRES _ _ _ _ _ _ _ (lold (tok B n lim) s 0 (s.h 0) (j + 1) _)
                                      obtain ⟨Y0, Y1, Y2, Y3, Y4, Y5⟩ := X1.resolve_right (fun h => absurd h.1 (by omega))
                                      rw [lold_o Y2 (by omega)]
                                      have J2 : j + 2 < m := CK_more Y3.1 hj (by omega) (by omega)
                                      obtain ⟨q2, rq2, X2⟩ := (xhp11 _ _ rfl).2 B n lim m (j + 2) Y3 J2
                                      obtain rfl := Value.int.inj (Option.some.inj rq2)
                                      obtain ⟨Z0, Z1, Z2, Z3, Z4, Z5, Z6⟩ := X2.resolve_right (fun h => absurd h.1 (by omega))
                                      rw [lnum_o Z1 (by omega) (by omega)]
                                      have S1 := SC_fr H ra0 hS fhp2 rfl rfl
                                      have S2 := SC_fr Hhp2 (ra0.fr fhp2) S1 fhp11 rfl rfl
                                      have VD : y14 = (tok B n lim (j + 2)).v := Option.some.inj (hy14.symm.trans (Z4.2.2.1 Z1))
                                      obtain ⟨A9, hA9, hB9⟩ := S2.tl
                                      have EA : w24 = A9 := Option.some.inj (hw24.symm.trans hA9)
                                      have IX : z23.toInt = (((12 * x.toInt.toNat + (2 * fnd s.nm 0 (s.h 0) (tok B n lim (j + 1)).v + (tok B n lim (j + 2)).v).toNat) : Nat) : Int) := by omega
                                      have IB : (12 * x.toInt.toNat + (2 * fnd s.nm 0 (s.h 0) (tok B n lim (j + 1)).v + (tok B n lim (j + 2)).v).toNat) < 48 := by omega
                                      have LB := lb_and (A := w24) IX IB
                                      have NT_ : lb w24 (12 * x.toInt.toNat + (2 * fnd s.nm 0 (s.h 0) (tok B n lim (j + 1)).v + (tok B n lim (j + 2)).v).toNat) = false := LB.mp (hz25.mp (by omega))
                                      rw [if_neg (by rw [← hB9 _ IB, ← EA, NT_]; decide)]
                                      have J3 : j + 3 < m := CK_more Z5.1 J2 (by omega) (by omega)
                                      obtain ⟨q3, rq3, X3⟩ := (xhp83 _ _ rfl).2 B n lim m (j + 3) Z5 J3
                                      obtain rfl := Value.int.inj (Option.some.inj rq3)
                                      rw [show (if x.toInt.toNat = 2 ∨ x.toInt.toNat = 3 then (20 : Int) else 250) = 20 from if_pos (by omega)]
                                      obtain ⟨V0, V1, V2, V3, V4, V5, V6⟩ := X3.resolve_right (fun h => absurd h.1 (by omega))
                                      rw [lnum_o V1 (by omega) (by omega)]
                                      have S1 := SC_fr H ra0 hS fhp2 rfl rfl
                                      have S2 := SC_fr Hhp2 (ra0.fr fhp2) S1 fhp11 rfl rfl
                                      have S3 := SC_fr Hhp11 ((ra0.fr fhp2).fr fhp11) S2 fhp83 rfl rfl
                                      have C1 := TKS_fr Hhp83 V5.1 fhp88 rfl rfl rfl rfl
                                      have C2 := TKS_fr Hhp88 C1 fhp93 rfl rfl rfl rfl
                                      have VV : y87 = (tok B n lim (j + 3)).v := Option.some.inj (h89.symm.trans (((ehp88 _ _)).trans (V4.2.2.1 V1)))
                                      have EB3 := rrD_of ((qhp88 _ _).symm.trans qb90)
                                      have EI : (12 * x.toInt.toNat + (2 * fnd s.nm 0 (s.h 0) (tok B n lim (j + 1)).v + (tok B n lim (j + 2)).v).toNat) = z23.toInt.toNat := by omega
                                      exact LRES_ok ⟨z97, rfl, by omega⟩ (SC_amt Hhp83 (((ra0.fr fhp2).fr fhp11).fr fhp83) S3 IB (fun k => ((qhp93 _ _).trans (qhp88 _ _))) h95 (fun i hi => by rw [lb_or IX IB hi, ups_or, EA, hB9 i hi]) (fun b q h => (nhp93 _ _).trans (lhp88 _ _ h)) (fun b q h => (ehp93 _ _ (by rw [EB3, EI] at h; exact h)).trans (ehp88 _ _)) (by rw [EB3, EI]; exact rhp93.trans (congrArg some (by omega)))) ⟨C2, (((ehp93 _ _ (Or.inl (bs_nq (bs_R.uq Hhp88 (g := 9) rfl) rb90 (by decide)))).trans (ehp88 _ _))).trans V5.2.1, V5.2.2⟩ ((((ehp93 _ _ (Or.inl (bs_nq (bs_R.uq Hhp88 (g := 9) rfl) rb90 (by decide)))).trans (ehp88 _ _))).trans (V6.trans (Z6.trans (Y4.trans h9)))) (CK_more V5.1 J3 (by omega) (by omega)))⟩)
                          · skip
                            have c98 : z84.toInt = 0 := by omega
                            refine bs_lit (k := 0) rfl rfl fun z99 hz99 => ?_
                            exact bs_zret rfl rfl (by omega) (by omega) (by rw [hQ]; exact ⟨thp83, Hhp83, Fhp83, bs_an0, sf_S_cons (sf_s1 (x := z99.toInt) rfl (by omega) (by omega)) (sf_S_nil), (fun a s B n lim m j x ha hS hC hj hpl h9 => by
                                    have EX : x = x2 := by cases ha; rfl
                                    subst EX
                                    cases ha
                                    obtain ⟨q1, rq1, X1⟩ := xhp2 _ s B n lim m (j + 1) rfl hS hC hj
                                    obtain rfl := Value.int.inj (Option.some.inj rq1)
                                    show LRES _ _ _ _ _ _ _ (lold (tok B n lim) s 0 (s.h 0) (j + 1) _)
                                    obtain ⟨Y0, Y1, Y2, Y3, Y4, Y5⟩ := X1.resolve_right (fun h => absurd h.1 (by omega))
                                    rw [lold_o Y2 (by omega)]
                                    have J2 : j + 2 < m := CK_more Y3.1 hj (by omega) (by omega)
                                    obtain ⟨q2, rq2, X2⟩ := (xhp11 _ _ rfl).2 B n lim m (j + 2) Y3 J2
                                    obtain rfl := Value.int.inj (Option.some.inj rq2)
                                    obtain ⟨Z0, Z1, Z2, Z3, Z4, Z5, Z6⟩ := X2.resolve_right (fun h => absurd h.1 (by omega))
                                    rw [lnum_o Z1 (by omega) (by omega)]
                                    have S1 := SC_fr H ra0 hS fhp2 rfl rfl
                                    have S2 := SC_fr Hhp2 (ra0.fr fhp2) S1 fhp11 rfl rfl
                                    have VD : y14 = (tok B n lim (j + 2)).v := Option.some.inj (hy14.symm.trans (Z4.2.2.1 Z1))
                                    obtain ⟨A9, hA9, hB9⟩ := S2.tl
                                    have EA : w24 = A9 := Option.some.inj (hw24.symm.trans hA9)
                                    have IX : z23.toInt = (((12 * x.toInt.toNat + (2 * fnd s.nm 0 (s.h 0) (tok B n lim (j + 1)).v + (tok B n lim (j + 2)).v).toNat) : Nat) : Int) := by omega
                                    have IB : (12 * x.toInt.toNat + (2 * fnd s.nm 0 (s.h 0) (tok B n lim (j + 1)).v + (tok B n lim (j + 2)).v).toNat) < 48 := by omega
                                    have LB := lb_and (A := w24) IX IB
                                    have NT_ : lb w24 (12 * x.toInt.toNat + (2 * fnd s.nm 0 (s.h 0) (tok B n lim (j + 1)).v + (tok B n lim (j + 2)).v).toNat) = false := LB.mp (hz25.mp (by omega))
                                    rw [if_neg (by rw [← hB9 _ IB, ← EA, NT_]; decide)]
                                    have J3 : j + 3 < m := CK_more Z5.1 J2 (by omega) (by omega)
                                    obtain ⟨q3, rq3, X3⟩ := (xhp83 _ _ rfl).2 B n lim m (j + 3) Z5 J3
                                    obtain rfl := Value.int.inj (Option.some.inj rq3)
                                    rw [show (if x.toInt.toNat = 2 ∨ x.toInt.toNat = 3 then (20 : Int) else 250) = 20 from if_pos (by omega)]
                                    rcases X3.resolve_left (fun h => absurd h.1 (by omega)) with ⟨_, P1, ⟨P2, P3⟩ | ⟨P2, P4, P3⟩⟩
                                    · rw [lnum_1 P2]
                                      exact LRES_bad ⟨z99, rfl, by omega⟩ (P3) (P1)
                                    · rw [lnum_2 P2 (by omega)]
                                      exact LRES_bad ⟨z99, rfl, by omega⟩ (P3) (P1))⟩)
               · skip
                 refine Ev.step (j := 52) (s' := ([some (.ref a0), some (.ref 3), some (.int x2), some (.int z3), some (.int z23), none], [.ref 3], (0, 0), hp11)) rfl rfl ?_
                 exact by
                  refine bs_lit (k := 3) rfl rfl fun z100 hz100 => ?_
                  refine Ev.inl (L := L_X9_fail) (nL := 2) rfl (bs_rcv (g := 9) Hhp11 (bs_R.uq Hhp11 (g := 9) rfl) (by decide) rfl) rfl (Nat.le_of_ble_eq_true rfl) ?_
                  generalize hQ101 : (fun (o : ab_O) => Ev _ _ _ _) = Q101
                  refine (show Ev (ab_T L_X9_fail) 0 ([some (.ref 3), some (.int z100)], [], (0, 0), hp11) Q101 from ?_)
                  refine Ev.step (j := 1) (s' := ([some (.ref 3), some (.int z100)], [.ref 3], (0, 0), hp11)) rfl rfl ?_
                  refine Ev.step (j := 2) (s' := ([some (.ref 3), some (.int z100)], [.int z100, .ref 3], (0, 0), hp11)) rfl rfl ?_
                  refine bs_putIv (W := [(9, 9, 9)]) (g := 9) rfl rfl Hhp11 (bs_R.uq Hhp11 (g := 9) rfl) (by decide) rfl rfl rfl rfl (Or.inl rfl) (by omega) (by omega) fun hp102 Hhp102 fhp102 rhp102 ehp102 qhp102 nhp102 => ?_
                  have Fhp102 := sf_fr_tr Fhp11 (sf_fr_wider (W := [(7, 12, 12), (9, 4, 9), (119, 0, 47)]) rfl fhp102)
                  have h103 : sf_rd hp102 3 7 = some y14 := (ehp102 _ _ (Or.inr (by omega))).trans hy14
                  have h104 : sf_rl hp102 a0 12 = some w24 := (nhp102 _ _).trans hw24
                  refine bs_lit (k := 0) rfl rfl fun z105 hz105 => ?_
                  exact by
                   refine bs_zret rfl rfl (by omega) (by omega) ?_
                   rw [← hQ101]
                   refine (show Ev _ 56 ([some (.ref a0), some (.ref 3), some (.int x2), some (.int z3), some (.int z23), none], [.int z105], (0, 0), hp102) _ from ?_)
                   exact bs_zret rfl rfl (by omega) (by omega) (by rw [hQ]; exact ⟨thp11, Hhp102, Fhp102, bs_an0, sf_S_cons (sf_s1 (x := z105.toInt) rfl (by omega) (by omega)) (sf_S_nil), (fun a s B n lim m j x ha hS hC hj hpl h9 => by
                           have EX : x = x2 := by cases ha; rfl
                           subst EX
                           cases ha
                           obtain ⟨q1, rq1, X1⟩ := xhp2 _ s B n lim m (j + 1) rfl hS hC hj
                           obtain rfl := Value.int.inj (Option.some.inj rq1)
                           show LRES _ _ _ _ _ _ _ (lold (tok B n lim) s 0 (s.h 0) (j + 1) _)
                           obtain ⟨Y0, Y1, Y2, Y3, Y4, Y5⟩ := X1.resolve_right (fun h => absurd h.1 (by omega))
                           rw [lold_o Y2 (by omega)]
                           have J2 : j + 2 < m := CK_more Y3.1 hj (by omega) (by omega)
                           obtain ⟨q2, rq2, X2⟩ := (xhp11 _ _ rfl).2 B n lim m (j + 2) Y3 J2
                           obtain rfl := Value.int.inj (Option.some.inj rq2)
                           obtain ⟨Z0, Z1, Z2, Z3, Z4, Z5, Z6⟩ := X2.resolve_right (fun h => absurd h.1 (by omega))
                           rw [lnum_o Z1 (by omega) (by omega)]
                           have S1 := SC_fr H ra0 hS fhp2 rfl rfl
                           have S2 := SC_fr Hhp2 (ra0.fr fhp2) S1 fhp11 rfl rfl
                           have VD : y14 = (tok B n lim (j + 2)).v := Option.some.inj (hy14.symm.trans (Z4.2.2.1 Z1))
                           obtain ⟨A9, hA9, hB9⟩ := S2.tl
                           have EA : w24 = A9 := Option.some.inj (hw24.symm.trans hA9)
                           have IX : z23.toInt = (((12 * x.toInt.toNat + (2 * fnd s.nm 0 (s.h 0) (tok B n lim (j + 1)).v + (tok B n lim (j + 2)).v).toNat) : Nat) : Int) := by omega
                           have IB : (12 * x.toInt.toNat + (2 * fnd s.nm 0 (s.h 0) (tok B n lim (j + 1)).v + (tok B n lim (j + 2)).v).toNat) < 48 := by omega
                           have LB := lb_and (A := w24) IX IB
                           rw [if_pos (by rw [← hB9 _ IB, ← EA]; cases hl : lb w24 (12 * x.toInt.toNat + (2 * fnd s.nm 0 (s.h 0) (tok B n lim (j + 1)).v + (tok B n lim (j + 2)).v).toNat) with | true => rfl | false => exact absurd (hz25.mpr (LB.mpr hl)) (by omega))]
                           exact LRES_bad ⟨z105, rfl, by omega⟩ (rhp102.trans (congrArg some (by omega))) (((ehp102 _ _ (Or.inr (by omega)))).trans Z4.2.1))⟩)
          · skip
            have c106 : z12.toInt = 0 := by omega
            refine bs_lit (k := 0) rfl rfl fun z107 hz107 => ?_
            exact bs_zret rfl rfl (by omega) (by omega) (by rw [hQ]; exact ⟨thp11, Hhp11, Fhp11, bs_an0, sf_S_cons (sf_s1 (x := z107.toInt) rfl (by omega) (by omega)) (sf_S_nil), (fun a s B n lim m j x ha hS hC hj hpl h9 => by
                    have EX : x = x2 := by cases ha; rfl
                    subst EX
                    cases ha
                    obtain ⟨q1, rq1, X1⟩ := xhp2 _ s B n lim m (j + 1) rfl hS hC hj
                    obtain rfl := Value.int.inj (Option.some.inj rq1)
                    show LRES _ _ _ _ _ _ _ (lold (tok B n lim) s 0 (s.h 0) (j + 1) _)
                    obtain ⟨Y0, Y1, Y2, Y3, Y4, Y5⟩ := X1.resolve_right (fun h => absurd h.1 (by omega))
                    rw [lold_o Y2 (by omega)]
                    have J2 : j + 2 < m := CK_more Y3.1 hj (by omega) (by omega)
                    obtain ⟨q2, rq2, X2⟩ := (xhp11 _ _ rfl).2 B n lim m (j + 2) Y3 J2
                    obtain rfl := Value.int.inj (Option.some.inj rq2)
                    rcases X2.resolve_left (fun h => absurd h.1 (by omega)) with ⟨_, P1, ⟨P2, P3⟩ | ⟨P2, P4, P3⟩⟩
                    · rw [lnum_1 P2]
                      exact LRES_bad ⟨z107, rfl, by omega⟩ (P3) (P1)
                    · rw [lnum_2 P2 (by omega)]
                      exact LRES_bad ⟨z107, rfl, by omega⟩ (P3) (P1))⟩)
def kq_X7_readLine_v : sf_Q := ([(1, 7, 0), (1, 9, 0)], [], some (0, 0, 0), [(1, 0, 0, 0, 1, 0)], [(7, 7, 12), (9, 4, 9), (116, 0, 0), (117, 0, 0), (118, 0, 7), (119, 0, 47), (120, 0, 19), (121, 0, 19), (122, 0, 19)])
def ke_X7_readLine_v : List Value → ab_H → Option Value → ab_H → Prop := fun as hp r hp' => ∀ (a : Nat) (s : PS) (B : Nat → Int) (n lim m j : Nat), as = [.ref a, .ref 3] → SC hp a s → CK hp B n lim m (j + 1) → j < m → sf_rd hp 3 5 = some (tok B n lim j).k → sf_rd hp 3 6 = some (tok B n lim j).pl → sf_rd hp 3 9 = some 0 → LRES hp' a B n lim m r (lnx (tok B n lim) s j)
set_option maxRecDepth 100000 in
set_option maxHeartbeats 4000000 in
theorem ce_X7_readLine_v : sf_cE kq_X7_readLine_v Z_X7_readLine ke_X7_readLine_v := by
  intro t hp as H hl hj hpre
  match as, hl with
  | [v0, v1], _ =>
    obtain ⟨a0, rfl, ra0⟩ := bs_aR (hj 0 _ rfl)
    obtain ⟨a1, rfl, ra1⟩ := bs_aR (hj 1 _ rfl)
    obtain rfl := ra1.eq H (p := 3) rfl
    clear hpre hj
    have F0 : sf_fr [(7, 7, 12), (9, 4, 9), (116, 0, 0), (117, 0, 0), (118, 0, 7), (119, 0, 47), (120, 0, 19), (121, 0, 19), (122, 0, 19)] t hp t hp := sf_fr_rf
    refine bs_finx (E := ke_X7_readLine_v) (K := kq_X7_readLine_v) (L := (L_X7_readLine Z_X7_readAmount Z_X7_readLoad Z_X7_readGood Z_X7_readMan Z_X7_readMisses Z_X9_fail)) (nL := 2) (Nat.le_of_ble_eq_true rfl) ?_
    obtain ⟨Q, hQ⟩ : ∃ Q : ab_O → Prop, Q = (fun o => ∃ t', sf_h t' o.2 ∧ sf_fr (kq_X7_readLine_v).2.2.2.2 t hp t' o.2 ∧ sf_an t' o.2.1 (kq_X7_readLine_v).2.2.1 o.1 ∧ sf_S (sf_v1 o.1 [.ref a0, .ref 3] o.2) (kq_X7_readLine_v).2.2.2.1 ∧ ke_X7_readLine_v [.ref a0, .ref 3] hp o.1 o.2) := ⟨_, rfl⟩
    rw [← hQ]
    refine (show Ev (ab_T (L_X7_readLine Z_X7_readAmount Z_X7_readLoad Z_X7_readGood Z_X7_readMan Z_X7_readMisses Z_X9_fail)) 0 ([some (.ref a0), some (.ref 3)], [], (0, 0), hp) Q from ?_)
    refine Ev.step (j := 1) (s' := ([some (.ref a0), some (.ref 3)], [.ref 3], (0, 0), hp)) rfl rfl ?_
    exact by
     refine bs_getI 9 rfl rfl rfl H (bs_R.uq H (g := 9) rfl) (by decide) rfl fun z1 hz1 lz1 gz1 => ?_
     refine bs_lit (k := 66) rfl rfl fun z2 hz2 => ?_
     refine bs_lt rfl (fun c3 => ?_) (fun c3 => ?_)
     · skip
       refine Ev.step (j := 32) (s' := ([some (.ref a0), some (.ref 3)], [.ref 3], (0, 0), hp)) rfl rfl ?_
       refine bs_getI 9 rfl rfl rfl H (bs_R.uq H (g := 9) rfl) (by decide) rfl fun z4 hz4 lz4 gz4 => ?_
       have e5 : z4.toInt = z1.toInt := Option.some.inj (hz4.symm.trans hz1)
       rcases (show z4.toInt = 64 ∨ z4.toInt = 65 ∨ z4.toInt = 66 ∨ z4.toInt = 67 ∨ z4.toInt = 68 ∨ z4.toInt = 69 ∨ z4.toInt = 70 ∨ z4.toInt = 71 ∨ (z4.toInt < 64 ∨ 72 ≤ z4.toInt) by omega) with c6 | c6 | c6 | c6 | c6 | c6 | c6 | c6 | c6
       · refine bs_tab 0 rfl (by omega) rfl ?_
         refine Ev.step (j := 81) (s' := ([some (.ref a0), some (.ref 3)], [.ref a0], (0, 0), hp)) rfl rfl ?_
         refine Ev.step (j := 82) (s' := ([some (.ref a0), some (.ref 3)], [.ref 3, .ref a0], (0, 0), hp)) rfl rfl ?_
         exact by
          refine bs_callx (K := kq_X7_readLoad_v) [.ref a0, .ref 3] [] rfl ce_X7_readLoad_v H rfl rfl rfl (bs_rcv (g := 7) H (ra0.fr F0) (by decide) rfl) rfl ?_ (sf_S_nil) fun r7 hp8 thp8 Hhp8 fhp8 ahp8 php8 xhp8 => ?_
          · intro q k h
            match q, h with
            | 0, h => cases h; exact bs_jR (ra0.fr F0)
            | 1, h => cases h; exact bs_jR (bs_R.uq H (g := 9) rfl)
            | q + 2, h => cases h
          obtain ⟨z9, rfl⟩ := bs_anI ahp8
          have rgz9 := n_range z9
          have Fhp8 := sf_fr_tr F0 (sf_fr_wider (W := [(7, 7, 12), (9, 4, 9), (116, 0, 0), (117, 0, 0), (118, 0, 7), (119, 0, 47), (120, 0, 19), (121, 0, 19), (122, 0, 19)]) rfl fhp8)
          obtain ⟨uz9, vz9⟩ := bs_s1 (x := z9.toInt) rfl (php8 _ (List.mem_of_getElem? (i := 0) rfl))
          refine (show Ev _ 85 ([some (.ref a0), some (.ref 3)], [.int z9], (0, 0), hp8) _ from ?_)
          exact bs_zret rfl rfl (by omega) (by omega) (by rw [hQ]; exact ⟨thp8, Hhp8, Fhp8, bs_an0, sf_S_cons (sf_s1 (x := z9.toInt) rfl (by omega) (by omega)) (sf_S_nil), (fun a s B n lim m j ha hS hC hj hk hpl h9 => by
                  have KK : z1.toInt = (tok B n lim j).k := Option.some.inj (hz1.symm.trans hk)
                  have J1 := CK_more hC.1 hj (by omega) (by omega)
                  cases ha
                  rw [lnx_load (by omega)]
                  exact xhp8 _ s B n lim m j rfl hS hC J1 hpl h9)⟩)
       · refine bs_tab 1 rfl (by omega) rfl ?_
         refine Ev.step (j := 87) (s' := ([some (.ref a0), some (.ref 3)], [.ref a0], (0, 0), hp)) rfl rfl ?_
         exact by
          refine Ev.step (j := 88) (s' := ([some (.ref a0), some (.ref 3)], [.ref 3, .ref a0], (0, 0), hp)) rfl rfl ?_
          refine bs_callx (K := kq_X7_readGood_v) [.ref a0, .ref 3] [] rfl ce_X7_readGood_v H rfl rfl rfl (bs_rcv (g := 7) H (ra0.fr F0) (by decide) rfl) rfl ?_ (sf_S_nil) fun r10 hp11 thp11 Hhp11 fhp11 ahp11 php11 xhp11 => ?_
          · intro q k h
            match q, h with
            | 0, h => cases h; exact bs_jR (ra0.fr F0)
            | 1, h => cases h; exact bs_jR (bs_R.uq H (g := 9) rfl)
            | q + 2, h => cases h
          obtain ⟨z12, rfl⟩ := bs_anI ahp11
          have rgz12 := n_range z12
          have Fhp11 := sf_fr_tr F0 (sf_fr_wider (W := [(7, 7, 12), (9, 4, 9), (116, 0, 0), (117, 0, 0), (118, 0, 7), (119, 0, 47), (120, 0, 19), (121, 0, 19), (122, 0, 19)]) rfl fhp11)
          obtain ⟨uz12, vz12⟩ := bs_s1 (x := z12.toInt) rfl (php11 _ (List.mem_of_getElem? (i := 0) rfl))
          refine (show Ev _ 91 ([some (.ref a0), some (.ref 3)], [.int z12], (0, 0), hp11) _ from ?_)
          exact bs_zret rfl rfl (by omega) (by omega) (by rw [hQ]; exact ⟨thp11, Hhp11, Fhp11, bs_an0, sf_S_cons (sf_s1 (x := z12.toInt) rfl (by omega) (by omega)) (sf_S_nil), (fun a s B n lim m j ha hS hC hj hk hpl h9 => by
                  have KK : z1.toInt = (tok B n lim j).k := Option.some.inj (hz1.symm.trans hk)
                  have J1 := CK_more hC.1 hj (by omega) (by omega)
                  cases ha
                  rw [lnx_good (by omega)]
                  exact xhp11 _ s B n lim m j rfl hS hC J1 hpl h9)⟩)
       · refine bs_tab 2 rfl (by omega) rfl ?_
         refine Ev.step (j := 105) (s' := ([some (.ref a0), some (.ref 3)], [.ref 3], (0, 0), hp)) rfl rfl ?_
         exact by
          refine bs_lit (k := 1) rfl rfl fun z13 hz13 => ?_
          refine Ev.inl (L := L_X9_fail) (nL := 2) rfl (bs_rcv (g := 9) H (bs_R.uq H (g := 9) rfl) (by decide) rfl) rfl (Nat.le_of_ble_eq_true rfl) ?_
          generalize hQ14 : (fun (o : ab_O) => Ev _ _ _ _) = Q14
          refine (show Ev (ab_T L_X9_fail) 0 ([some (.ref 3), some (.int z13)], [], (0, 0), hp) Q14 from ?_)
          refine Ev.step (j := 1) (s' := ([some (.ref 3), some (.int z13)], [.ref 3], (0, 0), hp)) rfl rfl ?_
          refine Ev.step (j := 2) (s' := ([some (.ref 3), some (.int z13)], [.int z13, .ref 3], (0, 0), hp)) rfl rfl ?_
          refine bs_putIv (W := [(9, 9, 9)]) (g := 9) rfl rfl H (bs_R.uq H (g := 9) rfl) (by decide) rfl rfl rfl rfl (Or.inl rfl) (by omega) (by omega) fun hp15 Hhp15 fhp15 rhp15 ehp15 qhp15 nhp15 => ?_
          have Fhp15 := sf_fr_tr F0 (sf_fr_wider (W := [(7, 7, 12), (9, 4, 9), (116, 0, 0), (117, 0, 0), (118, 0, 7), (119, 0, 47), (120, 0, 19), (121, 0, 19), (122, 0, 19)]) rfl fhp15)
          have h16 : sf_rd hp15 3 5 = some z1.toInt := (ehp15 _ _ (Or.inr (by omega))).trans hz1
          refine bs_lit (k := 0) rfl rfl fun z17 hz17 => ?_
          exact by
           refine bs_zret rfl rfl (by omega) (by omega) ?_
           rw [← hQ14]
           refine (show Ev _ 109 ([some (.ref a0), some (.ref 3)], [.int z17], (0, 0), hp15) _ from ?_)
           exact bs_zret rfl rfl (by omega) (by omega) (by rw [hQ]; exact ⟨t, Hhp15, Fhp15, bs_an0, sf_S_cons (sf_s1 (x := z17.toInt) rfl (by omega) (by omega)) (sf_S_nil), (fun a s B n lim m j ha hS hC hj hk hpl h9 => by
                   have KK : z1.toInt = (tok B n lim j).k := Option.some.inj (hz1.symm.trans hk)
                   cases ha
                   rw [lnx_bad (by omega)]
                   exact LRES_bad ⟨z17, rfl, by omega⟩ (rhp15.trans (congrArg some (by omega))) (((ehp15 _ _ (Or.inr (by omega)))).trans hpl))⟩)
       · refine bs_tab 3 rfl (by omega) rfl ?_
         refine Ev.step (j := 105) (s' := ([some (.ref a0), some (.ref 3)], [.ref 3], (0, 0), hp)) rfl rfl ?_
         exact by
          refine bs_lit (k := 1) rfl rfl fun z18 hz18 => ?_
          refine Ev.inl (L := L_X9_fail) (nL := 2) rfl (bs_rcv (g := 9) H (bs_R.uq H (g := 9) rfl) (by decide) rfl) rfl (Nat.le_of_ble_eq_true rfl) ?_
          generalize hQ19 : (fun (o : ab_O) => Ev _ _ _ _) = Q19
          refine (show Ev (ab_T L_X9_fail) 0 ([some (.ref 3), some (.int z18)], [], (0, 0), hp) Q19 from ?_)
          refine Ev.step (j := 1) (s' := ([some (.ref 3), some (.int z18)], [.ref 3], (0, 0), hp)) rfl rfl ?_
          refine Ev.step (j := 2) (s' := ([some (.ref 3), some (.int z18)], [.int z18, .ref 3], (0, 0), hp)) rfl rfl ?_
          refine bs_putIv (W := [(9, 9, 9)]) (g := 9) rfl rfl H (bs_R.uq H (g := 9) rfl) (by decide) rfl rfl rfl rfl (Or.inl rfl) (by omega) (by omega) fun hp20 Hhp20 fhp20 rhp20 ehp20 qhp20 nhp20 => ?_
          have Fhp20 := sf_fr_tr F0 (sf_fr_wider (W := [(7, 7, 12), (9, 4, 9), (116, 0, 0), (117, 0, 0), (118, 0, 7), (119, 0, 47), (120, 0, 19), (121, 0, 19), (122, 0, 19)]) rfl fhp20)
          have h21 : sf_rd hp20 3 5 = some z1.toInt := (ehp20 _ _ (Or.inr (by omega))).trans hz1
          refine bs_lit (k := 0) rfl rfl fun z22 hz22 => ?_
          exact by
           refine bs_zret rfl rfl (by omega) (by omega) ?_
           rw [← hQ19]
           refine (show Ev _ 109 ([some (.ref a0), some (.ref 3)], [.int z22], (0, 0), hp20) _ from ?_)
           exact bs_zret rfl rfl (by omega) (by omega) (by rw [hQ]; exact ⟨t, Hhp20, Fhp20, bs_an0, sf_S_cons (sf_s1 (x := z22.toInt) rfl (by omega) (by omega)) (sf_S_nil), (fun a s B n lim m j ha hS hC hj hk hpl h9 => by
                   have KK : z1.toInt = (tok B n lim j).k := Option.some.inj (hz1.symm.trans hk)
                   cases ha
                   rw [lnx_bad (by omega)]
                   exact LRES_bad ⟨z22, rfl, by omega⟩ (rhp20.trans (congrArg some (by omega))) (((ehp20 _ _ (Or.inr (by omega)))).trans hpl))⟩)
       · refine bs_tab 4 rfl (by omega) rfl ?_
         refine Ev.step (j := 105) (s' := ([some (.ref a0), some (.ref 3)], [.ref 3], (0, 0), hp)) rfl rfl ?_
         exact by
          refine bs_lit (k := 1) rfl rfl fun z23 hz23 => ?_
          refine Ev.inl (L := L_X9_fail) (nL := 2) rfl (bs_rcv (g := 9) H (bs_R.uq H (g := 9) rfl) (by decide) rfl) rfl (Nat.le_of_ble_eq_true rfl) ?_
          generalize hQ24 : (fun (o : ab_O) => Ev _ _ _ _) = Q24
          refine (show Ev (ab_T L_X9_fail) 0 ([some (.ref 3), some (.int z23)], [], (0, 0), hp) Q24 from ?_)
          refine Ev.step (j := 1) (s' := ([some (.ref 3), some (.int z23)], [.ref 3], (0, 0), hp)) rfl rfl ?_
          refine Ev.step (j := 2) (s' := ([some (.ref 3), some (.int z23)], [.int z23, .ref 3], (0, 0), hp)) rfl rfl ?_
          refine bs_putIv (W := [(9, 9, 9)]) (g := 9) rfl rfl H (bs_R.uq H (g := 9) rfl) (by decide) rfl rfl rfl rfl (Or.inl rfl) (by omega) (by omega) fun hp25 Hhp25 fhp25 rhp25 ehp25 qhp25 nhp25 => ?_
          have Fhp25 := sf_fr_tr F0 (sf_fr_wider (W := [(7, 7, 12), (9, 4, 9), (116, 0, 0), (117, 0, 0), (118, 0, 7), (119, 0, 47), (120, 0, 19), (121, 0, 19), (122, 0, 19)]) rfl fhp25)
          have h26 : sf_rd hp25 3 5 = some z1.toInt := (ehp25 _ _ (Or.inr (by omega))).trans hz1
          refine bs_lit (k := 0) rfl rfl fun z27 hz27 => ?_
          exact by
           refine bs_zret rfl rfl (by omega) (by omega) ?_
           rw [← hQ24]
           refine (show Ev _ 109 ([some (.ref a0), some (.ref 3)], [.int z27], (0, 0), hp25) _ from ?_)
           exact bs_zret rfl rfl (by omega) (by omega) (by rw [hQ]; exact ⟨t, Hhp25, Fhp25, bs_an0, sf_S_cons (sf_s1 (x := z27.toInt) rfl (by omega) (by omega)) (sf_S_nil), (fun a s B n lim m j ha hS hC hj hk hpl h9 => by
                   have KK : z1.toInt = (tok B n lim j).k := Option.some.inj (hz1.symm.trans hk)
                   cases ha
                   rw [lnx_bad (by omega)]
                   exact LRES_bad ⟨z27, rfl, by omega⟩ (rhp25.trans (congrArg some (by omega))) (((ehp25 _ _ (Or.inr (by omega)))).trans hpl))⟩)
       · refine bs_tab 5 rfl (by omega) rfl ?_
         refine Ev.step (j := 105) (s' := ([some (.ref a0), some (.ref 3)], [.ref 3], (0, 0), hp)) rfl rfl ?_
         exact by
          refine bs_lit (k := 1) rfl rfl fun z28 hz28 => ?_
          refine Ev.inl (L := L_X9_fail) (nL := 2) rfl (bs_rcv (g := 9) H (bs_R.uq H (g := 9) rfl) (by decide) rfl) rfl (Nat.le_of_ble_eq_true rfl) ?_
          generalize hQ29 : (fun (o : ab_O) => Ev _ _ _ _) = Q29
          refine (show Ev (ab_T L_X9_fail) 0 ([some (.ref 3), some (.int z28)], [], (0, 0), hp) Q29 from ?_)
          refine Ev.step (j := 1) (s' := ([some (.ref 3), some (.int z28)], [.ref 3], (0, 0), hp)) rfl rfl ?_
          refine Ev.step (j := 2) (s' := ([some (.ref 3), some (.int z28)], [.int z28, .ref 3], (0, 0), hp)) rfl rfl ?_
          refine bs_putIv (W := [(9, 9, 9)]) (g := 9) rfl rfl H (bs_R.uq H (g := 9) rfl) (by decide) rfl rfl rfl rfl (Or.inl rfl) (by omega) (by omega) fun hp30 Hhp30 fhp30 rhp30 ehp30 qhp30 nhp30 => ?_
          have Fhp30 := sf_fr_tr F0 (sf_fr_wider (W := [(7, 7, 12), (9, 4, 9), (116, 0, 0), (117, 0, 0), (118, 0, 7), (119, 0, 47), (120, 0, 19), (121, 0, 19), (122, 0, 19)]) rfl fhp30)
          have h31 : sf_rd hp30 3 5 = some z1.toInt := (ehp30 _ _ (Or.inr (by omega))).trans hz1
          refine bs_lit (k := 0) rfl rfl fun z32 hz32 => ?_
          exact by
           refine bs_zret rfl rfl (by omega) (by omega) ?_
           rw [← hQ29]
           refine (show Ev _ 109 ([some (.ref a0), some (.ref 3)], [.int z32], (0, 0), hp30) _ from ?_)
           exact bs_zret rfl rfl (by omega) (by omega) (by rw [hQ]; exact ⟨t, Hhp30, Fhp30, bs_an0, sf_S_cons (sf_s1 (x := z32.toInt) rfl (by omega) (by omega)) (sf_S_nil), (fun a s B n lim m j ha hS hC hj hk hpl h9 => by
                   have KK : z1.toInt = (tok B n lim j).k := Option.some.inj (hz1.symm.trans hk)
                   cases ha
                   rw [lnx_bad (by omega)]
                   exact LRES_bad ⟨z32, rfl, by omega⟩ (rhp30.trans (congrArg some (by omega))) (((ehp30 _ _ (Or.inr (by omega)))).trans hpl))⟩)
       · refine bs_tab 6 rfl (by omega) rfl ?_
         refine Ev.step (j := 93) (s' := ([some (.ref a0), some (.ref 3)], [.ref a0], (0, 0), hp)) rfl rfl ?_
         exact by
          refine Ev.step (j := 94) (s' := ([some (.ref a0), some (.ref 3)], [.ref 3, .ref a0], (0, 0), hp)) rfl rfl ?_
          refine bs_callx (K := kq_X7_readMan_v) [.ref a0, .ref 3] [] rfl ce_X7_readMan_v H rfl rfl rfl (bs_rcv (g := 7) H (ra0.fr F0) (by decide) rfl) rfl ?_ (sf_S_nil) fun r33 hp34 thp34 Hhp34 fhp34 ahp34 php34 xhp34 => ?_
          · intro q k h
            match q, h with
            | 0, h => cases h; exact bs_jR (ra0.fr F0)
            | 1, h => cases h; exact bs_jR (bs_R.uq H (g := 9) rfl)
            | q + 2, h => cases h
          obtain ⟨z35, rfl⟩ := bs_anI ahp34
          have rgz35 := n_range z35
          have Fhp34 := sf_fr_tr F0 (sf_fr_wider (W := [(7, 7, 12), (9, 4, 9), (116, 0, 0), (117, 0, 0), (118, 0, 7), (119, 0, 47), (120, 0, 19), (121, 0, 19), (122, 0, 19)]) rfl fhp34)
          obtain ⟨uz35, vz35⟩ := bs_s1 (x := z35.toInt) rfl (php34 _ (List.mem_of_getElem? (i := 0) rfl))
          refine (show Ev _ 97 ([some (.ref a0), some (.ref 3)], [.int z35], (0, 0), hp34) _ from ?_)
          exact bs_zret rfl rfl (by omega) (by omega) (by rw [hQ]; exact ⟨thp34, Hhp34, Fhp34, bs_an0, sf_S_cons (sf_s1 (x := z35.toInt) rfl (by omega) (by omega)) (sf_S_nil), (fun a s B n lim m j ha hS hC hj hk hpl h9 => by
                  have KK : z1.toInt = (tok B n lim j).k := Option.some.inj (hz1.symm.trans hk)
                  have J1 := CK_more hC.1 hj (by omega) (by omega)
                  cases ha
                  rw [lnx_man (by omega)]
                  exact xhp34 _ s B n lim m j rfl hS hC J1 hpl h9)⟩)
       · refine bs_tab 7 rfl (by omega) rfl ?_
         refine Ev.step (j := 99) (s' := ([some (.ref a0), some (.ref 3)], [.ref a0], (0, 0), hp)) rfl rfl ?_
         exact by
          refine Ev.step (j := 100) (s' := ([some (.ref a0), some (.ref 3)], [.ref 3, .ref a0], (0, 0), hp)) rfl rfl ?_
          refine bs_callx (K := kq_X7_readMisses_v) [.ref a0, .ref 3] [] rfl ce_X7_readMisses_v H rfl rfl rfl (bs_rcv (g := 7) H (ra0.fr F0) (by decide) rfl) rfl ?_ (sf_S_nil) fun r36 hp37 thp37 Hhp37 fhp37 ahp37 php37 xhp37 => ?_
          · intro q k h
            match q, h with
            | 0, h => cases h; exact bs_jR (ra0.fr F0)
            | 1, h => cases h; exact bs_jR (bs_R.uq H (g := 9) rfl)
            | q + 2, h => cases h
          obtain ⟨z38, rfl⟩ := bs_anI ahp37
          have rgz38 := n_range z38
          have Fhp37 := sf_fr_tr F0 (sf_fr_wider (W := [(7, 7, 12), (9, 4, 9), (116, 0, 0), (117, 0, 0), (118, 0, 7), (119, 0, 47), (120, 0, 19), (121, 0, 19), (122, 0, 19)]) rfl fhp37)
          obtain ⟨uz38, vz38⟩ := bs_s1 (x := z38.toInt) rfl (php37 _ (List.mem_of_getElem? (i := 0) rfl))
          refine (show Ev _ 103 ([some (.ref a0), some (.ref 3)], [.int z38], (0, 0), hp37) _ from ?_)
          exact bs_zret rfl rfl (by omega) (by omega) (by rw [hQ]; exact ⟨thp37, Hhp37, Fhp37, bs_an0, sf_S_cons (sf_s1 (x := z38.toInt) rfl (by omega) (by omega)) (sf_S_nil), (fun a s B n lim m j ha hS hC hj hk hpl h9 => by
                  have KK : z1.toInt = (tok B n lim j).k := Option.some.inj (hz1.symm.trans hk)
                  have J1 := CK_more hC.1 hj (by omega) (by omega)
                  cases ha
                  rw [lnx_miss (by omega)]
                  exact xhp37 _ s B n lim m j rfl hS hC J1 hpl h9)⟩)
       · refine bs_tabD rfl (by show _ ∨ _ + ((8 : Nat) : Int) ≤ _; omega) ?_
         refine Ev.step (j := 105) (s' := ([some (.ref a0), some (.ref 3)], [.ref 3], (0, 0), hp)) rfl rfl ?_
         exact by
          refine bs_lit (k := 1) rfl rfl fun z39 hz39 => ?_
          refine Ev.inl (L := L_X9_fail) (nL := 2) rfl (bs_rcv (g := 9) H (bs_R.uq H (g := 9) rfl) (by decide) rfl) rfl (Nat.le_of_ble_eq_true rfl) ?_
          generalize hQ40 : (fun (o : ab_O) => Ev _ _ _ _) = Q40
          refine (show Ev (ab_T L_X9_fail) 0 ([some (.ref 3), some (.int z39)], [], (0, 0), hp) Q40 from ?_)
          refine Ev.step (j := 1) (s' := ([some (.ref 3), some (.int z39)], [.ref 3], (0, 0), hp)) rfl rfl ?_
          refine Ev.step (j := 2) (s' := ([some (.ref 3), some (.int z39)], [.int z39, .ref 3], (0, 0), hp)) rfl rfl ?_
          refine bs_putIv (W := [(9, 9, 9)]) (g := 9) rfl rfl H (bs_R.uq H (g := 9) rfl) (by decide) rfl rfl rfl rfl (Or.inl rfl) (by omega) (by omega) fun hp41 Hhp41 fhp41 rhp41 ehp41 qhp41 nhp41 => ?_
          have Fhp41 := sf_fr_tr F0 (sf_fr_wider (W := [(7, 7, 12), (9, 4, 9), (116, 0, 0), (117, 0, 0), (118, 0, 7), (119, 0, 47), (120, 0, 19), (121, 0, 19), (122, 0, 19)]) rfl fhp41)
          have h42 : sf_rd hp41 3 5 = some z1.toInt := (ehp41 _ _ (Or.inr (by omega))).trans hz1
          refine bs_lit (k := 0) rfl rfl fun z43 hz43 => ?_
          exact by
           refine bs_zret rfl rfl (by omega) (by omega) ?_
           rw [← hQ40]
           refine (show Ev _ 109 ([some (.ref a0), some (.ref 3)], [.int z43], (0, 0), hp41) _ from ?_)
           exact bs_zret rfl rfl (by omega) (by omega) (by rw [hQ]; exact ⟨t, Hhp41, Fhp41, bs_an0, sf_S_cons (sf_s1 (x := z43.toInt) rfl (by omega) (by omega)) (sf_S_nil), (fun a s B n lim m j ha hS hC hj hk hpl h9 => by
                   have KK : z1.toInt = (tok B n lim j).k := Option.some.inj (hz1.symm.trans hk)
                   cases ha
                   rw [lnx_bad (by omega)]
                   exact LRES_bad ⟨z43, rfl, by omega⟩ (rhp41.trans (congrArg some (by omega))) (((ehp41 _ _ (Or.inr (by omega)))).trans hpl))⟩)
     · skip
       refine Ev.step (j := 10) (s' := ([some (.ref a0), some (.ref 3)], [.ref 3], (0, 0), hp)) rfl rfl ?_
       exact by
        refine bs_getI 9 rfl rfl rfl H (bs_R.uq H (g := 9) rfl) (by decide) rfl fun z44 hz44 lz44 gz44 => ?_
        have e45 : z44.toInt = z1.toInt := Option.some.inj (hz44.symm.trans hz1)
        refine bs_lit (k := 69) rfl rfl fun z46 hz46 => ?_
        refine bs_gt rfl (fun c47 => ?_) (fun c47 => ?_)
        · skip
          refine Ev.step (j := 32) (s' := ([some (.ref a0), some (.ref 3)], [.ref 3], (0, 0), hp)) rfl rfl ?_
          refine bs_getI 9 rfl rfl rfl H (bs_R.uq H (g := 9) rfl) (by decide) rfl fun z48 hz48 lz48 gz48 => ?_
          have e49 : z48.toInt = z1.toInt := Option.some.inj (hz48.symm.trans hz1)
          rcases (show z48.toInt = 64 ∨ z48.toInt = 65 ∨ z48.toInt = 66 ∨ z48.toInt = 67 ∨ z48.toInt = 68 ∨ z48.toInt = 69 ∨ z48.toInt = 70 ∨ z48.toInt = 71 ∨ (z48.toInt < 64 ∨ 72 ≤ z48.toInt) by omega) with c50 | c50 | c50 | c50 | c50 | c50 | c50 | c50 | c50
          · refine bs_tab 0 rfl (by omega) rfl ?_
            refine Ev.step (j := 81) (s' := ([some (.ref a0), some (.ref 3)], [.ref a0], (0, 0), hp)) rfl rfl ?_
            exact by
             refine Ev.step (j := 82) (s' := ([some (.ref a0), some (.ref 3)], [.ref 3, .ref a0], (0, 0), hp)) rfl rfl ?_
             refine bs_callx (K := kq_X7_readLoad_v) [.ref a0, .ref 3] [] rfl ce_X7_readLoad_v H rfl rfl rfl (bs_rcv (g := 7) H (ra0.fr F0) (by decide) rfl) rfl ?_ (sf_S_nil) fun r51 hp52 thp52 Hhp52 fhp52 ahp52 php52 xhp52 => ?_
             · intro q k h
               match q, h with
               | 0, h => cases h; exact bs_jR (ra0.fr F0)
               | 1, h => cases h; exact bs_jR (bs_R.uq H (g := 9) rfl)
               | q + 2, h => cases h
             obtain ⟨z53, rfl⟩ := bs_anI ahp52
             have rgz53 := n_range z53
             have Fhp52 := sf_fr_tr F0 (sf_fr_wider (W := [(7, 7, 12), (9, 4, 9), (116, 0, 0), (117, 0, 0), (118, 0, 7), (119, 0, 47), (120, 0, 19), (121, 0, 19), (122, 0, 19)]) rfl fhp52)
             obtain ⟨uz53, vz53⟩ := bs_s1 (x := z53.toInt) rfl (php52 _ (List.mem_of_getElem? (i := 0) rfl))
             refine (show Ev _ 85 ([some (.ref a0), some (.ref 3)], [.int z53], (0, 0), hp52) _ from ?_)
             exact bs_zret rfl rfl (by omega) (by omega) (by rw [hQ]; exact ⟨thp52, Hhp52, Fhp52, bs_an0, sf_S_cons (sf_s1 (x := z53.toInt) rfl (by omega) (by omega)) (sf_S_nil), (fun a s B n lim m j ha hS hC hj hk hpl h9 => by
                     have KK : z1.toInt = (tok B n lim j).k := Option.some.inj (hz1.symm.trans hk)
                     have J1 := CK_more hC.1 hj (by omega) (by omega)
                     cases ha
                     rw [lnx_load (by omega)]
                     exact xhp52 _ s B n lim m j rfl hS hC J1 hpl h9)⟩)
          · refine bs_tab 1 rfl (by omega) rfl ?_
            refine Ev.step (j := 87) (s' := ([some (.ref a0), some (.ref 3)], [.ref a0], (0, 0), hp)) rfl rfl ?_
            exact by
             refine Ev.step (j := 88) (s' := ([some (.ref a0), some (.ref 3)], [.ref 3, .ref a0], (0, 0), hp)) rfl rfl ?_
             refine bs_callx (K := kq_X7_readGood_v) [.ref a0, .ref 3] [] rfl ce_X7_readGood_v H rfl rfl rfl (bs_rcv (g := 7) H (ra0.fr F0) (by decide) rfl) rfl ?_ (sf_S_nil) fun r54 hp55 thp55 Hhp55 fhp55 ahp55 php55 xhp55 => ?_
             · intro q k h
               match q, h with
               | 0, h => cases h; exact bs_jR (ra0.fr F0)
               | 1, h => cases h; exact bs_jR (bs_R.uq H (g := 9) rfl)
               | q + 2, h => cases h
             obtain ⟨z56, rfl⟩ := bs_anI ahp55
             have rgz56 := n_range z56
             have Fhp55 := sf_fr_tr F0 (sf_fr_wider (W := [(7, 7, 12), (9, 4, 9), (116, 0, 0), (117, 0, 0), (118, 0, 7), (119, 0, 47), (120, 0, 19), (121, 0, 19), (122, 0, 19)]) rfl fhp55)
             obtain ⟨uz56, vz56⟩ := bs_s1 (x := z56.toInt) rfl (php55 _ (List.mem_of_getElem? (i := 0) rfl))
             refine (show Ev _ 91 ([some (.ref a0), some (.ref 3)], [.int z56], (0, 0), hp55) _ from ?_)
             exact bs_zret rfl rfl (by omega) (by omega) (by rw [hQ]; exact ⟨thp55, Hhp55, Fhp55, bs_an0, sf_S_cons (sf_s1 (x := z56.toInt) rfl (by omega) (by omega)) (sf_S_nil), (fun a s B n lim m j ha hS hC hj hk hpl h9 => by
                     have KK : z1.toInt = (tok B n lim j).k := Option.some.inj (hz1.symm.trans hk)
                     have J1 := CK_more hC.1 hj (by omega) (by omega)
                     cases ha
                     rw [lnx_good (by omega)]
                     exact xhp55 _ s B n lim m j rfl hS hC J1 hpl h9)⟩)
          · refine bs_tab 2 rfl (by omega) rfl ?_
            refine Ev.step (j := 105) (s' := ([some (.ref a0), some (.ref 3)], [.ref 3], (0, 0), hp)) rfl rfl ?_
            exact by
             refine bs_lit (k := 1) rfl rfl fun z57 hz57 => ?_
             refine Ev.inl (L := L_X9_fail) (nL := 2) rfl (bs_rcv (g := 9) H (bs_R.uq H (g := 9) rfl) (by decide) rfl) rfl (Nat.le_of_ble_eq_true rfl) ?_
             generalize hQ58 : (fun (o : ab_O) => Ev _ _ _ _) = Q58
             refine (show Ev (ab_T L_X9_fail) 0 ([some (.ref 3), some (.int z57)], [], (0, 0), hp) Q58 from ?_)
             refine Ev.step (j := 1) (s' := ([some (.ref 3), some (.int z57)], [.ref 3], (0, 0), hp)) rfl rfl ?_
             refine Ev.step (j := 2) (s' := ([some (.ref 3), some (.int z57)], [.int z57, .ref 3], (0, 0), hp)) rfl rfl ?_
             refine bs_putIv (W := [(9, 9, 9)]) (g := 9) rfl rfl H (bs_R.uq H (g := 9) rfl) (by decide) rfl rfl rfl rfl (Or.inl rfl) (by omega) (by omega) fun hp59 Hhp59 fhp59 rhp59 ehp59 qhp59 nhp59 => ?_
             have Fhp59 := sf_fr_tr F0 (sf_fr_wider (W := [(7, 7, 12), (9, 4, 9), (116, 0, 0), (117, 0, 0), (118, 0, 7), (119, 0, 47), (120, 0, 19), (121, 0, 19), (122, 0, 19)]) rfl fhp59)
             have h60 : sf_rd hp59 3 5 = some z1.toInt := (ehp59 _ _ (Or.inr (by omega))).trans hz1
             refine bs_lit (k := 0) rfl rfl fun z61 hz61 => ?_
             exact by
              refine bs_zret rfl rfl (by omega) (by omega) ?_
              rw [← hQ58]
              refine (show Ev _ 109 ([some (.ref a0), some (.ref 3)], [.int z61], (0, 0), hp59) _ from ?_)
              exact bs_zret rfl rfl (by omega) (by omega) (by rw [hQ]; exact ⟨t, Hhp59, Fhp59, bs_an0, sf_S_cons (sf_s1 (x := z61.toInt) rfl (by omega) (by omega)) (sf_S_nil), (fun a s B n lim m j ha hS hC hj hk hpl h9 => by
                      have KK : z1.toInt = (tok B n lim j).k := Option.some.inj (hz1.symm.trans hk)
                      cases ha
                      rw [lnx_bad (by omega)]
                      exact LRES_bad ⟨z61, rfl, by omega⟩ (rhp59.trans (congrArg some (by omega))) (((ehp59 _ _ (Or.inr (by omega)))).trans hpl))⟩)
          · refine bs_tab 3 rfl (by omega) rfl ?_
            refine Ev.step (j := 105) (s' := ([some (.ref a0), some (.ref 3)], [.ref 3], (0, 0), hp)) rfl rfl ?_
            exact by
             refine bs_lit (k := 1) rfl rfl fun z62 hz62 => ?_
             refine Ev.inl (L := L_X9_fail) (nL := 2) rfl (bs_rcv (g := 9) H (bs_R.uq H (g := 9) rfl) (by decide) rfl) rfl (Nat.le_of_ble_eq_true rfl) ?_
             generalize hQ63 : (fun (o : ab_O) => Ev _ _ _ _) = Q63
             refine (show Ev (ab_T L_X9_fail) 0 ([some (.ref 3), some (.int z62)], [], (0, 0), hp) Q63 from ?_)
             refine Ev.step (j := 1) (s' := ([some (.ref 3), some (.int z62)], [.ref 3], (0, 0), hp)) rfl rfl ?_
             refine Ev.step (j := 2) (s' := ([some (.ref 3), some (.int z62)], [.int z62, .ref 3], (0, 0), hp)) rfl rfl ?_
             refine bs_putIv (W := [(9, 9, 9)]) (g := 9) rfl rfl H (bs_R.uq H (g := 9) rfl) (by decide) rfl rfl rfl rfl (Or.inl rfl) (by omega) (by omega) fun hp64 Hhp64 fhp64 rhp64 ehp64 qhp64 nhp64 => ?_
             have Fhp64 := sf_fr_tr F0 (sf_fr_wider (W := [(7, 7, 12), (9, 4, 9), (116, 0, 0), (117, 0, 0), (118, 0, 7), (119, 0, 47), (120, 0, 19), (121, 0, 19), (122, 0, 19)]) rfl fhp64)
             have h65 : sf_rd hp64 3 5 = some z1.toInt := (ehp64 _ _ (Or.inr (by omega))).trans hz1
             refine bs_lit (k := 0) rfl rfl fun z66 hz66 => ?_
             exact by
              refine bs_zret rfl rfl (by omega) (by omega) ?_
              rw [← hQ63]
              refine (show Ev _ 109 ([some (.ref a0), some (.ref 3)], [.int z66], (0, 0), hp64) _ from ?_)
              exact bs_zret rfl rfl (by omega) (by omega) (by rw [hQ]; exact ⟨t, Hhp64, Fhp64, bs_an0, sf_S_cons (sf_s1 (x := z66.toInt) rfl (by omega) (by omega)) (sf_S_nil), (fun a s B n lim m j ha hS hC hj hk hpl h9 => by
                      have KK : z1.toInt = (tok B n lim j).k := Option.some.inj (hz1.symm.trans hk)
                      cases ha
                      rw [lnx_bad (by omega)]
                      exact LRES_bad ⟨z66, rfl, by omega⟩ (rhp64.trans (congrArg some (by omega))) (((ehp64 _ _ (Or.inr (by omega)))).trans hpl))⟩)
          · refine bs_tab 4 rfl (by omega) rfl ?_
            refine Ev.step (j := 105) (s' := ([some (.ref a0), some (.ref 3)], [.ref 3], (0, 0), hp)) rfl rfl ?_
            exact by
             refine bs_lit (k := 1) rfl rfl fun z67 hz67 => ?_
             refine Ev.inl (L := L_X9_fail) (nL := 2) rfl (bs_rcv (g := 9) H (bs_R.uq H (g := 9) rfl) (by decide) rfl) rfl (Nat.le_of_ble_eq_true rfl) ?_
             generalize hQ68 : (fun (o : ab_O) => Ev _ _ _ _) = Q68
             refine (show Ev (ab_T L_X9_fail) 0 ([some (.ref 3), some (.int z67)], [], (0, 0), hp) Q68 from ?_)
             refine Ev.step (j := 1) (s' := ([some (.ref 3), some (.int z67)], [.ref 3], (0, 0), hp)) rfl rfl ?_
             refine Ev.step (j := 2) (s' := ([some (.ref 3), some (.int z67)], [.int z67, .ref 3], (0, 0), hp)) rfl rfl ?_
             refine bs_putIv (W := [(9, 9, 9)]) (g := 9) rfl rfl H (bs_R.uq H (g := 9) rfl) (by decide) rfl rfl rfl rfl (Or.inl rfl) (by omega) (by omega) fun hp69 Hhp69 fhp69 rhp69 ehp69 qhp69 nhp69 => ?_
             have Fhp69 := sf_fr_tr F0 (sf_fr_wider (W := [(7, 7, 12), (9, 4, 9), (116, 0, 0), (117, 0, 0), (118, 0, 7), (119, 0, 47), (120, 0, 19), (121, 0, 19), (122, 0, 19)]) rfl fhp69)
             have h70 : sf_rd hp69 3 5 = some z1.toInt := (ehp69 _ _ (Or.inr (by omega))).trans hz1
             refine bs_lit (k := 0) rfl rfl fun z71 hz71 => ?_
             exact by
              refine bs_zret rfl rfl (by omega) (by omega) ?_
              rw [← hQ68]
              refine (show Ev _ 109 ([some (.ref a0), some (.ref 3)], [.int z71], (0, 0), hp69) _ from ?_)
              exact bs_zret rfl rfl (by omega) (by omega) (by rw [hQ]; exact ⟨t, Hhp69, Fhp69, bs_an0, sf_S_cons (sf_s1 (x := z71.toInt) rfl (by omega) (by omega)) (sf_S_nil), (fun a s B n lim m j ha hS hC hj hk hpl h9 => by
                      have KK : z1.toInt = (tok B n lim j).k := Option.some.inj (hz1.symm.trans hk)
                      cases ha
                      rw [lnx_bad (by omega)]
                      exact LRES_bad ⟨z71, rfl, by omega⟩ (rhp69.trans (congrArg some (by omega))) (((ehp69 _ _ (Or.inr (by omega)))).trans hpl))⟩)
          · refine bs_tab 5 rfl (by omega) rfl ?_
            refine Ev.step (j := 105) (s' := ([some (.ref a0), some (.ref 3)], [.ref 3], (0, 0), hp)) rfl rfl ?_
            exact by
             refine bs_lit (k := 1) rfl rfl fun z72 hz72 => ?_
             refine Ev.inl (L := L_X9_fail) (nL := 2) rfl (bs_rcv (g := 9) H (bs_R.uq H (g := 9) rfl) (by decide) rfl) rfl (Nat.le_of_ble_eq_true rfl) ?_
             generalize hQ73 : (fun (o : ab_O) => Ev _ _ _ _) = Q73
             refine (show Ev (ab_T L_X9_fail) 0 ([some (.ref 3), some (.int z72)], [], (0, 0), hp) Q73 from ?_)
             refine Ev.step (j := 1) (s' := ([some (.ref 3), some (.int z72)], [.ref 3], (0, 0), hp)) rfl rfl ?_
             refine Ev.step (j := 2) (s' := ([some (.ref 3), some (.int z72)], [.int z72, .ref 3], (0, 0), hp)) rfl rfl ?_
             refine bs_putIv (W := [(9, 9, 9)]) (g := 9) rfl rfl H (bs_R.uq H (g := 9) rfl) (by decide) rfl rfl rfl rfl (Or.inl rfl) (by omega) (by omega) fun hp74 Hhp74 fhp74 rhp74 ehp74 qhp74 nhp74 => ?_
             have Fhp74 := sf_fr_tr F0 (sf_fr_wider (W := [(7, 7, 12), (9, 4, 9), (116, 0, 0), (117, 0, 0), (118, 0, 7), (119, 0, 47), (120, 0, 19), (121, 0, 19), (122, 0, 19)]) rfl fhp74)
             have h75 : sf_rd hp74 3 5 = some z1.toInt := (ehp74 _ _ (Or.inr (by omega))).trans hz1
             refine bs_lit (k := 0) rfl rfl fun z76 hz76 => ?_
             exact by
              refine bs_zret rfl rfl (by omega) (by omega) ?_
              rw [← hQ73]
              refine (show Ev _ 109 ([some (.ref a0), some (.ref 3)], [.int z76], (0, 0), hp74) _ from ?_)
              exact bs_zret rfl rfl (by omega) (by omega) (by rw [hQ]; exact ⟨t, Hhp74, Fhp74, bs_an0, sf_S_cons (sf_s1 (x := z76.toInt) rfl (by omega) (by omega)) (sf_S_nil), (fun a s B n lim m j ha hS hC hj hk hpl h9 => by
                      have KK : z1.toInt = (tok B n lim j).k := Option.some.inj (hz1.symm.trans hk)
                      cases ha
                      rw [lnx_bad (by omega)]
                      exact LRES_bad ⟨z76, rfl, by omega⟩ (rhp74.trans (congrArg some (by omega))) (((ehp74 _ _ (Or.inr (by omega)))).trans hpl))⟩)
          · refine bs_tab 6 rfl (by omega) rfl ?_
            refine Ev.step (j := 93) (s' := ([some (.ref a0), some (.ref 3)], [.ref a0], (0, 0), hp)) rfl rfl ?_
            exact by
             refine Ev.step (j := 94) (s' := ([some (.ref a0), some (.ref 3)], [.ref 3, .ref a0], (0, 0), hp)) rfl rfl ?_
             refine bs_callx (K := kq_X7_readMan_v) [.ref a0, .ref 3] [] rfl ce_X7_readMan_v H rfl rfl rfl (bs_rcv (g := 7) H (ra0.fr F0) (by decide) rfl) rfl ?_ (sf_S_nil) fun r77 hp78 thp78 Hhp78 fhp78 ahp78 php78 xhp78 => ?_
             · intro q k h
               match q, h with
               | 0, h => cases h; exact bs_jR (ra0.fr F0)
               | 1, h => cases h; exact bs_jR (bs_R.uq H (g := 9) rfl)
               | q + 2, h => cases h
             obtain ⟨z79, rfl⟩ := bs_anI ahp78
             have rgz79 := n_range z79
             have Fhp78 := sf_fr_tr F0 (sf_fr_wider (W := [(7, 7, 12), (9, 4, 9), (116, 0, 0), (117, 0, 0), (118, 0, 7), (119, 0, 47), (120, 0, 19), (121, 0, 19), (122, 0, 19)]) rfl fhp78)
             obtain ⟨uz79, vz79⟩ := bs_s1 (x := z79.toInt) rfl (php78 _ (List.mem_of_getElem? (i := 0) rfl))
             refine (show Ev _ 97 ([some (.ref a0), some (.ref 3)], [.int z79], (0, 0), hp78) _ from ?_)
             exact bs_zret rfl rfl (by omega) (by omega) (by rw [hQ]; exact ⟨thp78, Hhp78, Fhp78, bs_an0, sf_S_cons (sf_s1 (x := z79.toInt) rfl (by omega) (by omega)) (sf_S_nil), (fun a s B n lim m j ha hS hC hj hk hpl h9 => by
                     have KK : z1.toInt = (tok B n lim j).k := Option.some.inj (hz1.symm.trans hk)
                     have J1 := CK_more hC.1 hj (by omega) (by omega)
                     cases ha
                     rw [lnx_man (by omega)]
                     exact xhp78 _ s B n lim m j rfl hS hC J1 hpl h9)⟩)
          · refine bs_tab 7 rfl (by omega) rfl ?_
            refine Ev.step (j := 99) (s' := ([some (.ref a0), some (.ref 3)], [.ref a0], (0, 0), hp)) rfl rfl ?_
            exact by
             refine Ev.step (j := 100) (s' := ([some (.ref a0), some (.ref 3)], [.ref 3, .ref a0], (0, 0), hp)) rfl rfl ?_
             refine bs_callx (K := kq_X7_readMisses_v) [.ref a0, .ref 3] [] rfl ce_X7_readMisses_v H rfl rfl rfl (bs_rcv (g := 7) H (ra0.fr F0) (by decide) rfl) rfl ?_ (sf_S_nil) fun r80 hp81 thp81 Hhp81 fhp81 ahp81 php81 xhp81 => ?_
             · intro q k h
               match q, h with
               | 0, h => cases h; exact bs_jR (ra0.fr F0)
               | 1, h => cases h; exact bs_jR (bs_R.uq H (g := 9) rfl)
               | q + 2, h => cases h
             obtain ⟨z82, rfl⟩ := bs_anI ahp81
             have rgz82 := n_range z82
             have Fhp81 := sf_fr_tr F0 (sf_fr_wider (W := [(7, 7, 12), (9, 4, 9), (116, 0, 0), (117, 0, 0), (118, 0, 7), (119, 0, 47), (120, 0, 19), (121, 0, 19), (122, 0, 19)]) rfl fhp81)
             obtain ⟨uz82, vz82⟩ := bs_s1 (x := z82.toInt) rfl (php81 _ (List.mem_of_getElem? (i := 0) rfl))
             refine (show Ev _ 103 ([some (.ref a0), some (.ref 3)], [.int z82], (0, 0), hp81) _ from ?_)
             exact bs_zret rfl rfl (by omega) (by omega) (by rw [hQ]; exact ⟨thp81, Hhp81, Fhp81, bs_an0, sf_S_cons (sf_s1 (x := z82.toInt) rfl (by omega) (by omega)) (sf_S_nil), (fun a s B n lim m j ha hS hC hj hk hpl h9 => by
                     have KK : z1.toInt = (tok B n lim j).k := Option.some.inj (hz1.symm.trans hk)
                     have J1 := CK_more hC.1 hj (by omega) (by omega)
                     cases ha
                     rw [lnx_miss (by omega)]
                     exact xhp81 _ s B n lim m j rfl hS hC J1 hpl h9)⟩)
          · refine bs_tabD rfl (by show _ ∨ _ + ((8 : Nat) : Int) ≤ _; omega) ?_
            refine Ev.step (j := 105) (s' := ([some (.ref a0), some (.ref 3)], [.ref 3], (0, 0), hp)) rfl rfl ?_
            exact by
             refine bs_lit (k := 1) rfl rfl fun z83 hz83 => ?_
             refine Ev.inl (L := L_X9_fail) (nL := 2) rfl (bs_rcv (g := 9) H (bs_R.uq H (g := 9) rfl) (by decide) rfl) rfl (Nat.le_of_ble_eq_true rfl) ?_
             generalize hQ84 : (fun (o : ab_O) => Ev _ _ _ _) = Q84
             refine (show Ev (ab_T L_X9_fail) 0 ([some (.ref 3), some (.int z83)], [], (0, 0), hp) Q84 from ?_)
             refine Ev.step (j := 1) (s' := ([some (.ref 3), some (.int z83)], [.ref 3], (0, 0), hp)) rfl rfl ?_
             refine Ev.step (j := 2) (s' := ([some (.ref 3), some (.int z83)], [.int z83, .ref 3], (0, 0), hp)) rfl rfl ?_
             refine bs_putIv (W := [(9, 9, 9)]) (g := 9) rfl rfl H (bs_R.uq H (g := 9) rfl) (by decide) rfl rfl rfl rfl (Or.inl rfl) (by omega) (by omega) fun hp85 Hhp85 fhp85 rhp85 ehp85 qhp85 nhp85 => ?_
             have Fhp85 := sf_fr_tr F0 (sf_fr_wider (W := [(7, 7, 12), (9, 4, 9), (116, 0, 0), (117, 0, 0), (118, 0, 7), (119, 0, 47), (120, 0, 19), (121, 0, 19), (122, 0, 19)]) rfl fhp85)
             have h86 : sf_rd hp85 3 5 = some z1.toInt := (ehp85 _ _ (Or.inr (by omega))).trans hz1
             refine bs_lit (k := 0) rfl rfl fun z87 hz87 => ?_
             exact by
              refine bs_zret rfl rfl (by omega) (by omega) ?_
              rw [← hQ84]
              refine (show Ev _ 109 ([some (.ref a0), some (.ref 3)], [.int z87], (0, 0), hp85) _ from ?_)
              exact bs_zret rfl rfl (by omega) (by omega) (by rw [hQ]; exact ⟨t, Hhp85, Fhp85, bs_an0, sf_S_cons (sf_s1 (x := z87.toInt) rfl (by omega) (by omega)) (sf_S_nil), (fun a s B n lim m j ha hS hC hj hk hpl h9 => by
                      have KK : z1.toInt = (tok B n lim j).k := Option.some.inj (hz1.symm.trans hk)
                      cases ha
                      rw [lnx_bad (by omega)]
                      exact LRES_bad ⟨z87, rfl, by omega⟩ (rhp85.trans (congrArg some (by omega))) (((ehp85 _ _ (Or.inr (by omega)))).trans hpl))⟩)
        · skip
          refine Ev.step (j := 19) (s' := ([some (.ref a0), some (.ref 3)], [.ref a0], (0, 0), hp)) rfl rfl ?_
          exact by
           refine Ev.step (j := 20) (s' := ([some (.ref a0), some (.ref 3)], [.ref 3, .ref a0], (0, 0), hp)) rfl rfl ?_
           refine Ev.step (j := 21) (s' := ([some (.ref a0), some (.ref 3)], [.ref 3, .ref 3, .ref a0], (0, 0), hp)) rfl rfl ?_
           refine bs_getI 9 rfl rfl rfl H (bs_R.uq H (g := 9) rfl) (by decide) rfl fun z88 hz88 lz88 gz88 => ?_
           have e89 : z88.toInt = z1.toInt := Option.some.inj (hz88.symm.trans hz1)
           refine bs_lit (k := 66) rfl rfl fun z90 hz90 => ?_
           first | (refine bs_sub rfl (by omega) (by omega) fun z91 hz91 => ?_) | (refine bs_any rfl fun z91 => ?_)
           have rz91 := n_range z91
           refine bs_callx (K := kq_X7_readAmount_v) [.ref a0, .ref 3, .int z91] [] rfl ce_X7_readAmount_v H rfl rfl rfl (bs_rcv (g := 7) H (ra0.fr F0) (by decide) rfl) rfl ?_ (sf_S_cons (sf_s1 (x := z91.toInt) rfl (by omega) (by omega)) (sf_S_nil)) fun r92 hp93 thp93 Hhp93 fhp93 ahp93 php93 xhp93 => ?_
           · intro q k h
             match q, h with
             | 0, h => cases h; exact bs_jR (ra0.fr F0)
             | 1, h => cases h; exact bs_jR (bs_R.uq H (g := 9) rfl)
             | 2, h => cases h; exact sf_j0
             | q + 3, h => cases h
           obtain ⟨z94, rfl⟩ := bs_anI ahp93
           have rgz94 := n_range z94
           have Fhp93 := sf_fr_tr F0 (sf_fr_wider (W := [(7, 7, 12), (9, 4, 9), (116, 0, 0), (117, 0, 0), (118, 0, 7), (119, 0, 47), (120, 0, 19), (121, 0, 19), (122, 0, 19)]) rfl fhp93)
           obtain ⟨uz94, vz94⟩ := bs_s1 (x := z94.toInt) rfl (php93 _ (List.mem_of_getElem? (i := 0) rfl))
           refine (show Ev _ 30 ([some (.ref a0), some (.ref 3)], [.int z94], (0, 0), hp93) _ from ?_)
           exact bs_zret rfl rfl (by omega) (by omega) (by rw [hQ]; exact ⟨thp93, Hhp93, Fhp93, bs_an0, sf_S_cons (sf_s1 (x := z94.toInt) rfl (by omega) (by omega)) (sf_S_nil), (fun a s B n lim m j ha hS hC hj hk hpl h9 => by
                   have KK : z1.toInt = (tok B n lim j).k := Option.some.inj (hz1.symm.trans hk)
                   have J1 := CK_more hC.1 hj (by omega) (by omega)
                   cases ha
                   rw [lnx_amt (by omega)]
                   have X := xhp93 _ s B n lim m j _ rfl hS hC J1 hpl h9
                   rw [show (z91.toInt).toNat = ((tok B n lim j).k - 66).toNat by omega] at X
                   exact X)⟩)
def kq_X9_takeSign_v : sf_Q := ([(1, 9, 0), (0, 0, 0)], [], some (0, 0, 0), [(1, 0, 0, 0, 1, 0)], [(9, 4, 9)])
def ke_X9_takeSign_v : List Value → ab_H → Option Value → ab_H → Prop := fun as hp r hp' => ∀ (d : Int32) (B : Nat → Int) (n lim m i : Nat), as = [.ref 3, .int d] → CK hp B n lim m i → i < m → ∃ z : Int32, r = some (.int z) ∧ ((z.toInt = 1 ∧ (tok B n lim i).k = d.toInt ∧ CUR hp' (tok B n lim i) ∧ CK hp' B n lim m (i + 1) ∧ sf_rd hp' 3 9 = sf_rd hp 3 9) ∨ (z.toInt = 0 ∧ sf_rd hp' 3 6 = some (tok B n lim i).pl ∧ (tok B n lim i).k ≠ d.toInt ∧ sf_rd hp' 3 9 = some 1))
set_option maxRecDepth 100000 in
set_option maxHeartbeats 4000000 in
theorem ce_X9_takeSign_v : sf_cE kq_X9_takeSign_v Z_X9_takeSign ke_X9_takeSign_v := by
  intro t hp as H hl hj hpre
  match as, hl with
  | [v0, v1], _ =>
    obtain ⟨a0, rfl, ra0⟩ := bs_aR (hj 0 _ rfl)
    obtain rfl := ra0.eq H (p := 3) rfl
    obtain ⟨x1, rfl⟩ := bs_aI (hj 1 _ rfl)
    have rg1 := n_range x1
    clear hpre hj
    have F0 : sf_fr [(9, 4, 9)] t hp t hp := sf_fr_rf
    refine bs_finx (E := ke_X9_takeSign_v) (K := kq_X9_takeSign_v) (L := (L_X9_takeSign Z_X9_step Z_X9_fail)) (nL := 2) (Nat.le_of_ble_eq_true rfl) ?_
    obtain ⟨Q, hQ⟩ : ∃ Q : ab_O → Prop, Q = (fun o => ∃ t', sf_h t' o.2 ∧ sf_fr (kq_X9_takeSign_v).2.2.2.2 t hp t' o.2 ∧ sf_an t' o.2.1 (kq_X9_takeSign_v).2.2.1 o.1 ∧ sf_S (sf_v1 o.1 [.ref 3, .int x1] o.2) (kq_X9_takeSign_v).2.2.2.1 ∧ ke_X9_takeSign_v [.ref 3, .int x1] hp o.1 o.2) := ⟨_, rfl⟩
    rw [← hQ]
    refine (show Ev (ab_T (L_X9_takeSign Z_X9_step Z_X9_fail)) 0 ([some (.ref 3), some (.int x1)], [], (0, 0), hp) Q from ?_)
    exact by
     refine Ev.step (j := 1) (s' := ([some (.ref 3), some (.int x1)], [.ref 3], (0, 0), hp)) rfl rfl ?_
     refine bs_callx (K := kq_X9_step_v) [.ref 3] [] rfl ce_X9_step_v H rfl rfl rfl (bs_rcv (g := 9) H (bs_R.uq H (g := 9) rfl) (by decide) rfl) rfl ?_ (sf_S_nil) fun r1 hp2 thp2 Hhp2 fhp2 ahp2 php2 xhp2 => ?_
     · intro q k h
       match q, h with
       | 0, h => cases h; exact bs_jR (bs_R.uq H (g := 9) rfl)
       | q + 1, h => cases h
     obtain rfl := ahp2.1 rfl
     have Fhp2 := sf_fr_tr F0 (sf_fr_wider (W := [(9, 4, 9)]) rfl fhp2)
     refine (show Ev _ 4 ([some (.ref 3), some (.int x1)], [], (0, 0), hp2) _ from ?_)
     refine Ev.step (j := 5) (s' := ([some (.ref 3), some (.int x1)], [.ref 3], (0, 0), hp2)) rfl rfl ?_
     refine bs_getI 9 rfl rfl rfl Hhp2 (bs_R.uq Hhp2 (g := 9) rfl) (by decide) rfl fun z3 hz3 lz3 gz3 => ?_
     refine Ev.step (j := 9) (s' := ([some (.ref 3), some (.int x1)], [.int x1, .int z3], (0, 0), hp2)) rfl rfl ?_
     exact by
      refine bs_eq rfl (fun c4 => ?_) (fun c4 => ?_)
      · skip
        refine bs_lit (k := 1) rfl rfl fun z5 hz5 => ?_
        refine Ev.step (j := 25) (s' := ([some (.ref 3), some (.int x1)], [.int z5], (0, 0), hp2)) rfl rfl ?_
        exact bs_zret rfl rfl (by omega) (by omega) (by rw [hQ]; exact ⟨thp2, Hhp2, Fhp2, bs_an0, sf_S_cons (sf_s1 (x := z5.toInt) rfl (by omega) (by omega)) (sf_S_nil), (fun d B n lim m i ha hC hi_ => by
                cases ha; obtain ⟨⟨c1, c2, c3, c4⟩, CK1⟩ := xhp2 B n lim m i hC hi_; have KK : z3.toInt = (tok B n lim i).k := Option.some.inj (hz3.symm.trans c1)
                exact ⟨z5, rfl, Or.inl ⟨by omega, by omega, ⟨c1, c2, c3, c4⟩, CK1, (fhp2.2.2.1 _ (bs_R.uq H (g := 9) (p := 3) rfl).1 _ (by rw [(bs_R.uq H (g := 9) (p := 3) rfl).2]; rfl))⟩⟩)⟩)
      · skip
        refine Ev.step (j := 13) (s' := ([some (.ref 3), some (.int x1)], [.ref 3], (0, 0), hp2)) rfl rfl ?_
        refine bs_lit (k := 1) rfl rfl fun z6 hz6 => ?_
        refine Ev.inl (L := L_X9_fail) (nL := 2) rfl (bs_rcv (g := 9) Hhp2 (bs_R.uq Hhp2 (g := 9) rfl) (by decide) rfl) rfl (Nat.le_of_ble_eq_true rfl) ?_
        generalize hQ7 : (fun (o : ab_O) => Ev _ _ _ _) = Q7
        refine (show Ev (ab_T L_X9_fail) 0 ([some (.ref 3), some (.int z6)], [], (0, 0), hp2) Q7 from ?_)
        refine Ev.step (j := 1) (s' := ([some (.ref 3), some (.int z6)], [.ref 3], (0, 0), hp2)) rfl rfl ?_
        exact by
         refine Ev.step (j := 2) (s' := ([some (.ref 3), some (.int z6)], [.int z6, .ref 3], (0, 0), hp2)) rfl rfl ?_
         refine bs_putIv (W := [(9, 9, 9)]) (g := 9) rfl rfl Hhp2 (bs_R.uq Hhp2 (g := 9) rfl) (by decide) rfl rfl rfl rfl (Or.inl rfl) (by omega) (by omega) fun hp8 Hhp8 fhp8 rhp8 ehp8 qhp8 nhp8 => ?_
         have Fhp8 := sf_fr_tr Fhp2 (sf_fr_wider (W := [(9, 4, 9)]) rfl fhp8)
         have h9 : sf_rd hp8 3 5 = some z3.toInt := (ehp8 _ _ (Or.inr (by omega))).trans hz3
         refine bs_lit (k := 0) rfl rfl fun z10 hz10 => ?_
         refine bs_zret rfl rfl (by omega) (by omega) ?_
         rw [← hQ7]
         refine (show Ev _ 17 ([some (.ref 3), some (.int x1)], [.int z10], (0, 0), hp8) _ from ?_)
         refine bs_ifeq rfl (fun c11 => ?_) (fun c11 => ?_)
         · skip
           refine bs_lit (k := 0) rfl rfl fun z12 hz12 => ?_
           exact bs_zret rfl rfl (by omega) (by omega) (by rw [hQ]; exact ⟨thp2, Hhp8, Fhp8, bs_an0, sf_S_cons (sf_s1 (x := z12.toInt) rfl (by omega) (by omega)) (sf_S_nil), (fun d B n lim m i ha hC hi_ => by
                   cases ha; obtain ⟨⟨c1, c2, c3, c4⟩, CK1⟩ := xhp2 B n lim m i hC hi_; have KK : z3.toInt = (tok B n lim i).k := Option.some.inj (hz3.symm.trans c1)
                   exact ⟨z12, rfl, Or.inr ⟨by omega, ((ehp8 _ _ (Or.inr (by omega)))).trans c2, by omega, rhp8.trans (congrArg some (by omega))⟩⟩)⟩)
         · exfalso; omega
def kq_X7_readText_v : sf_Q := ([(1, 7, 0), (1, 9, 0)], [], some (0, 0, 0), [], [(7, 7, 12), (9, 4, 9), (116, 0, 0), (117, 0, 0), (118, 0, 7), (119, 0, 47), (120, 0, 19), (121, 0, 19), (122, 0, 19)])
def ke_X7_readText_v (B : Nat → Int) (n lim m : Nat) : List Value → ab_H → Option Value → ab_H → Prop := fun as hp r hp' => ∀ a : Nat, as = [.ref a, .ref 3] → ∃ (z : Int32) (f : Int) (s : PS), r = some (.int z) ∧ sf_rd hp' 3 9 = some f ∧ ((f = 0 ∧ ANS (tok B n lim) z.toInt 0 s ∧ SC hp' a s) ∨ (f ≠ 0 ∧ ∃ pl, sf_rd hp' 3 6 = some pl ∧ ANS (tok B n lim) (-1 - pl) f s))
set_option maxRecDepth 100000 in
set_option maxHeartbeats 4000000 in
theorem cp_X7_readText_v {B : Nat → Int} {n lim m : Nat} : sf_cG kq_X7_readText_v Z_X7_readText (fun hp => CK hp B n lim m 0 ∧ sf_rd hp 3 9 = some 0) (ke_X7_readText_v B n lim m) := by
  intro t hp as H hl hj hpre hG
  match as, hl with
  | [v0, v1], _ =>
    obtain ⟨a0, rfl, ra0⟩ := bs_aR (hj 0 _ rfl)
    obtain ⟨a1, rfl, ra1⟩ := bs_aR (hj 1 _ rfl)
    obtain rfl := ra1.eq H (p := 3) rfl
    clear hpre hj
    have F0 : sf_fr [(7, 7, 12), (9, 4, 9), (116, 0, 0), (117, 0, 0), (118, 0, 7), (119, 0, 47), (120, 0, 19), (121, 0, 19), (122, 0, 19)] t hp t hp := sf_fr_rf
    refine bs_finx (E := (ke_X7_readText_v B n lim m)) (K := kq_X7_readText_v) (L := (L_X7_readText Z_X7_clear Z_X9_step Z_X7_readLine Z_X9_takeSign)) (nL := 3) (Nat.le_of_ble_eq_true rfl) ?_
    obtain ⟨Q, hQ⟩ : ∃ Q : ab_O → Prop, Q = (fun o => ∃ t', sf_h t' o.2 ∧ sf_fr (kq_X7_readText_v).2.2.2.2 t hp t' o.2 ∧ sf_an t' o.2.1 (kq_X7_readText_v).2.2.1 o.1 ∧ sf_S (sf_v1 o.1 [.ref a0, .ref 3] o.2) (kq_X7_readText_v).2.2.2.1 ∧ (ke_X7_readText_v B n lim m) [.ref a0, .ref 3] hp o.1 o.2) := ⟨_, rfl⟩
    rw [← hQ]
    refine (show Ev (ab_T (L_X7_readText Z_X7_clear Z_X9_step Z_X7_readLine Z_X9_takeSign)) 0 ([some (.ref a0), some (.ref 3), none], [], (0, 0), hp) Q from ?_)
    obtain ⟨hC, h9⟩ := hG
    refine Ev.step (j := 1) (s' := ([some (.ref a0), some (.ref 3), none], [.ref a0], (0, 0), hp)) rfl rfl ?_
    exact by
     refine bs_callx (K := kq_X7_clear_v) [.ref a0] [] rfl ce_X7_clear_v H rfl rfl rfl (bs_rcv (g := 7) H (ra0.fr F0) (by decide) rfl) rfl ?_ (sf_S_nil) fun r1 hp2 thp2 Hhp2 fhp2 ahp2 php2 xhp2 => ?_
     · intro q k h
       match q, h with
       | 0, h => cases h; exact bs_jR (ra0.fr F0)
       | q + 1, h => cases h
     obtain rfl := ahp2.1 rfl
     have Fhp2 := sf_fr_tr F0 (sf_fr_wider (W := [(7, 7, 12), (9, 4, 9), (116, 0, 0), (117, 0, 0), (118, 0, 7), (119, 0, 47), (120, 0, 19), (121, 0, 19), (122, 0, 19)]) rfl fhp2)
     refine (show Ev _ 4 ([some (.ref a0), some (.ref 3), none], [], (0, 0), hp2) _ from ?_)
     have SC0 := xhp2 _ rfl
     have CK0 : CK hp2 B n lim m 0 := ⟨TKS_fr H hC.1 fhp2 rfl rfl rfl rfl, ((fhp2.2.2.1 _ (bs_R.uq H (g := 9) (p := 3) rfl).1 _ (by rw [(bs_R.uq H (g := 9) (p := 3) rfl).2]; rfl))).trans hC.2.1, hC.2.2⟩
     have N90 : sf_rd hp2 3 9 = some 0 := ((fhp2.2.2.1 _ (bs_R.uq H (g := 9) (p := 3) rfl).1 _ (by rw [(bs_R.uq H (g := 9) (p := 3) rfl).2]; rfl))).trans h9
     refine bs_lit (k := 0) rfl rfl fun z3 hz3 => ?_
     exact by
      refine Ev.step (j := 6) (s' := ([some (.ref a0), some (.ref 3), some (.int z3)], [], (0, 0), hp2)) rfl rfl ?_
      have m1 := hC.1.1
      have INV : ∃ (s : PS) (i : Nat), lns (tok B n lim) z3.toInt.toNat = some (s, i) ∧ SC hp2 a0 s ∧ CK hp2 B n lim m i ∧ i < m ∧ sf_rd hp2 3 9 = some 0 ∧ 3 * z3.toInt.toNat ≤ i := ⟨s0, 0, by rw [show z3.toInt.toNat = 0 by omega]; rfl, SC0, CK0, by omega, N90, by omega⟩
      refine bs_loop (ι := Int32 × ab_H × (Nat → Nat)) (fun ⟨k4, hp5, t6⟩ => ([some (.ref a0), some (.ref 3), some (.int k4)], [], (0, 0), hp5)) (fun ⟨k4, hp5, t6⟩ => (sf_h t6 hp5) ∧ (sf_fr [(7, 7, 12), (9, 4, 9), (116, 0, 0), (117, 0, 0), (118, 0, 7), (119, 0, 47), (120, 0, 19), (121, 0, 19), (122, 0, 19)] t hp t6 hp5) ∧ (0 ≤ k4.toInt ∧ k4.toInt ≤ 901) ∧ (∃ (s : PS) (i : Nat), lns (tok B n lim) k4.toInt.toNat = some (s, i) ∧ SC hp5 a0 s ∧ CK hp5 B n lim m i ∧ i < m ∧ sf_rd hp5 3 9 = some 0 ∧ 3 * k4.toInt.toNat ≤ i)) (fun ⟨k4, hp5, t6⟩ => (901 - k4.toInt).toNat) ?_ (z3, hp2, thp2) ⟨Hhp2, Fhp2, (by first | omega | assumption), (by exact INV)⟩
      rintro ⟨k4, hp5, t6⟩ ⟨Hhp5, Fhp5, i8, i9⟩ ih7
      clear INV
      refine (show Ev _ 6 ([some (.ref a0), some (.ref 3), some (.int k4)], [], (0, 0), hp5) _ from ?_)
      obtain ⟨s, i, LN, S0, C0, im, N9, I3⟩ := i9
      have m9 := C0.1.2.1
      refine Ev.step (j := 7) (s' := ([some (.ref a0), some (.ref 3), some (.int k4)], [.int k4], (0, 0), hp5)) rfl rfl ?_
      exact by
       refine bs_lit (k := 900) rfl rfl fun z10 hz10 => ?_
       refine bs_gt rfl (fun c11 => ?_) (fun c11 => ?_)
       · skip
         refine bs_lit (k := -1) rfl rfl fun z12 hz12 => ?_
         exact Ev.ret rfl rfl (by rw [hQ]; exact ⟨t6, Hhp5, Fhp5, bs_an0, sf_S_nil, (fun a ha => by
                 cases ha
                 exfalso; omega)⟩)
       · skip
         refine Ev.step (j := 14) (s' := ([some (.ref a0), some (.ref 3), some (.int k4)], [.ref 3], (0, 0), hp5)) rfl rfl ?_
         refine bs_callx (K := kq_X9_step_v) [.ref 3] [] rfl ce_X9_step_v Hhp5 rfl rfl rfl (bs_rcv (g := 9) Hhp5 (bs_R.uq Hhp5 (g := 9) rfl) (by decide) rfl) rfl ?_ (sf_S_nil) fun r13 hp14 thp14 Hhp14 fhp14 ahp14 php14 xhp14 => ?_
         · intro q k h
           match q, h with
           | 0, h => cases h; exact bs_jR (bs_R.uq Hhp5 (g := 9) rfl)
           | q + 1, h => cases h
         obtain rfl := ahp14.1 rfl
         have Fhp14 := sf_fr_tr Fhp5 (sf_fr_wider (W := [(7, 7, 12), (9, 4, 9), (116, 0, 0), (117, 0, 0), (118, 0, 7), (119, 0, 47), (120, 0, 19), (121, 0, 19), (122, 0, 19)]) rfl fhp14)
         refine (show Ev _ 17 ([some (.ref a0), some (.ref 3), some (.int k4)], [], (0, 0), hp14) _ from ?_)
         obtain ⟨CU, C1⟩ := xhp14 B n lim m i C0 im
         have S1 := SC_fr Hhp5 (ra0.fr Fhp5) S0 fhp14 rfl rfl
         have N91 : sf_rd hp14 3 9 = some 0 := ((fhp14.2.2.1 _ (bs_R.uq Hhp5 (g := 9) (p := 3) rfl).1 _ (by rw [(bs_R.uq Hhp5 (g := 9) (p := 3) rfl).2]; rfl))).trans N9
         refine Ev.step (j := 18) (s' := ([some (.ref a0), some (.ref 3), some (.int k4)], [.ref 3], (0, 0), hp14)) rfl rfl ?_
         exact by
          refine bs_getI 9 rfl rfl rfl Hhp14 (bs_R.uq Hhp14 (g := 9) rfl) (by decide) rfl fun z15 hz15 lz15 gz15 => ?_
          have KK : z15.toInt = (tok B n lim i).k := Option.some.inj (hz15.symm.trans CU.1)
          refine bs_ifne rfl (fun c16 => ?_) (fun c16 => ?_)
          · skip
            refine Ev.step (j := 27) (s' := ([some (.ref a0), some (.ref 3), some (.int k4)], [.ref a0], (0, 0), hp14)) rfl rfl ?_
            refine Ev.step (j := 28) (s' := ([some (.ref a0), some (.ref 3), some (.int k4)], [.ref 3, .ref a0], (0, 0), hp14)) rfl rfl ?_
            refine bs_callx (K := kq_X7_readLine_v) [.ref a0, .ref 3] [] rfl ce_X7_readLine_v Hhp14 rfl rfl rfl (bs_rcv (g := 7) Hhp14 (ra0.fr Fhp14) (by decide) rfl) rfl ?_ (sf_S_nil) fun r17 hp18 thp18 Hhp18 fhp18 ahp18 php18 xhp18 => ?_
            · intro q k h
              match q, h with
              | 0, h => cases h; exact bs_jR (ra0.fr Fhp14)
              | 1, h => cases h; exact bs_jR (bs_R.uq Hhp14 (g := 9) rfl)
              | q + 2, h => cases h
            obtain ⟨z19, rfl⟩ := bs_anI ahp18
            have rgz19 := n_range z19
            have Fhp18 := sf_fr_tr Fhp14 (sf_fr_wider (W := [(7, 7, 12), (9, 4, 9), (116, 0, 0), (117, 0, 0), (118, 0, 7), (119, 0, 47), (120, 0, 19), (121, 0, 19), (122, 0, 19)]) rfl fhp18)
            obtain ⟨uz19, vz19⟩ := bs_s1 (x := z19.toInt) rfl (php18 _ (List.mem_of_getElem? (i := 0) rfl))
            refine (show Ev _ 31 ([some (.ref a0), some (.ref 3), some (.int k4)], [.int z19], (0, 0), hp18) _ from ?_)
            have XL := xhp18 _ s B n lim m i rfl S1 C1 im CU.1 CU.2.1 N91
            refine bs_ifeq rfl (fun c20 => ?_) (fun c20 => ?_)
            · skip
              have c21 : z19.toInt = 0 := by omega
              refine bs_lit (k := -1) rfl rfl fun z22 hz22 => ?_
              exact Ev.ret rfl rfl (by rw [hQ]; exact ⟨thp18, Hhp18, Fhp18, bs_an0, sf_S_nil, (fun a ha => by
                      cases ha
                      obtain ⟨f2, j2, HL, Q4, Q2⟩ := LRES_neg XL (by omega)
                      have LO : 1 ≤ f2 := by have := lnx_ok (tok B n lim) s i; rw [HL] at this; exact this
                      exact ⟨z22, f2, s, rfl, Q4, Or.inr ⟨by omega, _, Q2, ⟨k4.toInt.toNat, i, LN, stp_bad (by omega) HL⟩⟩⟩)⟩)
            · skip
              obtain ⟨s2, j2, HL, S2, C2, N92, jm⟩ := LRES_pos XL (by omega)
              have LO : i + 2 ≤ j2 := by have := lnx_ok (tok B n lim) s i; rw [HL] at this; exact this
              refine Ev.step (j := 35) (s' := ([some (.ref a0), some (.ref 3), some (.int k4)], [.ref 3], (0, 0), hp18)) rfl rfl ?_
              exact by
               refine bs_lit (k := 59) rfl rfl fun z23 hz23 => ?_
               refine bs_callx (K := kq_X9_takeSign_v) [.ref 3, .int z23] [] rfl ce_X9_takeSign_v Hhp18 rfl rfl rfl (bs_rcv (g := 9) Hhp18 (bs_R.uq Hhp18 (g := 9) rfl) (by decide) rfl) rfl ?_ (sf_S_nil) fun r24 hp25 thp25 Hhp25 fhp25 ahp25 php25 xhp25 => ?_
               · intro q k h
                 match q, h with
                 | 0, h => cases h; exact bs_jR (bs_R.uq Hhp18 (g := 9) rfl)
                 | 1, h => cases h; exact sf_j0
                 | q + 2, h => cases h
               obtain ⟨z26, rfl⟩ := bs_anI ahp25
               have rgz26 := n_range z26
               have Fhp25 := sf_fr_tr Fhp18 (sf_fr_wider (W := [(7, 7, 12), (9, 4, 9), (116, 0, 0), (117, 0, 0), (118, 0, 7), (119, 0, 47), (120, 0, 19), (121, 0, 19), (122, 0, 19)]) rfl fhp25)
               obtain ⟨uz26, vz26⟩ := bs_s1 (x := z26.toInt) rfl (php25 _ (List.mem_of_getElem? (i := 0) rfl))
               refine (show Ev _ 40 ([some (.ref a0), some (.ref 3), some (.int k4)], [.int z26], (0, 0), hp25) _ from ?_)
               obtain ⟨q3, rq3, XS⟩ := xhp25 _ B n lim m j2 rfl C2 jm
               obtain rfl := Value.int.inj (Option.some.inj rq3)
               have S3 := SC_fr Hhp18 (ra0.fr Fhp18) S2 fhp25 rfl rfl
               refine bs_ifne rfl (fun c27 => ?_) (fun c27 => ?_)
               · skip
                 refine bs_iinc (1) rfl rfl rfl rfl (by omega) (by omega) fun z28 hz28 => ?_
                 exact by
                  refine (show Ev _ 48 ([some (.ref a0), some (.ref 3), some (.int z28)], [], (0, 0), hp25) _ from ?_)
                  refine Ev.step (j := 6) (s' := ([some (.ref a0), some (.ref 3), some (.int z28)], [], (0, 0), hp25)) rfl rfl ?_
                  obtain ⟨Q1, Q2, Q3, Q4, Q5⟩ := XS.resolve_right (fun h => absurd h.1 (by omega))
                  have INV : ∃ (s : PS) (i : Nat), lns (tok B n lim) z28.toInt.toNat = some (s, i) ∧ SC hp25 a0 s ∧ CK hp25 B n lim m i ∧ i < m ∧ sf_rd hp25 3 9 = some 0 ∧ 3 * z28.toInt.toNat ≤ i := ⟨s2, j2 + 1, by rw [show z28.toInt.toNat = k4.toInt.toNat + 1 by omega]; exact lns_next LN (by omega) HL (by omega), S3, Q4, CK_more Q4.1 jm (by omega) (by omega), Q5.trans N92, by omega⟩
                  refine ih7 (z28, hp25, thp25) ⟨Hhp25, Fhp25, (by first | omega | assumption), (by exact INV)⟩ ?_
                  show (901 - z28.toInt).toNat < (901 - k4.toInt).toNat
                  omega
               · skip
                 have c29 : z26.toInt = 0 := by omega
                 refine bs_lit (k := -1) rfl rfl fun z30 hz30 => ?_
                 exact Ev.ret rfl rfl (by rw [hQ]; exact ⟨thp25, Hhp25, Fhp25, bs_an0, sf_S_nil, (fun a ha => by
                         cases ha
                         obtain ⟨Q1, Q2, Q3, Q4⟩ := XS.resolve_left (fun h => absurd h.1 (by omega))
                         exact ⟨z30, 1, s, rfl, Q4, Or.inr ⟨by decide, _, Q2, ⟨k4.toInt.toNat, i, LN, stp_sign (by omega) HL (by omega)⟩⟩⟩)⟩)
          · skip
            have c31 : z15.toInt = 0 := by omega
            refine Ev.step (j := 25) (s' := ([some (.ref a0), some (.ref 3), some (.int k4)], [.int k4], (0, 0), hp14)) rfl rfl ?_
            exact Ev.ret rfl rfl (by rw [hQ]; exact ⟨thp14, Hhp14, Fhp14, bs_an0, sf_S_nil, (fun a ha => by
                    cases ha
                    exact ⟨k4, 0, s, rfl, N91, Or.inl ⟨rfl, ⟨k4.toInt.toNat, i, LN, (stp_end (by omega)).trans (congrArg some (Prod.ext (by show ((k4.toInt.toNat : Nat) : Int) = _; omega) rfl))⟩, S1⟩⟩)⟩)
end
-- 63.b30.lean.txt
section
def kq_X10_strait_v : sf_Q := ([(1, 10, 0)], [], some (0, 0, 0), [], [(2, 1, 1), (5, 5, 5), (6, 7, 9), (7, 7, 12), (8, 1, 2), (9, 3, 9), (10, 13, 14), (10, 18, 18), (116, 0, 0), (117, 0, 0), (118, 0, 7), (119, 0, 47), (120, 0, 19), (121, 0, 19), (122, 0, 19), (124, 0, 900), (125, 0, 900), (126, 0, 0), (149, 0, 11), (150, 0, 11), (151, 0, 11), (152, 0, 11), (153, 0, 7), (154, 0, 7), (155, 0, 63)])
def ke_X10_strait_v : List Value → ab_H → Option Value → ab_H → Prop := fun _ hp r hp' => ∀ n : Int, sf_rd hp 1 1 = some n → ∃ (z : Int32) (f : Int) (s : PS), r = some (.int z) ∧ ANS (tok (bv hp 2 n.toNat) n.toNat 900) z.toInt f s ∧ sf_rd hp' 0 18 = some f ∧ sf_rd hp' 1 1 = some 0
set_option maxRecDepth 100000 in
set_option maxHeartbeats 4000000 in
theorem ce_X10_strait_v : sf_cE kq_X10_strait_v Z_X10_strait ke_X10_strait_v := by
  intro t hp as H hl hj hpre
  match as, hl with
  | [v0], _ =>
    obtain ⟨a0, rfl, ra0⟩ := bs_aR (hj 0 _ rfl)
    obtain rfl := ra0.eq H (p := 0) rfl
    clear hpre hj
    have F0 : sf_fr [(2, 1, 1), (5, 5, 5), (6, 7, 9), (7, 7, 12), (8, 1, 2), (9, 3, 9), (10, 13, 14), (10, 18, 18), (116, 0, 0), (117, 0, 0), (118, 0, 7), (119, 0, 47), (120, 0, 19), (121, 0, 19), (122, 0, 19), (124, 0, 900), (125, 0, 900), (126, 0, 0), (149, 0, 11), (150, 0, 11), (151, 0, 11), (152, 0, 11), (153, 0, 7), (154, 0, 7), (155, 0, 63)] t hp t hp := sf_fr_rf
    refine bs_finx (E := ke_X10_strait_v) (K := kq_X10_strait_v) (L := (L_X10_strait Z_X8_moveInto Z_X7_readText Z_X6_beginAs Z_X2_forget)) (nL := 3) (Nat.le_of_ble_eq_true rfl) ?_
    obtain ⟨Q, hQ⟩ : ∃ Q : ab_O → Prop, Q = (fun o => ∃ t', sf_h t' o.2 ∧ sf_fr (kq_X10_strait_v).2.2.2.2 t hp t' o.2 ∧ sf_an t' o.2.1 (kq_X10_strait_v).2.2.1 o.1 ∧ sf_S (sf_v1 o.1 [.ref 0] o.2) (kq_X10_strait_v).2.2.2.1 ∧ ke_X10_strait_v [.ref 0] hp o.1 o.2) := ⟨_, rfl⟩
    rw [← hQ]
    refine (show Ev (ab_T (L_X10_strait Z_X8_moveInto Z_X7_readText Z_X6_beginAs Z_X2_forget)) 0 ([some (.ref 0), none, none], [], (0, 0), hp) Q from ?_)
    obtain ⟨n0, hn0, ln0, un0⟩ := bs_fld (k := 1) H (bs_R.uq H (g := 8) rfl) (by decide) rfl
    obtain ⟨BB, hBB⟩ : ∃ BB : Nat → Int, BB = bv hp 2 n0.toNat := ⟨_, rfl⟩
    refine Ev.step (j := 1) (s' := ([some (.ref 0), none, none], [.ref 0], (0, 0), hp)) rfl rfl ?_
    exact by
     refine bs_getU (g := 10) (g1 := 8) rfl rfl H (bs_R.uq H (g := 10) rfl) (by decide) rfl rfl ?_
     refine Ev.step (j := 5) (s' := ([some (.ref 0), none, none], [.ref 0, .ref 1], (0, 0), hp)) rfl rfl ?_
     refine bs_getU (g := 10) (g1 := 9) rfl rfl H (bs_R.uq H (g := 10) rfl) (by decide) rfl rfl ?_
     refine bs_lit (k := 900) rfl rfl fun z1 hz1 => ?_
     refine bs_callx (K := kq_X8_moveInto_v) [.ref 1, .ref 3, .int z1] [] rfl ce_X8_moveInto_v H rfl rfl rfl (bs_rcv (g := 8) H (bs_R.uq H (g := 8) rfl) (by decide) rfl) rfl ?_ (sf_S_cons (sf_s1 (x := z1.toInt) rfl (by omega) (by omega)) (sf_S_nil)) fun r2 hp3 thp3 Hhp3 fhp3 ahp3 php3 xhp3 => ?_
     · intro q k h
       match q, h with
       | 0, h => cases h; exact bs_jR (bs_R.uq H (g := 8) rfl)
       | 1, h => cases h; exact bs_jR (bs_R.uq H (g := 9) rfl)
       | 2, h => cases h; exact sf_j0
       | q + 3, h => cases h
     obtain rfl := ahp3.1 rfl
     have Fhp3 := sf_fr_tr F0 (sf_fr_wider (W := [(2, 1, 1), (5, 5, 5), (6, 7, 9), (7, 7, 12), (8, 1, 2), (9, 3, 9), (10, 13, 14), (10, 18, 18), (116, 0, 0), (117, 0, 0), (118, 0, 7), (119, 0, 47), (120, 0, 19), (121, 0, 19), (122, 0, 19), (124, 0, 900), (125, 0, 900), (126, 0, 0), (149, 0, 11), (150, 0, 11), (151, 0, 11), (152, 0, 11), (153, 0, 7), (154, 0, 7), (155, 0, 63)]) rfl fhp3)
     refine (show Ev _ 14 ([some (.ref 0), none, none], [], (0, 0), hp3) _ from ?_)
     obtain ⟨m, KS, K4, K9, K1⟩ := xhp3 n0 hn0
     have ML : mv_l [.ref 1, .ref 3, .int z1] = 900 := by show z1.toInt.toNat = 900; omega
     rw [ML, ← hBB] at KS
     refine Ev.step (j := 15) (s' := ([some (.ref 0), none, none], [.ref 0], (0, 0), hp3)) rfl rfl ?_
     exact by
      refine bs_getR (g := 10) (g1 := 7) rfl rfl Hhp3 (bs_R.uq Hhp3 (g := 10) rfl) (by decide) rfl fun b4 qb4 rb4 => ?_
      refine Ev.step (j := 19) (s' := ([some (.ref 0), none, none], [.ref 0, .ref b4], (0, 0), hp3)) rfl rfl ?_
      refine bs_getU (g := 10) (g1 := 9) rfl rfl Hhp3 (bs_R.uq Hhp3 (g := 10) rfl) (by decide) rfl rfl ?_
      refine bs_callp (K := kq_X7_readText_v) [.ref b4, .ref 3] [] rfl cp_X7_readText_v (⟨⟨KS, K4, Nat.zero_le _⟩, K9⟩) Hhp3 rfl rfl rfl (bs_rcv (g := 7) Hhp3 rb4 (by decide) rfl) rfl ?_ (sf_S_nil) fun r5 hp6 thp6 Hhp6 fhp6 ahp6 php6 xhp6 => ?_
      · intro q k h
        match q, h with
        | 0, h => cases h; exact bs_jR rb4
        | 1, h => cases h; exact bs_jR (bs_R.uq Hhp3 (g := 9) rfl)
        | q + 2, h => cases h
      obtain ⟨z7, rfl⟩ := bs_anI ahp6
      have rgz7 := n_range z7
      have Fhp6 := sf_fr_tr Fhp3 (sf_fr_wider (W := [(2, 1, 1), (5, 5, 5), (6, 7, 9), (7, 7, 12), (8, 1, 2), (9, 3, 9), (10, 13, 14), (10, 18, 18), (116, 0, 0), (117, 0, 0), (118, 0, 7), (119, 0, 47), (120, 0, 19), (121, 0, 19), (122, 0, 19), (124, 0, 900), (125, 0, 900), (126, 0, 0), (149, 0, 11), (150, 0, 11), (151, 0, 11), (152, 0, 11), (153, 0, 7), (154, 0, 7), (155, 0, 63)]) rfl fhp6)
      have h8 : sf_rd hp6 1 1 = some (0 : Int) := (fhp6.2.2.1 _ (bs_R.uq Hhp3 (g := 8) (p := 1) rfl).1 _ (by rw [(bs_R.uq Hhp3 (g := 8) (p := 1) rfl).2]; rfl)).trans K1
      have r9 := rb4.fr fhp6
      refine (show Ev _ 25 ([some (.ref 0), none, none], [.int z7], (0, 0), hp6) _ from ?_)
      obtain ⟨z9, f9, s9, rz9, R9, XA⟩ := xhp6 _ rfl
      obtain rfl := Value.int.inj (Option.some.inj rz9)
      refine Ev.step (j := 26) (s' := ([some (.ref 0), some (.int z7), none], [], (0, 0), hp6)) rfl rfl ?_
      exact by
       refine Ev.step (j := 27) (s' := ([some (.ref 0), some (.int z7), none], [.ref 0], (0, 0), hp6)) rfl rfl ?_
       refine Ev.step (j := 28) (s' := ([some (.ref 0), some (.int z7), none], [.ref 0, .ref 0], (0, 0), hp6)) rfl rfl ?_
       refine bs_getU (g := 10) (g1 := 9) rfl rfl Hhp6 (bs_R.uq Hhp6 (g := 10) rfl) (by decide) rfl rfl ?_
       refine bs_getI 9 rfl rfl rfl Hhp6 (bs_R.uq Hhp6 (g := 9) rfl) (by decide) rfl fun z10 hz10 lz10 gz10 => ?_
       have e11 : z10.toInt = f9 := Option.some.inj (hz10.symm.trans R9)
       refine bs_putIv (W := [(10, 18, 18)]) (g := 10) rfl rfl Hhp6 (bs_R.uq Hhp6 (g := 10) rfl) (by decide) rfl rfl rfl rfl (Or.inl rfl) (by omega) (by omega) fun hp12 Hhp12 fhp12 rhp12 ehp12 qhp12 nhp12 => ?_
       have Fhp12 := sf_fr_tr Fhp6 (sf_fr_wider (W := [(2, 1, 1), (5, 5, 5), (6, 7, 9), (7, 7, 12), (8, 1, 2), (9, 3, 9), (10, 13, 14), (10, 18, 18), (116, 0, 0), (117, 0, 0), (118, 0, 7), (119, 0, 47), (120, 0, 19), (121, 0, 19), (122, 0, 19), (124, 0, 900), (125, 0, 900), (126, 0, 0), (149, 0, 11), (150, 0, 11), (151, 0, 11), (152, 0, 11), (153, 0, 7), (154, 0, 7), (155, 0, 63)]) rfl fhp12)
       have h13 : sf_rd hp12 1 1 = some (0 : Int) := (ehp12 _ _ (Or.inl (by decide))).trans h8
       have h14 : sf_rd hp12 3 9 = some f9 := (ehp12 _ _ (Or.inl (by decide))).trans R9
       have r15 := r9.fr fhp12
       refine Ev.step (j := 38) (s' := ([some (.ref 0), some (.int z7), none], [.ref 0], (0, 0), hp12)) rfl rfl ?_
       exact by
        refine bs_getI 10 rfl rfl rfl Hhp12 (bs_R.uq Hhp12 (g := 10) rfl) (by decide) rfl fun z16 hz16 lz16 gz16 => ?_
        have e17 : z16.toInt = z10.toInt := Option.some.inj (hz16.symm.trans rhp12)
        refine bs_ifeq rfl (fun c18 => ?_) (fun c18 => ?_)
        · skip
          have c19 : z16.toInt = 0 := by omega
          refine Ev.step (j := 55) (s' := ([some (.ref 0), some (.int z7), none], [.ref 0], (0, 0), hp12)) rfl rfl ?_
          refine bs_getR (g := 10) (g1 := 7) rfl rfl Hhp12 (bs_R.uq Hhp12 (g := 10) rfl) (by decide) rfl fun b20 qb20 rb20 => ?_
          refine Ev.step (j := 59) (s' := ([some (.ref 0), some (.int z7), some (.ref b20)], [], (0, 0), hp12)) rfl rfl ?_
          refine Ev.step (j := 60) (s' := ([some (.ref 0), some (.int z7), some (.ref b20)], [.ref 0], (0, 0), hp12)) rfl rfl ?_
          exact by
           refine Ev.step (j := 61) (s' := ([some (.ref 0), some (.int z7), some (.ref b20)], [.ref 0, .ref 0], (0, 0), hp12)) rfl rfl ?_
           refine bs_getR (g := 10) (g1 := 7) rfl rfl Hhp12 (bs_R.uq Hhp12 (g := 10) rfl) (by decide) rfl fun b21 qb21 rb21 => ?_
           refine bs_putR (W := [(10, 13, 13)]) (g := 10) (g1 := 7) rfl rfl Hhp12 (bs_R.uq Hhp12 (g := 10) rfl) (by decide) rfl rfl rfl rfl rb21 fun hp22 Hhp22 fhp22 mhp22 qhp22 ehp22 nhp22 => ?_
           have Fhp22 := sf_fr_tr Fhp12 (sf_fr_wider (W := [(2, 1, 1), (5, 5, 5), (6, 7, 9), (7, 7, 12), (8, 1, 2), (9, 3, 9), (10, 13, 14), (10, 18, 18), (116, 0, 0), (117, 0, 0), (118, 0, 7), (119, 0, 47), (120, 0, 19), (121, 0, 19), (122, 0, 19), (124, 0, 900), (125, 0, 900), (126, 0, 0), (149, 0, 11), (150, 0, 11), (151, 0, 11), (152, 0, 11), (153, 0, 7), (154, 0, 7), (155, 0, 63)]) rfl fhp22)
           have h23 : sf_rd hp22 1 1 = some (0 : Int) := (ehp22 _ _).trans h13
           have h24 : sf_rd hp22 3 9 = some f9 := (ehp22 _ _).trans h14
           have h25 : sf_rd hp22 0 18 = some z10.toInt := (ehp22 _ _).trans rhp12
           have r26 := r15.fr fhp22
           have r27 := rb20.fr fhp22
           have r28 := rb21.fr fhp22
           refine Ev.step (j := 68) (s' := ([some (.ref 0), some (.int z7), some (.ref b20)], [.ref 0], (0, 0), hp22)) rfl rfl ?_
           exact by
            refine Ev.step (j := 69) (s' := ([some (.ref 0), some (.int z7), some (.ref b20)], [.ref b20, .ref 0], (0, 0), hp22)) rfl rfl ?_
            refine bs_putR (W := [(10, 14, 14)]) (g := 10) (g1 := 7) rfl rfl Hhp22 (bs_R.uq Hhp22 (g := 10) rfl) (by decide) rfl rfl rfl rfl r27 fun hp29 Hhp29 fhp29 mhp29 qhp29 ehp29 nhp29 => ?_
            have Fhp29 := sf_fr_tr Fhp22 (sf_fr_wider (W := [(2, 1, 1), (5, 5, 5), (6, 7, 9), (7, 7, 12), (8, 1, 2), (9, 3, 9), (10, 13, 14), (10, 18, 18), (116, 0, 0), (117, 0, 0), (118, 0, 7), (119, 0, 47), (120, 0, 19), (121, 0, 19), (122, 0, 19), (124, 0, 900), (125, 0, 900), (126, 0, 0), (149, 0, 11), (150, 0, 11), (151, 0, 11), (152, 0, 11), (153, 0, 7), (154, 0, 7), (155, 0, 63)]) rfl fhp29)
            have h30 : sf_rd hp29 1 1 = some (0 : Int) := (ehp29 _ _).trans h23
            have h31 : sf_rd hp29 3 9 = some f9 := (ehp29 _ _).trans h24
            have h32 : sf_rd hp29 0 18 = some z10.toInt := (ehp29 _ _).trans h25
            have r33 := r26.fr fhp29
            have r34 := r27.fr fhp29
            have r35 := r28.fr fhp29
            refine Ev.step (j := 73) (s' := ([some (.ref 0), some (.int z7), some (.ref b20)], [.ref 0], (0, 0), hp29)) rfl rfl ?_
            exact by
             refine bs_getU (g := 10) (g1 := 6) rfl rfl Hhp29 (bs_R.uq Hhp29 (g := 10) rfl) (by decide) rfl rfl ?_
             refine Ev.step (j := 77) (s' := ([some (.ref 0), some (.int z7), some (.ref b20)], [.ref 0, .ref 12], (0, 0), hp29)) rfl rfl ?_
             refine bs_getR (g := 10) (g1 := 7) rfl rfl Hhp29 (bs_R.uq Hhp29 (g := 10) rfl) (by decide) rfl fun b36 qb36 rb36 => ?_
             refine bs_call (K := kq_X6_beginAs_d5e88f) [.ref 12, .ref b36] [] rfl ct_X6_beginAs_d5e88f Hhp29 rfl rfl rfl (bs_rcv (g := 6) Hhp29 (bs_R.uq Hhp29 (g := 6) rfl) (by decide) rfl) rfl ?_ (sf_S_nil) fun r37 hp38 thp38 Hhp38 fhp38 ahp38 php38 => ?_
             · intro q k h
               match q, h with
               | 0, h => cases h; exact bs_jR (bs_R.uq Hhp29 (g := 6) rfl)
               | 1, h => cases h; exact bs_jR rb36
               | q + 2, h => cases h
             obtain rfl := ahp38.1 rfl
             have Fhp38 := sf_fr_tr Fhp29 (sf_fr_wider (W := [(2, 1, 1), (5, 5, 5), (6, 7, 9), (7, 7, 12), (8, 1, 2), (9, 3, 9), (10, 13, 14), (10, 18, 18), (116, 0, 0), (117, 0, 0), (118, 0, 7), (119, 0, 47), (120, 0, 19), (121, 0, 19), (122, 0, 19), (124, 0, 900), (125, 0, 900), (126, 0, 0), (149, 0, 11), (150, 0, 11), (151, 0, 11), (152, 0, 11), (153, 0, 7), (154, 0, 7), (155, 0, 63)]) rfl fhp38)
             have h39 : sf_rd hp38 1 1 = some (0 : Int) := (fhp38.2.2.1 _ (bs_R.uq Hhp29 (g := 8) (p := 1) rfl).1 _ (by rw [(bs_R.uq Hhp29 (g := 8) (p := 1) rfl).2]; rfl)).trans h30
             have h40 : sf_rd hp38 3 9 = some f9 := (fhp38.2.2.1 _ (bs_R.uq Hhp29 (g := 9) (p := 3) rfl).1 _ (by rw [(bs_R.uq Hhp29 (g := 9) (p := 3) rfl).2]; rfl)).trans h31
             have h41 : sf_rd hp38 0 18 = some z10.toInt := (fhp38.2.2.1 _ (bs_R.uq Hhp29 (g := 10) (p := 0) rfl).1 _ (by rw [(bs_R.uq Hhp29 (g := 10) (p := 0) rfl).2]; rfl)).trans h32
             obtain ⟨y42, ey42, uy42, vy42⟩ := (php38 _ (List.mem_of_getElem? (i := 0) rfl)).1 rfl
             replace ey42 : sf_rd hp38 12 7 = some y42 := ey42
             replace uy42 : (0 : Int) ≤ y42 := uy42
             replace vy42 : y42 ≤ (0 : Int) := vy42
             obtain ⟨y43, ey43, uy43, vy43⟩ := (php38 _ (List.mem_of_getElem? (i := 1) rfl)).1 rfl
             replace ey43 : sf_rd hp38 12 8 = some y43 := ey43
             replace uy43 : (0 : Int) ≤ y43 := uy43
             replace vy43 : y43 ≤ (0 : Int) := vy43
             obtain ⟨y44, ey44, uy44, vy44⟩ := (php38 _ (List.mem_of_getElem? (i := 2) rfl)).1 rfl
             replace ey44 : sf_rd hp38 12 9 = some y44 := ey44
             replace uy44 : (0 : Int) ≤ y44 := uy44
             replace vy44 : y44 ≤ (0 : Int) := vy44
             have r45 := r33.fr fhp38
             have r46 := r34.fr fhp38
             have r47 := r35.fr fhp38
             have r48 := rb36.fr fhp38
             refine (show Ev _ 83 ([some (.ref 0), some (.int z7), some (.ref b20)], [], (0, 0), hp38) _ from ?_)
             exact by
              refine Ev.step (j := 84) (s' := ([some (.ref 0), some (.int z7), some (.ref b20)], [.ref 0], (0, 0), hp38)) rfl rfl ?_
              refine bs_getR (g := 10) (g1 := 5) rfl rfl Hhp38 (bs_R.uq Hhp38 (g := 10) rfl) (by decide) rfl fun b49 qb49 rb49 => ?_
              refine bs_lit (k := 0) rfl rfl fun z50 hz50 => ?_
              refine bs_putIv (W := [(5, 5, 5)]) (g := 5) rfl rfl Hhp38 rb49 (by decide) rfl rfl rfl rfl (Or.inr ⟨rfl, by omega, by omega⟩) (by omega) (by omega) fun hp51 Hhp51 fhp51 rhp51 ehp51 qhp51 nhp51 => ?_
              have Fhp51 := sf_fr_tr Fhp38 (sf_fr_wider (W := [(2, 1, 1), (5, 5, 5), (6, 7, 9), (7, 7, 12), (8, 1, 2), (9, 3, 9), (10, 13, 14), (10, 18, 18), (116, 0, 0), (117, 0, 0), (118, 0, 7), (119, 0, 47), (120, 0, 19), (121, 0, 19), (122, 0, 19), (124, 0, 900), (125, 0, 900), (126, 0, 0), (149, 0, 11), (150, 0, 11), (151, 0, 11), (152, 0, 11), (153, 0, 7), (154, 0, 7), (155, 0, 63)]) rfl fhp51)
              have h52 : sf_rd hp51 1 1 = some (0 : Int) := (ehp51 _ _ (Or.inl (bs_nq (bs_R.uq Hhp38 (g := 8) rfl) rb49 (by decide)))).trans h39
              have h53 : sf_rd hp51 3 9 = some f9 := (ehp51 _ _ (Or.inl (bs_nq (bs_R.uq Hhp38 (g := 9) rfl) rb49 (by decide)))).trans h40
              have h54 : sf_rd hp51 0 18 = some z10.toInt := (ehp51 _ _ (Or.inl (bs_nq (bs_R.uq Hhp38 (g := 10) rfl) rb49 (by decide)))).trans h41
              have h55 : sf_rd hp51 12 7 = some y42 := (ehp51 _ _ (Or.inl (bs_nq (bs_R.uq Hhp38 (g := 6) rfl) rb49 (by decide)))).trans ey42
              have h56 : sf_rd hp51 12 8 = some y43 := (ehp51 _ _ (Or.inl (bs_nq (bs_R.uq Hhp38 (g := 6) rfl) rb49 (by decide)))).trans ey43
              have h57 : sf_rd hp51 12 9 = some y44 := (ehp51 _ _ (Or.inl (bs_nq (bs_R.uq Hhp38 (g := 6) rfl) rb49 (by decide)))).trans ey44
              have r58 := r45.fr fhp51
              have r59 := r46.fr fhp51
              have r60 := r47.fr fhp51
              have r61 := r48.fr fhp51
              have r62 := rb49.fr fhp51
              refine Ev.step (j := 92) (s' := ([some (.ref 0), some (.int z7), some (.ref b20)], [.ref 0], (0, 0), hp51)) rfl rfl ?_
              exact by
               refine bs_getU (g := 10) (g1 := 2) rfl rfl Hhp51 (bs_R.uq Hhp51 (g := 10) rfl) (by decide) rfl rfl ?_
               refine bs_call (K := kq_X2_forget_ec9902) [.ref 10] [] rfl ct_X2_forget_ec9902 Hhp51 rfl rfl rfl (bs_rcv (g := 2) Hhp51 (bs_R.uq Hhp51 (g := 2) rfl) (by decide) rfl) rfl ?_ (sf_S_nil) fun r63 hp64 thp64 Hhp64 fhp64 ahp64 php64 => ?_
               · intro q k h
                 match q, h with
                 | 0, h => cases h; exact bs_jR (bs_R.uq Hhp51 (g := 2) rfl)
                 | q + 1, h => cases h
               obtain rfl := ahp64.1 rfl
               have Fhp64 := sf_fr_tr Fhp51 (sf_fr_wider (W := [(2, 1, 1), (5, 5, 5), (6, 7, 9), (7, 7, 12), (8, 1, 2), (9, 3, 9), (10, 13, 14), (10, 18, 18), (116, 0, 0), (117, 0, 0), (118, 0, 7), (119, 0, 47), (120, 0, 19), (121, 0, 19), (122, 0, 19), (124, 0, 900), (125, 0, 900), (126, 0, 0), (149, 0, 11), (150, 0, 11), (151, 0, 11), (152, 0, 11), (153, 0, 7), (154, 0, 7), (155, 0, 63)]) rfl fhp64)
               have h65 : sf_rd hp64 1 1 = some (0 : Int) := (fhp64.2.2.1 _ (bs_R.uq Hhp51 (g := 8) (p := 1) rfl).1 _ (by rw [(bs_R.uq Hhp51 (g := 8) (p := 1) rfl).2]; rfl)).trans h52
               have h66 : sf_rd hp64 3 9 = some f9 := (fhp64.2.2.1 _ (bs_R.uq Hhp51 (g := 9) (p := 3) rfl).1 _ (by rw [(bs_R.uq Hhp51 (g := 9) (p := 3) rfl).2]; rfl)).trans h53
               have h67 : sf_rd hp64 0 18 = some z10.toInt := (fhp64.2.2.1 _ (bs_R.uq Hhp51 (g := 10) (p := 0) rfl).1 _ (by rw [(bs_R.uq Hhp51 (g := 10) (p := 0) rfl).2]; rfl)).trans h54
               have h68 : sf_rd hp64 12 7 = some y42 := (fhp64.2.2.1 _ (bs_R.uq Hhp51 (g := 6) (p := 12) rfl).1 _ (by rw [(bs_R.uq Hhp51 (g := 6) (p := 12) rfl).2]; rfl)).trans h55
               have h69 : sf_rd hp64 12 8 = some y43 := (fhp64.2.2.1 _ (bs_R.uq Hhp51 (g := 6) (p := 12) rfl).1 _ (by rw [(bs_R.uq Hhp51 (g := 6) (p := 12) rfl).2]; rfl)).trans h56
               have h70 : sf_rd hp64 12 9 = some y44 := (fhp64.2.2.1 _ (bs_R.uq Hhp51 (g := 6) (p := 12) rfl).1 _ (by rw [(bs_R.uq Hhp51 (g := 6) (p := 12) rfl).2]; rfl)).trans h57
               have h71 : sf_rd hp64 b49 5 = some z50.toInt := (fhp64.2.2.1 _ r62.1 _ (by rw [r62.2]; rfl)).trans rhp51
               obtain ⟨y72, ey72, uy72, vy72⟩ := (php64 _ (List.mem_of_getElem? (i := 0) rfl)).1 rfl
               replace ey72 : sf_rd hp64 10 1 = some y72 := ey72
               replace uy72 : (0 : Int) ≤ y72 := uy72
               replace vy72 : y72 ≤ (0 : Int) := vy72
               have r73 := r58.fr fhp64
               have r74 := r59.fr fhp64
               have r75 := r60.fr fhp64
               have r76 := r61.fr fhp64
               have r77 := r62.fr fhp64
               refine (show Ev _ 98 ([some (.ref 0), some (.int z7), some (.ref b20)], [], (0, 0), hp64) _ from ?_)
               exact by
                refine Ev.step (j := 99) (s' := ([some (.ref 0), some (.int z7), some (.ref b20)], [.int z7], (0, 0), hp64)) rfl rfl ?_
                exact Ev.ret rfl rfl (by rw [hQ]; exact ⟨thp64, Hhp64, Fhp64, bs_an0, sf_S_nil, (fun n hn_ => by
                        have eqN : n = n0 := Option.some.inj (hn_.symm.trans hn0); subst eqN; rw [← hBB]
                        obtain ⟨g1, g2, g3⟩ := XA.resolve_right (fun h => absurd (show f9 = 0 by omega) h.1)
                        exact ⟨z7, f9, s9, rfl, by rw [g1]; exact g2, h67.trans (congrArg some (by omega)), h65⟩)⟩)
        · skip
          refine bs_lit (k := -1) rfl rfl fun z78 hz78 => ?_
          exact by
           refine Ev.step (j := 46) (s' := ([some (.ref 0), some (.int z7), none], [.ref 0, .int z78], (0, 0), hp12)) rfl rfl ?_
           refine bs_getU (g := 10) (g1 := 9) rfl rfl Hhp12 (bs_R.uq Hhp12 (g := 10) rfl) (by decide) rfl rfl ?_
           refine bs_getI 9 rfl rfl rfl Hhp12 (bs_R.uq Hhp12 (g := 9) rfl) (by decide) rfl fun z79 hz79 lz79 gz79 => ?_
           first | (refine bs_sub rfl (by omega) (by omega) fun z80 hz80 => ?_) | (refine bs_any rfl fun z80 => ?_)
           have rz80 := n_range z80
           exact Ev.ret rfl rfl (by rw [hQ]; exact ⟨thp6, Hhp12, Fhp12, bs_an0, sf_S_nil, (fun n hn_ => by
                   have eqN : n = n0 := Option.some.inj (hn_.symm.trans hn0); subst eqN; rw [← hBB]
                   obtain ⟨g1, pl, g2, g3⟩ := XA.resolve_left (fun h => absurd h.1 (by omega))
                   have PE : z79.toInt = pl := Option.some.inj (hz79.symm.trans (((ehp12 _ _ (Or.inl (by decide)))).trans g2))
                   exact ⟨z80, f9, s9, rfl, by rw [show z80.toInt = -1 - pl by omega]; exact g3, rhp12.trans (congrArg some (by omega)), h13⟩)⟩)
end
-- 63.b31.ref.lean.txt
section
def RK (hp : ab_H) (B : Nat → Int) (n lim i : Nat) : Prop := NT hp (tok B n lim i) ∧ sf_rd hp 69 3 = some (n : Int) ∧ sf_rd hp 69 5 = some (lim : Int) ∧ bv hp 70 n = B
theorem RK_next {W : List (Nat × Nat × Nat)} {t t' : Nat → Nat} {hp hp' : ab_H} {B : Nat → Int} {n lim i : Nat} (H : sf_h t hp) (f : sf_fr W t hp t' hp') (h3 : sf_inW W 11 3 = false) (h5 : sf_inW W 11 5 = false) (h7 : W.all (fun w => decide (w.1 ≠ 131)) = true) (x : ∀ p n l : Int, sf_rd hp 69 4 = some p → sf_rd hp 69 3 = some n → sf_rd hp 69 5 = some l → sf_psi hp' ≤ 2 * (940 - p) ∧ (p ≤ n → NT hp' (tkt (bv hp 70 n.toNat) n.toNat l.toNat p.toNat))) (h : RK hp B n lim i) : RK hp' B n lim (i + 1) ∧ sf_psi hp' ≤ 2 * (940 - (tps B n lim (i + 1) : Int)) := by
  obtain ⟨a, b, c, d⟩ := h
  obtain ⟨y1, y2⟩ := x _ _ _ a.2.1 b c
  have r11 : bs_R t hp 69 11 := bs_R.uq H rfl
  have r70 : bs_R t hp 70 131 := bs_R.uq H rfl
  have tn : tps B n lim (i + 1) ≤ n := tps_n (i + 1)
  have y3 := y2 (by show ((tps B n lim (i + 1) : Nat) : Int) ≤ (n : Int); omega)
  rw [show ((n : Int)).toNat = n from rfl, show ((lim : Int)).toNat = lim from rfl, d] at y3
  exact ⟨⟨y3, (f.2.2.1 _ r11.1 _ (by rw [r11.2]; exact h3)).trans b, (f.2.2.1 _ r11.1 _ (by rw [r11.2]; exact h5)).trans c, (bv_same fun q => sf_rd_cell (f.2.2.2.1 _ r70.1 (by rw [r70.2]; exact h7))).trans d⟩, y1⟩
theorem RK_keep {W : List (Nat × Nat × Nat)} {t t' : Nat → Nat} {hp hp' : ab_H} {B : Nat → Int} {n lim i : Nat} (H : sf_h t hp) (f : sf_fr W t hp t' hp') (h7 : W.all (fun w => decide (w.1 ≠ 131)) = true) (hW : (List.range 18).all (fun k => (decide (k ≠ 3) && decide (k ≠ 4) && decide (k ≠ 5) && decide (k ≠ 11) && decide (k ≠ 12) && decide (k ≠ 14)) || !(sf_inW W 11 k)) = true) (hl : sf_rl hp' 69 17 = sf_rl hp 69 17) (h : RK hp B n lim i) : RK hp' B n lim i := by
  obtain ⟨a, b, c, d⟩ := h
  have r11 : bs_R t hp 69 11 := bs_R.uq H rfl
  have r70 : bs_R t hp 70 131 := bs_R.uq H rfl
  have K : ∀ k, k < 18 → (k = 3 ∨ k = 4 ∨ k = 5 ∨ k = 11 ∨ k = 12 ∨ k = 14) → sf_rd hp' 69 k = sf_rd hp 69 k := by
    intro k hk hc
    refine f.2.2.1 _ r11.1 _ ?_
    rw [r11.2]
    have h1 := List.all_eq_true.mp hW k (List.mem_range.mpr hk)
    simp only [Bool.or_eq_true, Bool.and_eq_true, decide_eq_true_eq, Bool.not_eq_true'] at h1
    rcases h1 with h1 | h1
    · omega
    · exact h1
  obtain ⟨a1, a2, a3, a4, a5, a6⟩ := a
  refine ⟨⟨(K 12 (by omega) (by omega)).trans a1, (K 4 (by omega) (by omega)).trans a2, (K 11 (by omega) (by omega)).trans a3, fun e => (K 14 (by omega) (by omega)).trans (a4 e), fun e => (K 14 (by omega) (by omega)).trans (a5 e), fun e => ?_⟩, (K 3 (by omega) (by omega)).trans b, (K 5 (by omega) (by omega)).trans c, (bv_same fun q => sf_rd_cell (f.2.2.2.1 _ r70.1 (by rw [r70.2]; exact h7))).trans d⟩
  obtain ⟨w, g1, g2⟩ := a6 e
  exact ⟨w, hl.trans g1, g2⟩
def RES (hp : ab_H) : Prop := ∀ k, k < 25 → ∃ w, sf_rl hp 75 k = some w ∧ w.toInt = rwd.getD k 0
theorem RES_fr {W : List (Nat × Nat × Nat)} {t t' : Nat → Nat} {hp hp' : ab_H} (H : sf_h t hp) (f : sf_fr W t hp t' hp') (h7 : W.all (fun w => decide (w.1 ≠ 136)) = true) (h : RES hp) : RES hp' := by
  have r : bs_R t hp 75 136 := bs_R.uq H rfl
  intro k hk
  rw [sf_rl_cell (f.2.2.2.1 _ r.1 (by rw [r.2]; exact h7))]
  exact h k hk
theorem tok_k88 (B : Nat → Int) (n lim i : Nat) : (tok B n lim i).k ≤ 88 := by
  show (tkq B n lim _).k ≤ 88
  generalize tk_e tk_b B n (tps B n lim i) = q
  unfold tkq
  split
  · show (1 : Int) ≤ 88
    decide
  · split
    · show (0 : Int) ≤ 88
      decide
    · split
      · unfold trn
        split
        · show kw _ ≤ 88
          have := kw_rng (pv B q (tk_e tk_r B n q - q))
          omega
        · split
          · show (3 : Int) ≤ 88
            decide
          · show (1 : Int) ≤ 88
            decide
      · show tsg _ ≤ 88
        unfold tsg
        split
        · next h =>
          unfold tsgp at h
          omega
        · decide
theorem rkk_1 {k : Int} (h : rkk k = 1) : k = 2 ∨ 64 ≤ k := by
  unfold rkk at h
  split at h
  · omega
  · split at h
    · omega
    · split at h
      · omega
      · split at h
        · assumption
        · omega
theorem rkk_2 {k : Int} (h : rkk k = 2) : k = 3 := by
  unfold rkk at h
  split at h
  · omega
  · split at h
    · omega
    · split at h
      · assumption
      · split at h <;> omega
theorem rkk_0 {k : Int} (h : rkk k = 0) : k = 0 := by
  unfold rkk at h
  split at h
  · assumption
  · split at h
    · omega
    · split at h
      · omega
      · split at h <;> omega
theorem rkk_59 : rkk 59 = 3 := rfl
theorem rkk_w {k : Int} (h : 64 ≤ k) : rkk k = 1 := by
  unfold rkk
  rw [if_neg (by omega), if_neg (by omega), if_neg (by omega), if_pos (by omega)]
def ibit (A : Int) (k : Nat) : Bool := (Int32.ofInt A).toBitVec.getLsbD k
def SR (hp : ab_H) (s : PS) : Prop := (∀ i, i < 120 → sf_rd hp 72 i = some (s.h i)) ∧ sf_rd hp 69 20 = some (cond s.ld 1 0) ∧ (∀ w, w < 4 → ∃ A, sf_rd hp 76 w = some A ∧ ∀ k, k < 12 → ibit A k = s.tl (12 * w + k)) ∧ (∀ g : Nat, (g : Int) < s.h 0 → ∃ w, sf_rl hp 74 (14 + g) = some w ∧ w.toInt = s.nm g) ∧ (∀ g : Nat, (g : Int) < s.h 1 → ∃ w, sf_rl hp 74 (20 + g) = some w ∧ w.toInt = s.nm (6 + g))
theorem SR_fr {W : List (Nat × Nat × Nat)} {t t' : Nat → Nat} {hp hp' : ab_H} {s : PS} (H : sf_h t hp) (f : sf_fr W t hp t' hp') (h1 : W.all (fun w => decide (w.1 ≠ 133)) = true) (h2 : W.all (fun w => decide (w.1 ≠ 137)) = true) (h3 : W.all (fun w => decide (w.1 ≠ 135)) = true) (h4 : sf_inW W 11 20 = false) (h : SR hp s) : SR hp' s := by
  have r1 : bs_R t hp 72 133 := bs_R.uq H rfl
  have r2 : bs_R t hp 76 137 := bs_R.uq H rfl
  have r3 : bs_R t hp 74 135 := bs_R.uq H rfl
  have r4 : bs_R t hp 69 11 := bs_R.uq H rfl
  have e1 := f.2.2.2.1 _ r1.1 (by rw [r1.2]; exact h1)
  have e2 := f.2.2.2.1 _ r2.1 (by rw [r2.2]; exact h2)
  have e3 := f.2.2.2.1 _ r3.1 (by rw [r3.2]; exact h3)
  obtain ⟨a, b, c, d, e⟩ := h
  exact ⟨fun i hi => (sf_rd_cell e1).trans (a i hi), (f.2.2.1 _ r4.1 _ (by rw [r4.2]; exact h4)).trans b, fun w hw => by rw [sf_rd_cell e2]; exact c w hw, fun g hg => by rw [sf_rl_cell e3]; exact d g hg, fun g hg => by rw [sf_rl_cell e3]; exact e g hg⟩
def RRES (hp : ab_H) (B : Nat → Int) (n lim : Nat) (r : Option Value) (x : LR) : Prop := match x with
  | .inl (s, j) => (∃ z : Int32, r = some (.int z) ∧ z.toInt = 1) ∧ SR hp s ∧ RK hp B n lim j
  | .inr (f, j) => (∃ z : Int32, r = some (.int z) ∧ z.toInt = 0) ∧ sf_rd hp 69 15 = some f ∧ sf_rd hp 69 16 = some (tok B n lim j).pl
theorem RRES_bad {hp : ab_H} {B : Nat → Int} {n lim j : Nat} {r : Option Value} {f : Int} (h1 : ∃ z : Int32, r = some (.int z) ∧ z.toInt = 0) (h2 : sf_rd hp 69 15 = some f) (h3 : sf_rd hp 69 16 = some (tok B n lim j).pl) : RRES hp B n lim r (LR.bad f j) := ⟨h1, h2, h3⟩
theorem RRES_ok {hp : ab_H} {B : Nat → Int} {n lim j : Nat} {r : Option Value} {s : PS} (h1 : ∃ z : Int32, r = some (.int z) ∧ z.toInt = 1) (h2 : SR hp s) (h3 : RK hp B n lim j) : RRES hp B n lim r (LR.ok s j) := ⟨h1, h2, h3⟩
theorem RK_nil {t t' : Nat → Nat} {hp hp' : ab_H} {B : Nat → Int} {n lim i : Nat} (H : sf_h t hp) (f : sf_fr [] t hp t' hp') (h : RK hp B n lim i) : RK hp' B n lim i := RK_keep H f rfl rfl (sf_rl_cell (f.2.2.2.1 _ (bs_R.uq H (g := 11) (p := 69) rfl).1 rfl)) h
theorem SR_nil {t t' : Nat → Nat} {hp hp' : ab_H} {s : PS} (H : sf_h t hp) (f : sf_fr [] t hp t' hp') (h : SR hp s) : SR hp' s := SR_fr H f rfl rfl rfl rfl h
theorem RES_nil {t t' : Nat → Nat} {hp hp' : ab_H} (H : sf_h t hp) (f : sf_fr [] t hp t' hp') (h : RES hp) : RES hp' := RES_fr H f rfl h
theorem RK_k {hp : ab_H} {B : Nat → Int} {n lim i : Nat} {x : Int} (h : RK hp B n lim i) (e : sf_rd hp 69 11 = some x) : x = rkk (tok B n lim i).k := Option.some.inj (e.symm.trans h.1.2.2.1)
theorem RK_pl {hp : ab_H} {B : Nat → Int} {n lim i : Nat} (h : RK hp B n lim i) : sf_rd hp 69 12 = some (tok B n lim i).pl := h.1.1
theorem RK_v {hp : ab_H} {B : Nat → Int} {n lim i : Nat} {x : Int} (h : RK hp B n lim i) (k : (tok B n lim i).k = 3) (e : sf_rd hp 69 14 = some x) : x = (tok B n lim i).v := Option.some.inj (e.symm.trans (h.1.2.2.2.1 (by rw [k]; rfl)))
theorem RK_s {hp : ab_H} {B : Nat → Int} {n lim i : Nat} {x : Int} (h : RK hp B n lim i) (k : rkk (tok B n lim i).k = 3) (e : sf_rd hp 69 14 = some x) : x = (tok B n lim i).k := Option.some.inj (e.symm.trans (h.1.2.2.2.2.1 k))
theorem RK_w {hp : ab_H} {B : Nat → Int} {n lim i : Nat} (h : RK hp B n lim i) (k : rkk (tok B n lim i).k = 1) : ∃ w, sf_rl hp 69 17 = some w ∧ w.toInt = (tok B n lim i).v := h.1.2.2.2.2.2 k
theorem SR_load {hp hp' : ab_H} {s : PS} {v : Int} (h : SR hp s) (e : sf_rd hp' 72 2 = some v) (r : ∀ q, q ≠ 2 → sf_rd hp' 72 q = sf_rd hp 72 q) (e2 : sf_rd hp' 69 20 = some 1) (c6 : hp'.2 76 = hp.2 76) (c4 : hp'.2 74 = hp.2 74) : SR hp' (ups s.h 2 v, s.nm, true, s.tl) := by
  obtain ⟨a, b, c, d, f⟩ := h
  refine ⟨fun i hi => ?_, e2, fun w hw => by rw [sf_rd_cell c6]; exact c w hw, fun g hg => by rw [sf_rl_cell c4]; exact d g hg, fun g hg => by rw [sf_rl_cell c4]; exact f g hg⟩
  show _ = some (ups s.h 2 v i)
  by_cases x : i = 2
  · rw [x, ups_eq]
    exact e
  · rw [ups_ne x, r i x]
    exact a i hi
theorem SR_good {hp hp' : ab_H} {s : PS} {v : Int} (h : SR hp s) (h0 : 0 ≤ s.h 0) (h6 : s.h 0 ≤ 5) (e : sf_rd hp' 72 0 = some (s.h 0 + 1)) (r : ∀ q, q ≠ 0 → sf_rd hp' 72 q = sf_rd hp 72 q) (e2 : sf_rd hp' 69 20 = sf_rd hp 69 20) (c6 : hp'.2 76 = hp.2 76) (w1 : ∃ w, sf_rl hp' 74 (14 + (s.h 0).toNat) = some w ∧ w.toInt = v) (rl : ∀ q, q ≠ 14 + (s.h 0).toNat → sf_rl hp' 74 q = sf_rl hp 74 q) : SR hp' (ups s.h 0 (s.h 0 + 1), ups s.nm (s.h 0).toNat v, s.ld, s.tl) := by
  obtain ⟨a, b, c, d, f⟩ := h
  refine ⟨fun i hi => ?_, e2.trans b, fun w hw => by rw [sf_rd_cell c6]; exact c w hw, fun g hg => ?_, fun g hg => ?_⟩
  · show _ = some (ups s.h 0 (s.h 0 + 1) i)
    by_cases x : i = 0
    · rw [x, ups_eq]
      exact e
    · rw [ups_ne x, r i x]
      exact a i hi
  · have hg' : (g : Int) < s.h 0 + 1 := hg
    show ∃ w : Int64, _ ∧ w.toInt = ups s.nm (s.h 0).toNat v g
    by_cases x : g = (s.h 0).toNat
    · rw [x, ups_eq]
      exact w1
    · rw [ups_ne x, rl _ (by omega)]
      exact d g (by omega)
  · show ∃ w : Int64, _ ∧ w.toInt = ups s.nm (s.h 0).toNat v (6 + g)
    rw [ups_ne (by omega), rl _ (by omega)]
    exact f g hg
theorem SR_man {hp hp' : ab_H} {s : PS} {v d0 : Int} (h : SR hp s) (h0 : 0 ≤ s.h 0) (h06 : s.h 0 ≤ 6) (h1 : 0 ≤ s.h 1) (h7 : s.h 1 ≤ 7) (e : sf_rd hp' 72 1 = some (s.h 1 + 1)) (e5 : sf_rd hp' 72 (52 + (s.h 1).toNat) = some d0) (r : ∀ q, q ≠ 1 → q ≠ 52 + (s.h 1).toNat → sf_rd hp' 72 q = sf_rd hp 72 q) (e2 : sf_rd hp' 69 20 = sf_rd hp 69 20) (c6 : hp'.2 76 = hp.2 76) (w1 : ∃ w, sf_rl hp' 74 (20 + (s.h 1).toNat) = some w ∧ w.toInt = v) (rl : ∀ q, q ≠ 20 + (s.h 1).toNat → sf_rl hp' 74 q = sf_rl hp 74 q) : SR hp' (ups (ups s.h (52 + (s.h 1).toNat) d0) 1 (s.h 1 + 1), ups s.nm (6 + (s.h 1).toNat) v, s.ld, s.tl) := by
  obtain ⟨a, b, c, d, f⟩ := h
  refine ⟨fun i hi => ?_, e2.trans b, fun w hw => by rw [sf_rd_cell c6]; exact c w hw, fun g hg => ?_, fun g hg => ?_⟩
  · show _ = some (ups (ups s.h (52 + (s.h 1).toNat) d0) 1 (s.h 1 + 1) i)
    by_cases x : i = 1
    · rw [x, ups_eq]
      exact e
    · rw [ups_ne x]
      by_cases y : i = 52 + (s.h 1).toNat
      · rw [y, ups_eq]
        exact e5
      · rw [ups_ne y, r i x y]
        exact a i hi
  · have hg' : (g : Int) < s.h 0 := by
      have e9 : ups (ups s.h (52 + (s.h 1).toNat) d0) 1 (s.h 1 + 1) 0 = s.h 0 := (ups_ne (by omega)).trans (ups_ne (by omega))
      rw [← e9]
      exact hg
    show ∃ w : Int64, _ ∧ w.toInt = ups s.nm (6 + (s.h 1).toNat) v g
    rw [ups_ne (by omega), rl _ (by omega)]
    exact d g hg'
  · have hg' : (g : Int) < s.h 1 + 1 := hg
    show ∃ w : Int64, _ ∧ w.toInt = ups s.nm (6 + (s.h 1).toNat) v (6 + g)
    by_cases x : g = (s.h 1).toNat
    · rw [x, ups_eq]
      exact w1
    · rw [ups_ne (by omega), rl _ (by omega)]
      exact f g (by omega)
theorem SR_miss {hp hp' : ab_H} {s : PS} {m q d0 : Int} (h : SR hp s) (h3 : 0 ≤ s.h 3) (h19 : s.h 3 ≤ 19) (e : sf_rd hp' 72 3 = some (s.h 3 + 1)) (e6 : sf_rd hp' 72 (60 + (s.h 3).toNat) = some m) (e8 : sf_rd hp' 72 (80 + (s.h 3).toNat) = some q) (e1 : sf_rd hp' 72 (100 + (s.h 3).toNat) = some d0) (r : ∀ i, i ≠ 3 → i ≠ 60 + (s.h 3).toNat → i ≠ 80 + (s.h 3).toNat → i ≠ 100 + (s.h 3).toNat → sf_rd hp' 72 i = sf_rd hp 72 i) (e2 : sf_rd hp' 69 20 = sf_rd hp 69 20) (c6 : hp'.2 76 = hp.2 76) (c4 : hp'.2 74 = hp.2 74) : SR hp' (ups (ups (ups (ups s.h (60 + (s.h 3).toNat) m) (80 + (s.h 3).toNat) q) (100 + (s.h 3).toNat) d0) 3 (s.h 3 + 1), s.nm, s.ld, s.tl) := by
  obtain ⟨a, b, c, d, f⟩ := h
  have U : ∀ i, i ≠ 3 → i ≠ 60 + (s.h 3).toNat → i ≠ 80 + (s.h 3).toNat → i ≠ 100 + (s.h 3).toNat → ups (ups (ups (ups s.h (60 + (s.h 3).toNat) m) (80 + (s.h 3).toNat) q) (100 + (s.h 3).toNat) d0) 3 (s.h 3 + 1) i = s.h i := fun i x1 x2 x3 x4 => (ups_ne x1).trans ((ups_ne x4).trans ((ups_ne x3).trans (ups_ne x2)))
  refine ⟨fun i hi => ?_, e2.trans b, fun w hw => by rw [sf_rd_cell c6]; exact c w hw, fun g hg => ?_, fun g hg => ?_⟩
  · show _ = some (ups (ups (ups (ups s.h (60 + (s.h 3).toNat) m) (80 + (s.h 3).toNat) q) (100 + (s.h 3).toNat) d0) 3 (s.h 3 + 1) i)
    by_cases x : i = 3
    · rw [x, ups_eq]
      exact e
    · by_cases y : i = 100 + (s.h 3).toNat
      · rw [ups_ne x, y, ups_eq]
        exact e1
      · by_cases z : i = 80 + (s.h 3).toNat
        · rw [ups_ne x, ups_ne y, z, ups_eq]
          exact e8
        · by_cases u : i = 60 + (s.h 3).toNat
          · rw [ups_ne x, ups_ne y, ups_ne z, u, ups_eq]
            exact e6
          · rw [U i x u z y, r i x u z y]
            exact a i hi
  · have hg' : (g : Int) < s.h 0 := by
      rw [← U 0 (by omega) (by omega) (by omega) (by omega)]
      exact hg
    rw [sf_rl_cell c4]
    exact d g hg'
  · have hg' : (g : Int) < s.h 1 := by
      rw [← U 1 (by omega) (by omega) (by omega) (by omega)]
      exact hg
    rw [sf_rl_cell c4]
    exact f g hg'
theorem SR_amt {hp hp' : ab_H} {s : PS} {v A : Int} {wh k : Nat} (h : SR hp s) (hw : wh < 4) (hk : k < 12) (e : sf_rd hp' 72 (4 + (12 * wh + k)) = some v) (r : ∀ q, q ≠ 4 + (12 * wh + k) → sf_rd hp' 72 q = sf_rd hp 72 q) (e2 : sf_rd hp' 69 20 = sf_rd hp 69 20) (c4 : hp'.2 74 = hp.2 74) (t1 : sf_rd hp' 76 wh = some A) (tb : ∀ A0, sf_rd hp 76 wh = some A0 → ∀ j, j < 12 → ibit A j = (ibit A0 j || decide (j = k))) (tr : ∀ q, q ≠ wh → sf_rd hp' 76 q = sf_rd hp 76 q) : SR hp' (ups s.h (4 + (12 * wh + k)) v, s.nm, s.ld, ups s.tl (12 * wh + k) true) := by
  obtain ⟨a, b, c, d, f⟩ := h
  have U : ∀ i, i ≠ 4 + (12 * wh + k) → ups s.h (4 + (12 * wh + k)) v i = s.h i := fun i x => ups_ne x
  refine ⟨fun i hi => ?_, e2.trans b, fun w hw2 => ?_, fun g hg => ?_, fun g hg => ?_⟩
  · show _ = some (ups s.h (4 + (12 * wh + k)) v i)
    by_cases x : i = 4 + (12 * wh + k)
    · rw [x, ups_eq]
      exact e
    · rw [ups_ne x, r i x]
      exact a i hi
  · by_cases x : w = wh
    · subst x
      obtain ⟨A0, g1, g2⟩ := c w hw2
      refine ⟨A, t1, fun j hj => ?_⟩
      rw [tb A0 g1 j hj, g2 j hj]
      show _ = ups s.tl (12 * w + k) true (12 * w + j)
      rw [ups_or]
      congr 1
      exact decide_eq_decide.mpr (by omega)
    · obtain ⟨A0, g1, g2⟩ := c w hw2
      refine ⟨A0, (tr w x).trans g1, fun j hj => ?_⟩
      show _ = ups s.tl (12 * wh + k) true (12 * w + j)
      rw [ups_ne (by omega)]
      exact g2 j hj
  · have hg' : (g : Int) < s.h 0 := by
      rw [← U 0 (by omega)]
      exact hg
    rw [sf_rl_cell c4]
    exact d g hg'
  · have hg' : (g : Int) < s.h 1 := by
      rw [← U 1 (by omega)]
      exact hg
    rw [sf_rl_cell c4]
    exact f g hg'
theorem ib_of (x : Int32) (k : Nat) : ibit x.toInt k = x.toBitVec.getLsbD k := by
  unfold ibit
  rw [Int32.ofInt_toInt]
theorem ib_or {A y : Int32} {k j : Nat} {o : Int32} (ho : o.toInt = 1) (hy : y.toInt = (k : Int)) (hk : k < 12) (hj : j < 12) : ibit (A ||| (o <<< (y &&& 31))).toInt j = (ibit A.toInt j || decide (j = k)) := by
  obtain rfl : o = 1 := Int32.toInt_inj.mp ho
  obtain rfl : y = Int32.ofNat k := Int32.toInt_inj.mp (by rw [hy, Int32.toInt_ofNat_of_lt (by omega)])
  have tab : ∀ k, k < 12 → ∀ j, j < 12 → ((1 : Int32) <<< (Int32.ofNat k &&& 31)).toBitVec.getLsbD j = decide (j = k) := by decide +kernel
  rw [ib_of, ib_of, Int32.toBitVec_or, BitVec.getLsbD_or, tab k hk j hj]
theorem px_X11_bitOf {x y : Int32} {hp : ab_H} (h0 : 0 ≤ y.toInt) (h1 : y.toInt < 12) : ∃ z : Int32, Z_X11_bitOf [.int x, .int y] hp = some (some (.int z), hp) ∧ ((z.toInt = 1 ∧ ibit x.toInt y.toInt.toNat = true) ∨ (z.toInt = 0 ∧ ibit x.toInt y.toInt.toNat = false)) := by
  have key : ((x >>> (y &&& 31)) &&& 1).toInt = cond (ibit x.toInt y.toInt.toNat) 1 0 := by
    obtain ⟨k, hk, e⟩ : ∃ k : Nat, k < 12 ∧ y.toInt = (k : Int) := ⟨y.toInt.toNat, by omega, by omega⟩
    obtain rfl : y = Int32.ofNat k := Int32.toInt_inj.mp (by rw [e, Int32.toInt_ofNat_of_lt (by omega)])
    have sm : ∀ k, k < 12 → ((Int32.ofNat k &&& 31).toBitVec.smod 32).toNat = k := by decide +kernel
    rw [ib_of, show (Int32.ofNat k).toInt.toNat = k by omega]
    have es : (x >>> (Int32.ofNat k &&& 31)).toBitVec = x.toBitVec.sshiftRight' ((Int32.ofNat k &&& 31).toBitVec.smod 32) := rfl
    have eb : (x >>> (Int32.ofNat k &&& 31)).toBitVec.getLsbD 0 = x.toBitVec.getLsbD k := by
      rw [es, BitVec.sshiftRight_eq', sm k hk, BitVec.getLsbD_sshiftRight]
      simp only [Nat.add_zero]
      rw [if_pos (by omega)]
      simp
    have ez : (x >>> (Int32.ofNat k &&& 31)) &&& 1 = cond (x.toBitVec.getLsbD k) 1 0 := by
      apply Int32.toBitVec_inj.mp
      apply BitVec.eq_of_getLsbD_eq
      intro i hi
      have o1 : ∀ i, i < 32 → (1 : Int32).toBitVec.getLsbD i = decide (i = 0) := by decide +kernel
      have o0 : ∀ i, i < 32 → (0 : Int32).toBitVec.getLsbD i = false := by decide +kernel
      rw [Int32.toBitVec_and, BitVec.getLsbD_and, o1 i hi]
      by_cases c : i = 0
      · subst c
        rw [eb]
        cases x.toBitVec.getLsbD k
        · exact (o0 0 (by decide)).symm
        · exact (o1 0 (by decide)).symm
      · rw [decide_eq_false c, Bool.and_false]
        cases x.toBitVec.getLsbD k
        · exact (o0 i hi).symm
        · exact ((o1 i hi).trans (decide_eq_false c)).symm
    rw [ez]
    cases x.toBitVec.getLsbD k <;> rfl
  have h : ∃ o, ab_X (ab_T L_X11_bitOf) 2 [.int x, .int y] hp = some o ∧ ∃ z : Int32, o = (some (.int z), hp) ∧ ((z.toInt = 1 ∧ ibit x.toInt y.toInt.toNat = true) ∨ (z.toInt = 0 ∧ ibit x.toInt y.toInt.toNat = false)) := by
    refine ab_X_ev (Nat.le_of_ble_eq_true rfl) ?_
    exact by
     refine Ev.step (j := 1) (s' := ([some (.int x), some (.int y)], [.int x], (0, 0), hp)) rfl rfl ?_
     refine Ev.step (j := 2) (s' := ([some (.int x), some (.int y)], [.int y, .int x], (0, 0), hp)) rfl rfl ?_
     refine Ev.step (j := 3) (s' := ([some (.int x), some (.int y)], [.int (x >>> (y &&& 31))], (0, 0), hp)) rfl rfl ?_
     refine Ev.step (j := 4) (s' := ([some (.int x), some (.int y)], [.int 1, .int (x >>> (y &&& 31))], (0, 0), hp)) rfl rfl ?_
     refine Ev.step (j := 5) (s' := ([some (.int x), some (.int y)], [.int ((x >>> (y &&& 31)) &&& 1)], (0, 0), hp)) rfl rfl ?_
     refine bs_lit (k := 1) rfl rfl fun z1 h1 => ?_
     refine bs_ne rfl (fun c => ?_) (fun c => ?_)
     · refine bs_lit (k := 0) rfl rfl fun z2 h2 => ?_
       refine bs_zret rfl rfl (by omega) (by omega) ⟨z2, rfl, Or.inr ⟨h2, ?_⟩⟩
       cases hb : ibit x.toInt y.toInt.toNat with
       | false => rfl
       | true =>
         rw [hb] at key
         exact absurd (key.trans h1.symm) c
     · refine bs_lit (k := 1) rfl rfl fun z2 h2 => ?_
       refine Ev.step (j := 14) (s' := ([some (.int x), some (.int y)], [.int z2], (0, 0), hp)) rfl rfl ?_
       exact by
        refine bs_zret rfl rfl (by omega) (by omega) ⟨z2, rfl, Or.inl ⟨h2, ?_⟩⟩
        cases hb : ibit x.toInt y.toInt.toNat with
        | true => rfl
        | false =>
          rw [hb] at key
          have k0 : ((x >>> (y &&& 31)) &&& 1).toInt = (0 : Int) := key
          omega
  obtain ⟨o, g1, z, rfl, g2⟩ := h
  exact ⟨z, g1, g2⟩
theorem RRES_pos {hp : ab_H} {B : Nat → Int} {n lim : Nat} {z : Int32} {x : LR} (h : RRES hp B n lim (some (.int z)) x) (hz : z.toInt ≠ 0) : ∃ s j, x = LR.ok s j ∧ SR hp s ∧ RK hp B n lim j := by
  cases x with
  | inl p => exact ⟨p.1, p.2, rfl, h.2⟩
  | inr p =>
    obtain ⟨y, e, e2⟩ := h.1
    obtain rfl := Value.int.inj (Option.some.inj e)
    exact absurd e2 hz
theorem RRES_neg {hp : ab_H} {B : Nat → Int} {n lim : Nat} {z : Int32} {x : LR} (h : RRES hp B n lim (some (.int z)) x) (hz : z.toInt ≠ 1) : ∃ f j, x = LR.bad f j ∧ sf_rd hp 69 15 = some f ∧ sf_rd hp 69 16 = some (tok B n lim j).pl := by
  cases x with
  | inl p =>
    obtain ⟨y, e, e2⟩ := h.1
    obtain rfl := Value.int.inj (Option.some.inj e)
    exact absurd e2 hz
  | inr p => exact ⟨p.1, p.2, rfl, h.2⟩
theorem tkq_nx {B : Nat → Int} {n lim q : Nat} : q ≤ (tkq B n lim q).nx := by
  unfold tkq
  split
  · exact Nat.le_refl q
  · split
    · exact Nat.le_refl q
    · split
      · rw [trn_nx]
        exact Nat.le_add_right _ _
      · exact Nat.le_succ q
theorem tps_m1 {B : Nat → Int} {n lim i : Nat} : tps B n lim i ≤ tps B n lim (i + 1) := by
  have h1 := tkq_nx (B := B) (n := n) (lim := lim) (q := tk_e tk_b B n (tps B n lim i))
  have h2 := tk_e_ge (P := tk_b) (B := B) (n := n) (p := tps B n lim i)
  have h3 : tps B n lim (i + 1) = (tkq B n lim (tk_e tk_b B n (tps B n lim i))).nx := rfl
  omega
theorem tps_mono {B : Nat → Int} {n lim i : Nat} : ∀ d, tps B n lim i ≤ tps B n lim (i + d)
  | 0 => Nat.le_refl _
  | d + 1 => Nat.le_trans (tps_mono d) tps_m1
theorem tps_gt {B : Nat → Int} {n lim j : Nat} (h0 : (tok B n lim j).k ≠ 0) (h1 : (tok B n lim j).k ≠ 1) : tps B n lim j + 1 ≤ tps B n lim (j + 1) := by
  have h2 := (tkq_mv (B := B) (n := n) (lim := lim) (q := tk_e tk_b B n (tps B n lim j)) h0 h1).1
  have h3 := tk_e_ge (P := tk_b) (B := B) (n := n) (p := tps B n lim j)
  have h4 : tps B n lim (j + 1) = (tkq B n lim (tk_e tk_b B n (tps B n lim j))).nx := rfl
  omega
theorem SR_0 {hp : ab_H} (h : ∀ i, i < 120 → i ≠ 2 → sf_rd hp 72 i = some 0) (h2 : sf_rd hp 72 2 = some 10) (h20 : sf_rd hp 69 20 = some 0) (ht : ∀ w, w < 4 → sf_rd hp 76 w = some 0) : SR hp s0 := by
  refine ⟨fun i hi => ?_, h20, fun w hw => ⟨0, ht w hw, fun k hk => ?_⟩, fun g hg => absurd (show (g : Int) < 0 from hg) (by omega), fun g hg => absurd (show (g : Int) < 0 from hg) (by omega)⟩
  · by_cases c : i = 2
    · rw [c]
      exact h2
    · rw [s0_h c]
      exact h i hi c
  · have tab : ∀ k, k < 12 → ibit 0 k = false := by decide +kernel
    exact tab k hk
end
-- 63.b32.lean.txt
section
def kq_X11_isName_v : sf_Q := ([(1, 11, 0)], [], some (0, 0, 0), [(1, 0, 0, 0, 1, 0)], [])
def ke_X11_isName_v : List Value → ab_H → Option Value → ab_H → Prop := fun _ hp r _ => ∀ T : TT, NT hp T → WOK T → T.k ≤ 88 → RES hp → ∃ z : Int32, r = some (.int z) ∧ (z.toInt = 1 → T.k = 2) ∧ (T.k = 2 → z.toInt = 1)
set_option maxRecDepth 100000 in
set_option maxHeartbeats 4000000 in
theorem ce_X11_isName_v : sf_cE kq_X11_isName_v Z_X11_isName ke_X11_isName_v := by
  intro t hp as H hl hj hpre
  match as, hl with
  | [v0], _ =>
    obtain ⟨a0, rfl, ra0⟩ := bs_aR (hj 0 _ rfl)
    obtain rfl := ra0.eq H (p := 69) rfl
    clear hpre hj
    have F0 : sf_fr [] t hp t hp := sf_fr_rf
    refine bs_finx (E := ke_X11_isName_v) (K := kq_X11_isName_v) (L := L_X11_isName) (nL := 3) (Nat.le_of_ble_eq_true rfl) ?_
    obtain ⟨Q, hQ⟩ : ∃ Q : ab_O → Prop, Q = (fun o => ∃ t', sf_h t' o.2 ∧ sf_fr (kq_X11_isName_v).2.2.2.2 t hp t' o.2 ∧ sf_an t' o.2.1 (kq_X11_isName_v).2.2.1 o.1 ∧ sf_S (sf_v1 o.1 [.ref 69] o.2) (kq_X11_isName_v).2.2.2.1 ∧ ke_X11_isName_v [.ref 69] hp o.1 o.2) := ⟨_, rfl⟩
    rw [← hQ]
    refine (show Ev (ab_T L_X11_isName) 0 ([some (.ref 69), none, none], [], (0, 0), hp) Q from ?_)
    obtain ⟨k0, hk0, lk0, uk0⟩ := bs_fld (k := 11) H (bs_R.uq H (g := 11) rfl) (by decide) rfl
    obtain ⟨w0, hw0⟩ := bs_fldL (k := 17) H (bs_R.uq H (g := 11) rfl) (by decide) rfl
    refine Ev.step (j := 1) (s' := ([some (.ref 69), none, none], [.ref 69], (0, 0), hp)) rfl rfl ?_
    exact by
     refine bs_getI 11 rfl rfl rfl H (bs_R.uq H (g := 11) rfl) (by decide) rfl fun z1 hz1 lz1 gz1 => ?_
     have e2 : z1.toInt = k0 := Option.some.inj (hz1.symm.trans hk0)
     refine bs_lit (k := 1) rfl rfl fun z3 hz3 => ?_
     refine bs_ne rfl (fun c4 => ?_) (fun c4 => ?_)
     · skip
       refine bs_lit (k := 0) rfl rfl fun z5 hz5 => ?_
       refine Ev.step (j := 14) (s' := ([some (.ref 69), some (.int z5), none], [], (0, 0), hp)) rfl rfl ?_
       refine bs_lit (k := 0) rfl rfl fun z6 hz6 => ?_
       refine Ev.step (j := 16) (s' := ([some (.ref 69), some (.int z5), some (.int z6)], [], (0, 0), hp)) rfl rfl ?_
       have INV : (z5.toInt = 1 ↔ k0 = 1 ∧ ∀ j : Nat, (j : Int) < z6.toInt → sf_rl hp 75 j ≠ some w0) := ⟨fun e => ⟨by omega, fun j hj => absurd hj (by omega)⟩, fun h => by have h1 := h.1; omega⟩
       refine bs_loop (ι := Int32 × Int32) (fun ⟨k7, k8⟩ => ([some (.ref 69), some (.int k7), some (.int k8)], [], (0, 0), hp)) (fun ⟨k7, k8⟩ => (0 ≤ k7.toInt ∧ k7.toInt ≤ 1 ∧ 0 ≤ k8.toInt ∧ k8.toInt ≤ 25) ∧ ((k7.toInt = 1 ↔ k0 = 1 ∧ ∀ j : Nat, (j : Int) < k8.toInt → sf_rl hp 75 j ≠ some w0))) (fun ⟨k7, k8⟩ => (25 - k8.toInt).toNat) ?_ (z5, z6) ⟨(by first | omega | assumption), (by exact INV)⟩
       rintro ⟨k7, k8⟩ ⟨i10, i11⟩ ih9
       clear INV
       refine (show Ev _ 16 ([some (.ref 69), some (.int k7), some (.int k8)], [], (0, 0), hp) _ from ?_)
       exact by
        refine Ev.step (j := 17) (s' := ([some (.ref 69), some (.int k7), some (.int k8)], [.int k8], (0, 0), hp)) rfl rfl ?_
        refine bs_lit (k := 25) rfl rfl fun z12 hz12 => ?_
        refine bs_ge rfl (fun c13 => ?_) (fun c13 => ?_)
        · skip
          refine Ev.step (j := 53) (s' := ([some (.ref 69), some (.int k7), some (.int k8)], [.int k7], (0, 0), hp)) rfl rfl ?_
          exact bs_zret rfl rfl (by omega) (by omega) (by rw [hQ]; exact ⟨t, H, F0, bs_an0, sf_S_cons (sf_s1 (x := k7.toInt) rfl (by omega) (by omega)) (sf_S_nil), (fun T hN hW h8 hR => by
                  have KK : k0 = rkk T.k := Option.some.inj (hk0.symm.trans hN.2.2.1)
                  refine ⟨k7, rfl, fun e => ?_, fun e => ?_⟩
                  · obtain ⟨a, b⟩ := i11.mp e
                    rcases rkk_1 (KK.symm.trans a) with c | c
                    · exact c
                    · obtain ⟨w, g1, g2⟩ := hN.2.2.2.2.2 (KK.symm.trans a)
                      have EW : w = w0 := Option.some.inj (g1.symm.trans hw0)
                      obtain ⟨w2, g3, g4⟩ := hR (T.k - 64).toNat (by omega)
                      have E3 := ((hW (Or.inr c)).2 (T.k - 64).toNat (by omega)).mpr (by omega)
                      exact absurd (g3.trans (congrArg some (Int64.toInt_inj.mp (by rw [g4, ← E3, ← g2, EW])))) (b _ (by omega))
                  · have K1 : rkk T.k = 1 := by rw [e]; rfl
                    obtain ⟨w, g1, g2⟩ := hN.2.2.2.2.2 K1
                    have EW : w = w0 := Option.some.inj (g1.symm.trans hw0)
                    refine i11.mpr ⟨KK.trans K1, fun j hj e2 => ?_⟩
                    obtain ⟨w2, g3, g4⟩ := hR j (by omega)
                    have E4 : w2 = w0 := Option.some.inj (g3.symm.trans e2)
                    have E5 := ((hW (Or.inl e)).2 j (by omega)).mp (by rw [← g2, EW, ← E4]; exact g4)
                    omega)⟩)
        · skip
          refine Ev.step (j := 23) (s' := ([some (.ref 69), some (.int k7), some (.int k8)], [.int k7], (0, 0), hp)) rfl rfl ?_
          exact by
           refine bs_ifeq rfl (fun c14 => ?_) (fun c14 => ?_)
           · skip
             have c15 : k7.toInt = 0 := by omega
             refine bs_lit (k := 0) rfl rfl fun z16 hz16 => ?_
             refine Ev.step (j := 46) (s' := ([some (.ref 69), some (.int z16), some (.int k8)], [], (0, 0), hp)) rfl rfl ?_
             refine bs_iinc (1) rfl rfl rfl rfl (by omega) (by omega) fun z17 hz17 => ?_
             refine (show Ev _ 49 ([some (.ref 69), some (.int z16), some (.int z17)], [], (0, 0), hp) _ from ?_)
             refine Ev.step (j := 16) (s' := ([some (.ref 69), some (.int z16), some (.int z17)], [], (0, 0), hp)) rfl rfl ?_
             have INV : (z16.toInt = 1 ↔ k0 = 1 ∧ ∀ j : Nat, (j : Int) < z17.toInt → sf_rl hp 75 j ≠ some w0) := ⟨fun e => absurd e (by omega), fun h => by have := i11.mpr ⟨h.1, fun j hj => h.2 j (by omega)⟩; omega⟩
             refine ih9 (z16, z17) ⟨(by first | omega | assumption), (by exact INV)⟩ ?_
             show (25 - z17.toInt).toNat < (25 - k8.toInt).toNat
             omega
           · skip
             refine Ev.step (j := 27) (s' := ([some (.ref 69), some (.int k7), some (.int k8)], [.ref 69], (0, 0), hp)) rfl rfl ?_
             exact by
              refine bs_getLe (g := 11) rfl rfl H (bs_R.uq H (g := 11) rfl) (by decide) rfl hw0 ?_
              refine Ev.step (j := 31) (s' := ([some (.ref 69), some (.int k7), some (.int k8)], [.ref 69, .long w0], (0, 0), hp)) rfl rfl ?_
              refine bs_getU (g := 11) (g1 := 136) rfl rfl H (bs_R.uq H (g := 11) rfl) (by decide) rfl rfl ?_
              refine Ev.step (j := 35) (s' := ([some (.ref 69), some (.int k7), some (.int k8)], [.int k8, .ref 75, .long w0], (0, 0), hp)) rfl rfl ?_
              refine bs_laldv (g := 136) rfl H (bs_R.uq H (g := 136) rfl) (by decide) rfl (by omega) (by show _ < ((25 : Nat) : Int); omega) fun w18 hw18 => ?_
              have LA : sf_rl hp 75 k8.toInt.toNat = some w18 := hw18
              refine bs_lcmpv rfl fun z19 hz19 => ?_
              refine bs_ifeq rfl (fun c20 => ?_) (fun c20 => ?_)
              · skip
                have c21 : z19.toInt = 0 := by omega
                refine bs_lit (k := 0) rfl rfl fun z22 hz22 => ?_
                exact by
                 refine Ev.step (j := 46) (s' := ([some (.ref 69), some (.int z22), some (.int k8)], [], (0, 0), hp)) rfl rfl ?_
                 refine bs_iinc (1) rfl rfl rfl rfl (by omega) (by omega) fun z23 hz23 => ?_
                 refine (show Ev _ 49 ([some (.ref 69), some (.int z22), some (.int z23)], [], (0, 0), hp) _ from ?_)
                 refine Ev.step (j := 16) (s' := ([some (.ref 69), some (.int z22), some (.int z23)], [], (0, 0), hp)) rfl rfl ?_
                 have INV : (z22.toInt = 1 ↔ k0 = 1 ∧ ∀ j : Nat, (j : Int) < z23.toInt → sf_rl hp 75 j ≠ some w0) := ⟨fun e => absurd e (by omega), fun h => absurd (by rw [LA, hz19.mp (by omega)]) (h.2 k8.toInt.toNat (by omega))⟩
                 refine ih9 (z22, z23) ⟨(by first | omega | assumption), (by exact INV)⟩ ?_
                 show (25 - z23.toInt).toNat < (25 - k8.toInt).toNat
                 omega
              · skip
                refine bs_lit (k := 1) rfl rfl fun z24 hz24 => ?_
                exact by
                 refine Ev.step (j := 45) (s' := ([some (.ref 69), some (.int k7), some (.int k8)], [.int z24], (0, 0), hp)) rfl rfl ?_
                 refine Ev.step (j := 46) (s' := ([some (.ref 69), some (.int z24), some (.int k8)], [], (0, 0), hp)) rfl rfl ?_
                 refine bs_iinc (1) rfl rfl rfl rfl (by omega) (by omega) fun z25 hz25 => ?_
                 refine (show Ev _ 49 ([some (.ref 69), some (.int z24), some (.int z25)], [], (0, 0), hp) _ from ?_)
                 refine Ev.step (j := 16) (s' := ([some (.ref 69), some (.int z24), some (.int z25)], [], (0, 0), hp)) rfl rfl ?_
                 have INV : (z24.toInt = 1 ↔ k0 = 1 ∧ ∀ j : Nat, (j : Int) < z25.toInt → sf_rl hp 75 j ≠ some w0) := ⟨fun _ => ⟨(i11.mp (by omega)).1, fun j hj => by rcases (show (j : Int) < k8.toInt ∨ j = k8.toInt.toNat by omega) with h | h; exact (i11.mp (by omega)).2 j h; rw [h, LA]; intro e; exact absurd (hz19.mpr (Option.some.inj e).symm) (by omega)⟩, fun _ => by omega⟩
                 refine ih9 (z24, z25) ⟨(by first | omega | assumption), (by exact INV)⟩ ?_
                 show (25 - z25.toInt).toNat < (25 - k8.toInt).toNat
                 omega
     · skip
       have c26 : z1.toInt = 1 := by omega
       refine bs_lit (k := 1) rfl rfl fun z27 hz27 => ?_
       exact by
        refine Ev.step (j := 13) (s' := ([some (.ref 69), none, none], [.int z27], (0, 0), hp)) rfl rfl ?_
        refine Ev.step (j := 14) (s' := ([some (.ref 69), some (.int z27), none], [], (0, 0), hp)) rfl rfl ?_
        refine bs_lit (k := 0) rfl rfl fun z28 hz28 => ?_
        refine Ev.step (j := 16) (s' := ([some (.ref 69), some (.int z27), some (.int z28)], [], (0, 0), hp)) rfl rfl ?_
        have INV : (z27.toInt = 1 ↔ k0 = 1 ∧ ∀ j : Nat, (j : Int) < z28.toInt → sf_rl hp 75 j ≠ some w0) := ⟨fun e => ⟨by omega, fun j hj => absurd hj (by omega)⟩, fun h => by have h1 := h.1; omega⟩
        refine bs_loop (ι := Int32 × Int32) (fun ⟨k29, k30⟩ => ([some (.ref 69), some (.int k29), some (.int k30)], [], (0, 0), hp)) (fun ⟨k29, k30⟩ => (0 ≤ k29.toInt ∧ k29.toInt ≤ 1 ∧ 0 ≤ k30.toInt ∧ k30.toInt ≤ 25) ∧ ((k29.toInt = 1 ↔ k0 = 1 ∧ ∀ j : Nat, (j : Int) < k30.toInt → sf_rl hp 75 j ≠ some w0))) (fun ⟨k29, k30⟩ => (25 - k30.toInt).toNat) ?_ (z27, z28) ⟨(by first | omega | assumption), (by exact INV)⟩
        rintro ⟨k29, k30⟩ ⟨i32, i33⟩ ih31
        clear INV
        refine (show Ev _ 16 ([some (.ref 69), some (.int k29), some (.int k30)], [], (0, 0), hp) _ from ?_)
        exact by
         refine Ev.step (j := 17) (s' := ([some (.ref 69), some (.int k29), some (.int k30)], [.int k30], (0, 0), hp)) rfl rfl ?_
         refine bs_lit (k := 25) rfl rfl fun z34 hz34 => ?_
         refine bs_ge rfl (fun c35 => ?_) (fun c35 => ?_)
         · skip
           refine Ev.step (j := 53) (s' := ([some (.ref 69), some (.int k29), some (.int k30)], [.int k29], (0, 0), hp)) rfl rfl ?_
           exact bs_zret rfl rfl (by omega) (by omega) (by rw [hQ]; exact ⟨t, H, F0, bs_an0, sf_S_cons (sf_s1 (x := k29.toInt) rfl (by omega) (by omega)) (sf_S_nil), (fun T hN hW h8 hR => by
                   have KK : k0 = rkk T.k := Option.some.inj (hk0.symm.trans hN.2.2.1)
                   refine ⟨k29, rfl, fun e => ?_, fun e => ?_⟩
                   · obtain ⟨a, b⟩ := i33.mp e
                     rcases rkk_1 (KK.symm.trans a) with c | c
                     · exact c
                     · obtain ⟨w, g1, g2⟩ := hN.2.2.2.2.2 (KK.symm.trans a)
                       have EW : w = w0 := Option.some.inj (g1.symm.trans hw0)
                       obtain ⟨w2, g3, g4⟩ := hR (T.k - 64).toNat (by omega)
                       have E3 := ((hW (Or.inr c)).2 (T.k - 64).toNat (by omega)).mpr (by omega)
                       exact absurd (g3.trans (congrArg some (Int64.toInt_inj.mp (by rw [g4, ← E3, ← g2, EW])))) (b _ (by omega))
                   · have K1 : rkk T.k = 1 := by rw [e]; rfl
                     obtain ⟨w, g1, g2⟩ := hN.2.2.2.2.2 K1
                     have EW : w = w0 := Option.some.inj (g1.symm.trans hw0)
                     refine i33.mpr ⟨KK.trans K1, fun j hj e2 => ?_⟩
                     obtain ⟨w2, g3, g4⟩ := hR j (by omega)
                     have E4 : w2 = w0 := Option.some.inj (g3.symm.trans e2)
                     have E5 := ((hW (Or.inl e)).2 j (by omega)).mp (by rw [← g2, EW, ← E4]; exact g4)
                     omega)⟩)
         · skip
           refine Ev.step (j := 23) (s' := ([some (.ref 69), some (.int k29), some (.int k30)], [.int k29], (0, 0), hp)) rfl rfl ?_
           exact by
            refine bs_ifeq rfl (fun c36 => ?_) (fun c36 => ?_)
            · skip
              have c37 : k29.toInt = 0 := by omega
              refine bs_lit (k := 0) rfl rfl fun z38 hz38 => ?_
              refine Ev.step (j := 46) (s' := ([some (.ref 69), some (.int z38), some (.int k30)], [], (0, 0), hp)) rfl rfl ?_
              refine bs_iinc (1) rfl rfl rfl rfl (by omega) (by omega) fun z39 hz39 => ?_
              refine (show Ev _ 49 ([some (.ref 69), some (.int z38), some (.int z39)], [], (0, 0), hp) _ from ?_)
              refine Ev.step (j := 16) (s' := ([some (.ref 69), some (.int z38), some (.int z39)], [], (0, 0), hp)) rfl rfl ?_
              have INV : (z38.toInt = 1 ↔ k0 = 1 ∧ ∀ j : Nat, (j : Int) < z39.toInt → sf_rl hp 75 j ≠ some w0) := ⟨fun e => absurd e (by omega), fun h => by have := i33.mpr ⟨h.1, fun j hj => h.2 j (by omega)⟩; omega⟩
              refine ih31 (z38, z39) ⟨(by first | omega | assumption), (by exact INV)⟩ ?_
              show (25 - z39.toInt).toNat < (25 - k30.toInt).toNat
              omega
            · skip
              refine Ev.step (j := 27) (s' := ([some (.ref 69), some (.int k29), some (.int k30)], [.ref 69], (0, 0), hp)) rfl rfl ?_
              exact by
               refine bs_getLe (g := 11) rfl rfl H (bs_R.uq H (g := 11) rfl) (by decide) rfl hw0 ?_
               refine Ev.step (j := 31) (s' := ([some (.ref 69), some (.int k29), some (.int k30)], [.ref 69, .long w0], (0, 0), hp)) rfl rfl ?_
               refine bs_getU (g := 11) (g1 := 136) rfl rfl H (bs_R.uq H (g := 11) rfl) (by decide) rfl rfl ?_
               refine Ev.step (j := 35) (s' := ([some (.ref 69), some (.int k29), some (.int k30)], [.int k30, .ref 75, .long w0], (0, 0), hp)) rfl rfl ?_
               refine bs_laldv (g := 136) rfl H (bs_R.uq H (g := 136) rfl) (by decide) rfl (by omega) (by show _ < ((25 : Nat) : Int); omega) fun w40 hw40 => ?_
               have LA : sf_rl hp 75 k30.toInt.toNat = some w40 := hw40
               refine bs_lcmpv rfl fun z41 hz41 => ?_
               refine bs_ifeq rfl (fun c42 => ?_) (fun c42 => ?_)
               · skip
                 have c43 : z41.toInt = 0 := by omega
                 refine bs_lit (k := 0) rfl rfl fun z44 hz44 => ?_
                 exact by
                  refine Ev.step (j := 46) (s' := ([some (.ref 69), some (.int z44), some (.int k30)], [], (0, 0), hp)) rfl rfl ?_
                  refine bs_iinc (1) rfl rfl rfl rfl (by omega) (by omega) fun z45 hz45 => ?_
                  refine (show Ev _ 49 ([some (.ref 69), some (.int z44), some (.int z45)], [], (0, 0), hp) _ from ?_)
                  refine Ev.step (j := 16) (s' := ([some (.ref 69), some (.int z44), some (.int z45)], [], (0, 0), hp)) rfl rfl ?_
                  have INV : (z44.toInt = 1 ↔ k0 = 1 ∧ ∀ j : Nat, (j : Int) < z45.toInt → sf_rl hp 75 j ≠ some w0) := ⟨fun e => absurd e (by omega), fun h => absurd (by rw [LA, hz41.mp (by omega)]) (h.2 k30.toInt.toNat (by omega))⟩
                  refine ih31 (z44, z45) ⟨(by first | omega | assumption), (by exact INV)⟩ ?_
                  show (25 - z45.toInt).toNat < (25 - k30.toInt).toNat
                  omega
               · skip
                 refine bs_lit (k := 1) rfl rfl fun z46 hz46 => ?_
                 exact by
                  refine Ev.step (j := 45) (s' := ([some (.ref 69), some (.int k29), some (.int k30)], [.int z46], (0, 0), hp)) rfl rfl ?_
                  refine Ev.step (j := 46) (s' := ([some (.ref 69), some (.int z46), some (.int k30)], [], (0, 0), hp)) rfl rfl ?_
                  refine bs_iinc (1) rfl rfl rfl rfl (by omega) (by omega) fun z47 hz47 => ?_
                  refine (show Ev _ 49 ([some (.ref 69), some (.int z46), some (.int z47)], [], (0, 0), hp) _ from ?_)
                  refine Ev.step (j := 16) (s' := ([some (.ref 69), some (.int z46), some (.int z47)], [], (0, 0), hp)) rfl rfl ?_
                  have INV : (z46.toInt = 1 ↔ k0 = 1 ∧ ∀ j : Nat, (j : Int) < z47.toInt → sf_rl hp 75 j ≠ some w0) := ⟨fun _ => ⟨(i33.mp (by omega)).1, fun j hj => by rcases (show (j : Int) < k30.toInt ∨ j = k30.toInt.toNat by omega) with h | h; exact (i33.mp (by omega)).2 j h; rw [h, LA]; intro e; exact absurd (hz41.mpr (Option.some.inj e).symm) (by omega)⟩, fun _ => by omega⟩
                  refine ih31 (z46, z47) ⟨(by first | omega | assumption), (by exact INV)⟩ ?_
                  show (25 - z47.toInt).toNat < (25 - k30.toInt).toNat
                  omega
def kq_X11_find_v : sf_Q := ([(1, 11, 0), (0, 0, 0), (0, 0, 0)], [(1, 3, 0, 14, 20, 0), (1, 6, 0, 0, 8, 0)], some (0, 0, 0), [(1, 0, 0, -1, 7, 0)], [])
def ke_X11_find_v : List Value → ab_H → Option Value → ab_H → Prop := fun as hp r _ => ∀ (x y : Int32) (nm : Nat → Int) (q : Nat) (v : Int), as = [.ref 69, .int x, .int y] → (∀ k : Nat, (k : Int) < y.toInt → ∃ w, sf_rl hp 74 (x.toInt.toNat + k) = some w ∧ w.toInt = nm (q + k)) → (∃ w, sf_rl hp 69 17 = some w ∧ w.toInt = v) → ∃ z : Int32, r = some (.int z) ∧ z.toInt = fnd nm q y.toInt v
set_option maxRecDepth 100000 in
set_option maxHeartbeats 4000000 in
theorem ce_X11_find_v : sf_cE kq_X11_find_v Z_X11_find ke_X11_find_v := by
  intro t hp as H hl hj hpre
  match as, hl with
  | [v0, v1, v2], _ =>
    obtain ⟨a0, rfl, ra0⟩ := bs_aR (hj 0 _ rfl)
    obtain rfl := ra0.eq H (p := 69) rfl
    obtain ⟨x1, rfl⟩ := bs_aI (hj 1 _ rfl)
    have rg1 := n_range x1
    obtain ⟨x2, rfl⟩ := bs_aI (hj 2 _ rfl)
    have rg2 := n_range x2
    obtain ⟨pl0, ph0⟩ := bs_s1 (x := x1.toInt) rfl (hpre _ (List.mem_of_getElem? (i := 0) rfl))
    obtain ⟨pl1, ph1⟩ := bs_s1 (x := x2.toInt) rfl (hpre _ (List.mem_of_getElem? (i := 1) rfl))
    clear hpre hj
    have F0 : sf_fr [] t hp t hp := sf_fr_rf
    refine bs_finx (E := ke_X11_find_v) (K := kq_X11_find_v) (L := L_X11_find) (nL := 4) (Nat.le_of_ble_eq_true rfl) ?_
    obtain ⟨Q, hQ⟩ : ∃ Q : ab_O → Prop, Q = (fun o => ∃ t', sf_h t' o.2 ∧ sf_fr (kq_X11_find_v).2.2.2.2 t hp t' o.2 ∧ sf_an t' o.2.1 (kq_X11_find_v).2.2.1 o.1 ∧ sf_S (sf_v1 o.1 [.ref 69, .int x1, .int x2] o.2) (kq_X11_find_v).2.2.2.1 ∧ ke_X11_find_v [.ref 69, .int x1, .int x2] hp o.1 o.2) := ⟨_, rfl⟩
    rw [← hQ]
    refine (show Ev (ab_T L_X11_find) 0 ([some (.ref 69), some (.int x1), some (.int x2), none], [], (0, 0), hp) Q from ?_)
    obtain ⟨w0, hw0⟩ := bs_fldL (k := 17) H (bs_R.uq H (g := 11) rfl) (by decide) rfl
    refine bs_lit (k := 0) rfl rfl fun z1 hz1 => ?_
    exact by
     refine Ev.step (j := 2) (s' := ([some (.ref 69), some (.int x1), some (.int x2), some (.int z1)], [], (0, 0), hp)) rfl rfl ?_
     refine bs_loop (ι := Int32) (fun k2 => ([some (.ref 69), some (.int x1), some (.int x2), some (.int k2)], [], (0, 0), hp)) (fun k2 => (0 ≤ k2.toInt ∧ k2.toInt ≤ 8) ∧ (∀ j : Nat, (j : Int) < k2.toInt → sf_rl hp 74 (x1.toInt.toNat + j) ≠ some w0)) (fun k2 => (8 - k2.toInt).toNat) ?_ z1 ⟨(by first | omega | assumption), (by first | exact INV | exact fun j h => absurd h (by omega))⟩
     rintro k2 ⟨i4, i5⟩ ih3
     refine (show Ev _ 2 ([some (.ref 69), some (.int x1), some (.int x2), some (.int k2)], [], (0, 0), hp) _ from ?_)
     refine Ev.step (j := 3) (s' := ([some (.ref 69), some (.int x1), some (.int x2), some (.int k2)], [.int k2], (0, 0), hp)) rfl rfl ?_
     refine Ev.step (j := 4) (s' := ([some (.ref 69), some (.int x1), some (.int x2), some (.int k2)], [.int x2, .int k2], (0, 0), hp)) rfl rfl ?_
     refine bs_ge rfl (fun c6 => ?_) (fun c6 => ?_)
     · skip
       refine bs_lit (k := -1) rfl rfl fun z7 hz7 => ?_
       exact Ev.ret rfl rfl (by rw [hQ]; exact ⟨t, H, F0, bs_an0, sf_S_cons (sf_s1 (x := z7.toInt) rfl (by omega) (by omega)) (sf_S_nil), (fun x y nm q v ha hN hw => by
               obtain ⟨w, g1, g2⟩ := hw
               have EW : w = w0 := Option.some.inj (g1.symm.trans hw0)
               have NE_ : ∀ j : Nat, (∃ w, sf_rl hp 74 (x1.toInt.toNat + j) = some w ∧ w.toInt = nm (q + j)) → (j : Int) < k2.toInt → nm (q + j) ≠ v := fun j h1 h2 e => by
                 obtain ⟨w', g3, g4⟩ := h1
                 rw [e, ← g2, EW] at g4
                 exact i5 j h2 (by rw [g3, Int64.toInt_inj.mp g4])
               cases ha
               exact ⟨z7, rfl, (fnd_is (Or.inl ⟨by omega, fun j hj => NE_ j (hN j hj) (by omega)⟩)).symm⟩)⟩)
     · skip
       refine Ev.step (j := 8) (s' := ([some (.ref 69), some (.int x1), some (.int x2), some (.int k2)], [.ref 69], (0, 0), hp)) rfl rfl ?_
       exact by
        refine bs_getU (g := 11) (g1 := 135) rfl rfl H (bs_R.uq H (g := 11) rfl) (by decide) rfl rfl ?_
        refine Ev.step (j := 12) (s' := ([some (.ref 69), some (.int x1), some (.int x2), some (.int k2)], [.int x1, .ref 74], (0, 0), hp)) rfl rfl ?_
        refine Ev.step (j := 13) (s' := ([some (.ref 69), some (.int x1), some (.int x2), some (.int k2)], [.int k2, .int x1, .ref 74], (0, 0), hp)) rfl rfl ?_
        first | (refine bs_add rfl (by omega) (by omega) fun z8 hz8 => ?_) | (refine bs_any rfl fun z8 => ?_)
        have rz8 := n_range z8
        refine bs_laldv (g := 135) rfl H (bs_R.uq H (g := 135) rfl) (by decide) rfl (by omega) (by show _ < ((28 : Nat) : Int); omega) fun w9 hw9 => ?_
        have LA : sf_rl hp 74 (x1.toInt.toNat + k2.toInt.toNat) = some w9 := bl_at hw9 (by omega)
        refine Ev.step (j := 16) (s' := ([some (.ref 69), some (.int x1), some (.int x2), some (.int k2)], [.ref 69, .long w9], (0, 0), hp)) rfl rfl ?_
        exact by
         refine bs_getLe (g := 11) rfl rfl H (bs_R.uq H (g := 11) rfl) (by decide) rfl hw0 ?_
         refine bs_lcmpv rfl fun z10 hz10 => ?_
         refine bs_ifne rfl (fun c11 => ?_) (fun c11 => ?_)
         · skip
           refine bs_iinc (1) rfl rfl rfl rfl (by omega) (by omega) fun z12 hz12 => ?_
           refine (show Ev _ 28 ([some (.ref 69), some (.int x1), some (.int x2), some (.int z12)], [], (0, 0), hp) _ from ?_)
           refine Ev.step (j := 2) (s' := ([some (.ref 69), some (.int x1), some (.int x2), some (.int z12)], [], (0, 0), hp)) rfl rfl ?_
           have INV : ∀ j : Nat, (j : Int) < z12.toInt → sf_rl hp 74 (x1.toInt.toNat + j) ≠ some w0 := by
             intro j hj
             rcases (show (j : Int) < k2.toInt ∨ j = k2.toInt.toNat by omega) with h | h
             · exact i5 j h
             · rw [h, LA]; intro e; exact absurd (hz10.mpr (Option.some.inj e)) (by omega)
           refine ih3 z12 ⟨(by first | omega | assumption), (by first | exact INV | exact fun j h => absurd h (by omega))⟩ ?_
           show (8 - z12.toInt).toNat < (8 - k2.toInt).toNat
           omega
         · skip
           have c13 : z10.toInt = 0 := by omega
           refine Ev.step (j := 24) (s' := ([some (.ref 69), some (.int x1), some (.int x2), some (.int k2)], [.int k2], (0, 0), hp)) rfl rfl ?_
           exact Ev.ret rfl rfl (by rw [hQ]; exact ⟨t, H, F0, bs_an0, sf_S_cons (sf_s1 (x := k2.toInt) rfl (by omega) (by omega)) (sf_S_nil), (fun x y nm q v ha hN hw => by
                   obtain ⟨w, g1, g2⟩ := hw
                   have EW : w = w0 := Option.some.inj (g1.symm.trans hw0)
                   have NE_ : ∀ j : Nat, (∃ w, sf_rl hp 74 (x1.toInt.toNat + j) = some w ∧ w.toInt = nm (q + j)) → (j : Int) < k2.toInt → nm (q + j) ≠ v := fun j h1 h2 e => by
                     obtain ⟨w', g3, g4⟩ := h1
                     rw [e, ← g2, EW] at g4
                     exact i5 j h2 (by rw [g3, Int64.toInt_inj.mp g4])
                   cases ha
                   obtain ⟨w', g3, g4⟩ := hN k2.toInt.toNat (by omega)
                   have EW2 : w' = _ := Option.some.inj (g3.symm.trans LA)
                   rw [EW2, hz10.mp (by omega), ← EW, g2] at g4
                   exact ⟨k2, rfl, (fnd_is (Or.inr ⟨by omega, by omega, g4.symm, fun j hj => NE_ j (hN j (by omega)) hj⟩)).symm⟩)⟩)
def kq_X11_takes_v : sf_Q := ([(1, 11, 0), (0, 0, 0), (0, 0, 0)], [(1, 3, 0, 0, 1, 0), (1, 6, 0, 0, 999, 0)], some (0, 0, 0), [(1, 0, 0, 0, 1, 0)], [(11, 4, 4), (11, 11, 18)])
def ke_X11_takes_v : List Value → ab_H → Option Value → ab_H → Prop := fun as hp r hp' => ∀ lo hi : Int32, as = [.ref 69, .int lo, .int hi] → (∀ z : Int32, r = some (.int z) → z.toInt ≠ 0 → ∃ v : Int, sf_rd hp' 69 18 = some v ∧ lo.toInt ≤ v ∧ v ≤ hi.toInt) ∧ ∀ (B : Nat → Int) (n lim i : Nat), RK hp B n lim i → ∃ z : Int32, r = some (.int z) ∧ ((z.toInt = 1 ∧ (tok B n lim i).k = 3 ∧ lo.toInt ≤ (tok B n lim i).v ∧ (tok B n lim i).v ≤ hi.toInt ∧ sf_rd hp' 69 18 = some (tok B n lim i).v ∧ RK hp' B n lim (i + 1)) ∨ (z.toInt = 0 ∧ sf_rd hp' 69 16 = some (tok B n lim i).pl ∧ (((tok B n lim i).k ≠ 3 ∧ sf_rd hp' 69 15 = some 1) ∨ (((tok B n lim i).k = 3 ∧ ((tok B n lim i).v < lo.toInt ∨ hi.toInt < (tok B n lim i).v)) ∧ sf_rd hp' 69 15 = some 2))))
set_option maxRecDepth 100000 in
set_option maxHeartbeats 4000000 in
theorem ce_X11_takes_v : sf_cE kq_X11_takes_v Z_X11_takes ke_X11_takes_v := by
  intro t hp as H hl hj hpre
  match as, hl with
  | [v0, v1, v2], _ =>
    obtain ⟨a0, rfl, ra0⟩ := bs_aR (hj 0 _ rfl)
    obtain rfl := ra0.eq H (p := 69) rfl
    obtain ⟨x1, rfl⟩ := bs_aI (hj 1 _ rfl)
    have rg1 := n_range x1
    obtain ⟨x2, rfl⟩ := bs_aI (hj 2 _ rfl)
    have rg2 := n_range x2
    obtain ⟨pl0, ph0⟩ := bs_s1 (x := x1.toInt) rfl (hpre _ (List.mem_of_getElem? (i := 0) rfl))
    obtain ⟨pl1, ph1⟩ := bs_s1 (x := x2.toInt) rfl (hpre _ (List.mem_of_getElem? (i := 1) rfl))
    clear hpre hj
    have F0 : sf_fr [(11, 4, 4), (11, 11, 18)] t hp t hp := sf_fr_rf
    refine bs_finx (E := ke_X11_takes_v) (K := kq_X11_takes_v) (L := (L_X11_takes Z_X11_bad Z_X11_isIn Z_X11_next)) (nL := 3) (Nat.le_of_ble_eq_true rfl) ?_
    obtain ⟨Q, hQ⟩ : ∃ Q : ab_O → Prop, Q = (fun o => ∃ t', sf_h t' o.2 ∧ sf_fr (kq_X11_takes_v).2.2.2.2 t hp t' o.2 ∧ sf_an t' o.2.1 (kq_X11_takes_v).2.2.1 o.1 ∧ sf_S (sf_v1 o.1 [.ref 69, .int x1, .int x2] o.2) (kq_X11_takes_v).2.2.2.1 ∧ ke_X11_takes_v [.ref 69, .int x1, .int x2] hp o.1 o.2) := ⟨_, rfl⟩
    rw [← hQ]
    refine (show Ev (ab_T (L_X11_takes Z_X11_bad Z_X11_isIn Z_X11_next)) 0 ([some (.ref 69), some (.int x1), some (.int x2)], [], (0, 0), hp) Q from ?_)
    exact by
     refine Ev.step (j := 1) (s' := ([some (.ref 69), some (.int x1), some (.int x2)], [.ref 69], (0, 0), hp)) rfl rfl ?_
     refine bs_getI 11 rfl rfl rfl H (bs_R.uq H (g := 11) rfl) (by decide) rfl fun z1 hz1 lz1 gz1 => ?_
     refine bs_lit (k := 2) rfl rfl fun z2 hz2 => ?_
     refine bs_eq rfl (fun c3 => ?_) (fun c3 => ?_)
     · skip
       have c4 : z1.toInt = 2 := by omega
       refine Ev.step (j := 15) (s' := ([some (.ref 69), some (.int x1), some (.int x2)], [.ref 69], (0, 0), hp)) rfl rfl ?_
       refine bs_getI 11 rfl rfl rfl H (bs_R.uq H (g := 11) rfl) (by decide) rfl fun z5 hz5 lz5 gz5 => ?_
       refine Ev.step (j := 19) (s' := ([some (.ref 69), some (.int x1), some (.int x2)], [.int x1, .int z5], (0, 0), hp)) rfl rfl ?_
       exact by
        refine Ev.step (j := 20) (s' := ([some (.ref 69), some (.int x1), some (.int x2)], [.int x2, .int x1, .int z5], (0, 0), hp)) rfl rfl ?_
        refine Ev.inlS (L := L_X11_isIn) (nL := 3) rfl rfl (Nat.le_of_ble_eq_true rfl) ?_
        generalize hQ6 : (fun (o : ab_O) => Ev _ _ _ _) = Q6
        refine (show Ev (ab_T L_X11_isIn) 0 ([some (.int z5), some (.int x1), some (.int x2)], [], (0, 0), hp) Q6 from ?_)
        refine Ev.step (j := 1) (s' := ([some (.int z5), some (.int x1), some (.int x2)], [.int z5], (0, 0), hp)) rfl rfl ?_
        refine Ev.step (j := 2) (s' := ([some (.int z5), some (.int x1), some (.int x2)], [.int x1, .int z5], (0, 0), hp)) rfl rfl ?_
        refine bs_lt rfl (fun c7 => ?_) (fun c7 => ?_)
        · skip
          refine bs_lit (k := 0) rfl rfl fun z8 hz8 => ?_
          refine bs_zret rfl rfl (by omega) (by omega) ?_
          rw [← hQ6]
          refine (show Ev _ 23 ([some (.ref 69), some (.int x1), some (.int x2)], [.int z8], (0, 0), hp) _ from ?_)
          exact by
           refine bs_ifne rfl (fun c9 => ?_) (fun c9 => ?_)
           · exfalso; omega
           · skip
             refine Ev.step (j := 27) (s' := ([some (.ref 69), some (.int x1), some (.int x2)], [.ref 69], (0, 0), hp)) rfl rfl ?_
             refine bs_lit (k := 2) rfl rfl fun z10 hz10 => ?_
             refine Ev.inl (L := L_X11_bad) (nL := 2) rfl (bs_rcv (g := 11) H (bs_R.uq H (g := 11) rfl) (by decide) rfl) rfl (Nat.le_of_ble_eq_true rfl) ?_
             generalize hQ11 : (fun (o : ab_O) => Ev _ _ _ _) = Q11
             refine (show Ev (ab_T L_X11_bad) 0 ([some (.ref 69), some (.int z10)], [], (0, 0), hp) Q11 from ?_)
             refine Ev.step (j := 1) (s' := ([some (.ref 69), some (.int z10)], [.ref 69], (0, 0), hp)) rfl rfl ?_
             refine Ev.step (j := 2) (s' := ([some (.ref 69), some (.int z10)], [.int z10, .ref 69], (0, 0), hp)) rfl rfl ?_
             refine bs_putIv (W := [(11, 15, 15)]) (g := 11) rfl rfl H (bs_R.uq H (g := 11) rfl) (by decide) rfl rfl rfl rfl (Or.inl rfl) (by omega) (by omega) fun hp12 Hhp12 fhp12 rhp12 ehp12 qhp12 nhp12 => ?_
             have Fhp12 := sf_fr_tr F0 (sf_fr_wider (W := [(11, 4, 4), (11, 11, 18)]) rfl fhp12)
             have h13 : sf_rd hp12 69 11 = some z1.toInt := (ehp12 _ _ (Or.inr (by omega))).trans hz1
             have h14 : sf_rd hp12 69 14 = some z5.toInt := (ehp12 _ _ (Or.inr (by omega))).trans hz5
             refine Ev.step (j := 6) (s' := ([some (.ref 69), some (.int z10)], [.ref 69], (0, 0), hp12)) rfl rfl ?_
             exact by
              refine Ev.step (j := 7) (s' := ([some (.ref 69), some (.int z10)], [.ref 69, .ref 69], (0, 0), hp12)) rfl rfl ?_
              refine bs_getI 11 rfl rfl rfl Hhp12 (bs_R.uq Hhp12 (g := 11) rfl) (by decide) rfl fun z15 hz15 lz15 gz15 => ?_
              refine bs_putIv (W := [(11, 16, 16)]) (g := 11) rfl rfl Hhp12 (bs_R.uq Hhp12 (g := 11) rfl) (by decide) rfl rfl rfl rfl (Or.inl rfl) (by omega) (by omega) fun hp16 Hhp16 fhp16 rhp16 ehp16 qhp16 nhp16 => ?_
              have Fhp16 := sf_fr_tr Fhp12 (sf_fr_wider (W := [(11, 4, 4), (11, 11, 18)]) rfl fhp16)
              have h17 : sf_rd hp16 69 11 = some z1.toInt := (ehp16 _ _ (Or.inr (by omega))).trans h13
              have h18 : sf_rd hp16 69 14 = some z5.toInt := (ehp16 _ _ (Or.inr (by omega))).trans h14
              have h19 : sf_rd hp16 69 15 = some z10.toInt := (ehp16 _ _ (Or.inr (by omega))).trans rhp12
              have h20 : sf_rd hp16 69 12 = some z15.toInt := (ehp16 _ _ (Or.inr (by omega))).trans hz15
              refine bs_lit (k := 0) rfl rfl fun z21 hz21 => ?_
              exact by
               refine bs_zret rfl rfl (by omega) (by omega) ?_
               rw [← hQ11]
               refine (show Ev _ 31 ([some (.ref 69), some (.int x1), some (.int x2)], [.int z21], (0, 0), hp16) _ from ?_)
               exact bs_zret rfl rfl (by omega) (by omega) (by rw [hQ]; exact ⟨t, Hhp16, Fhp16, bs_an0, sf_S_cons (sf_s1 (x := z21.toInt) rfl (by omega) (by omega)) (sf_S_nil), (fun lo hi ha => by
                       cases ha
                       refine ⟨fun z hz hne => ?_, fun B n lim i hK => ?_⟩
                       · obtain rfl := Value.int.inj (Option.some.inj hz)
                         exact absurd hne (by omega)
                       · have KK := RK_k hK hz1
                         have K3 : (tok B n lim i).k = 3 := rkk_2 (by omega)
                         have VV := RK_v hK K3 hz5
                         have PL : z15.toInt = (tok B n lim i).pl := Option.some.inj (hz15.symm.trans (((ehp12 _ _ (Or.inr (by omega)))).trans (RK_pl hK)))
                         exact ⟨z21, rfl, Or.inr ⟨by omega, rhp16.trans (congrArg some PL), Or.inr ⟨⟨K3, by omega⟩, h19.trans (congrArg some (by omega))⟩⟩⟩)⟩)
        · skip
          refine Ev.step (j := 6) (s' := ([some (.int z5), some (.int x1), some (.int x2)], [.int z5], (0, 0), hp)) rfl rfl ?_
          exact by
           refine Ev.step (j := 7) (s' := ([some (.int z5), some (.int x1), some (.int x2)], [.int x2, .int z5], (0, 0), hp)) rfl rfl ?_
           refine bs_gt rfl (fun c22 => ?_) (fun c22 => ?_)
           · skip
             refine bs_lit (k := 0) rfl rfl fun z23 hz23 => ?_
             refine bs_zret rfl rfl (by omega) (by omega) ?_
             rw [← hQ6]
             refine (show Ev _ 23 ([some (.ref 69), some (.int x1), some (.int x2)], [.int z23], (0, 0), hp) _ from ?_)
             refine bs_ifne rfl (fun c24 => ?_) (fun c24 => ?_)
             · exfalso; omega
             · skip
               refine Ev.step (j := 27) (s' := ([some (.ref 69), some (.int x1), some (.int x2)], [.ref 69], (0, 0), hp)) rfl rfl ?_
               refine bs_lit (k := 2) rfl rfl fun z25 hz25 => ?_
               exact by
                refine Ev.inl (L := L_X11_bad) (nL := 2) rfl (bs_rcv (g := 11) H (bs_R.uq H (g := 11) rfl) (by decide) rfl) rfl (Nat.le_of_ble_eq_true rfl) ?_
                generalize hQ26 : (fun (o : ab_O) => Ev _ _ _ _) = Q26
                refine (show Ev (ab_T L_X11_bad) 0 ([some (.ref 69), some (.int z25)], [], (0, 0), hp) Q26 from ?_)
                refine Ev.step (j := 1) (s' := ([some (.ref 69), some (.int z25)], [.ref 69], (0, 0), hp)) rfl rfl ?_
                refine Ev.step (j := 2) (s' := ([some (.ref 69), some (.int z25)], [.int z25, .ref 69], (0, 0), hp)) rfl rfl ?_
                refine bs_putIv (W := [(11, 15, 15)]) (g := 11) rfl rfl H (bs_R.uq H (g := 11) rfl) (by decide) rfl rfl rfl rfl (Or.inl rfl) (by omega) (by omega) fun hp27 Hhp27 fhp27 rhp27 ehp27 qhp27 nhp27 => ?_
                have Fhp27 := sf_fr_tr F0 (sf_fr_wider (W := [(11, 4, 4), (11, 11, 18)]) rfl fhp27)
                have h28 : sf_rd hp27 69 11 = some z1.toInt := (ehp27 _ _ (Or.inr (by omega))).trans hz1
                have h29 : sf_rd hp27 69 14 = some z5.toInt := (ehp27 _ _ (Or.inr (by omega))).trans hz5
                refine Ev.step (j := 6) (s' := ([some (.ref 69), some (.int z25)], [.ref 69], (0, 0), hp27)) rfl rfl ?_
                exact by
                 refine Ev.step (j := 7) (s' := ([some (.ref 69), some (.int z25)], [.ref 69, .ref 69], (0, 0), hp27)) rfl rfl ?_
                 refine bs_getI 11 rfl rfl rfl Hhp27 (bs_R.uq Hhp27 (g := 11) rfl) (by decide) rfl fun z30 hz30 lz30 gz30 => ?_
                 refine bs_putIv (W := [(11, 16, 16)]) (g := 11) rfl rfl Hhp27 (bs_R.uq Hhp27 (g := 11) rfl) (by decide) rfl rfl rfl rfl (Or.inl rfl) (by omega) (by omega) fun hp31 Hhp31 fhp31 rhp31 ehp31 qhp31 nhp31 => ?_
                 have Fhp31 := sf_fr_tr Fhp27 (sf_fr_wider (W := [(11, 4, 4), (11, 11, 18)]) rfl fhp31)
                 have h32 : sf_rd hp31 69 11 = some z1.toInt := (ehp31 _ _ (Or.inr (by omega))).trans h28
                 have h33 : sf_rd hp31 69 14 = some z5.toInt := (ehp31 _ _ (Or.inr (by omega))).trans h29
                 have h34 : sf_rd hp31 69 15 = some z25.toInt := (ehp31 _ _ (Or.inr (by omega))).trans rhp27
                 have h35 : sf_rd hp31 69 12 = some z30.toInt := (ehp31 _ _ (Or.inr (by omega))).trans hz30
                 refine bs_lit (k := 0) rfl rfl fun z36 hz36 => ?_
                 exact by
                  refine bs_zret rfl rfl (by omega) (by omega) ?_
                  rw [← hQ26]
                  refine (show Ev _ 31 ([some (.ref 69), some (.int x1), some (.int x2)], [.int z36], (0, 0), hp31) _ from ?_)
                  exact bs_zret rfl rfl (by omega) (by omega) (by rw [hQ]; exact ⟨t, Hhp31, Fhp31, bs_an0, sf_S_cons (sf_s1 (x := z36.toInt) rfl (by omega) (by omega)) (sf_S_nil), (fun lo hi ha => by
                          cases ha
                          refine ⟨fun z hz hne => ?_, fun B n lim i hK => ?_⟩
                          · obtain rfl := Value.int.inj (Option.some.inj hz)
                            exact absurd hne (by omega)
                          · have KK := RK_k hK hz1
                            have K3 : (tok B n lim i).k = 3 := rkk_2 (by omega)
                            have VV := RK_v hK K3 hz5
                            have PL : z30.toInt = (tok B n lim i).pl := Option.some.inj (hz30.symm.trans (((ehp27 _ _ (Or.inr (by omega)))).trans (RK_pl hK)))
                            exact ⟨z36, rfl, Or.inr ⟨by omega, rhp31.trans (congrArg some PL), Or.inr ⟨⟨K3, by omega⟩, h34.trans (congrArg some (by omega))⟩⟩⟩)⟩)
           · skip
             refine bs_lit (k := 1) rfl rfl fun z37 hz37 => ?_
             exact by
              refine Ev.step (j := 15) (s' := ([some (.int z5), some (.int x1), some (.int x2)], [.int z37], (0, 0), hp)) rfl rfl ?_
              refine bs_zret rfl rfl (by omega) (by omega) ?_
              rw [← hQ6]
              refine (show Ev _ 23 ([some (.ref 69), some (.int x1), some (.int x2)], [.int z37], (0, 0), hp) _ from ?_)
              refine bs_ifne rfl (fun c38 => ?_) (fun c38 => ?_)
              · skip
                refine Ev.step (j := 33) (s' := ([some (.ref 69), some (.int x1), some (.int x2)], [.ref 69], (0, 0), hp)) rfl rfl ?_
                refine Ev.step (j := 34) (s' := ([some (.ref 69), some (.int x1), some (.int x2)], [.ref 69, .ref 69], (0, 0), hp)) rfl rfl ?_
                refine bs_getI 11 rfl rfl rfl H (bs_R.uq H (g := 11) rfl) (by decide) rfl fun z39 hz39 lz39 gz39 => ?_
                have e40 : z39.toInt = z5.toInt := Option.some.inj (hz39.symm.trans hz5)
                refine bs_putIv (W := [(11, 18, 18)]) (g := 11) rfl rfl H (bs_R.uq H (g := 11) rfl) (by decide) rfl rfl rfl rfl (Or.inl rfl) (by omega) (by omega) fun hp41 Hhp41 fhp41 rhp41 ehp41 qhp41 nhp41 => ?_
                have Fhp41 := sf_fr_tr F0 (sf_fr_wider (W := [(11, 4, 4), (11, 11, 18)]) rfl fhp41)
                have h42 : sf_rd hp41 69 11 = some z1.toInt := (ehp41 _ _ (Or.inr (by omega))).trans hz1
                have h43 : sf_rd hp41 69 14 = some z5.toInt := (ehp41 _ _ (Or.inr (by omega))).trans hz5
                refine Ev.step (j := 41) (s' := ([some (.ref 69), some (.int x1), some (.int x2)], [.ref 69], (0, 0), hp41)) rfl rfl ?_
                exact by
                 refine bs_callx (K := kq_X11_next_v) [.ref 69] [] rfl ce_X11_next_v Hhp41 rfl rfl rfl (bs_rcv (g := 11) Hhp41 (bs_R.uq Hhp41 (g := 11) rfl) (by decide) rfl) rfl ?_ (sf_S_nil) fun r44 hp45 thp45 Hhp45 fhp45 ahp45 php45 xhp45 => ?_
                 · intro q k h
                   match q, h with
                   | 0, h => cases h; exact bs_jR (bs_R.uq Hhp41 (g := 11) rfl)
                   | q + 1, h => cases h
                 obtain rfl := ahp45.1 rfl
                 have Fhp45 := sf_fr_tr Fhp41 (sf_fr_wider (W := [(11, 4, 4), (11, 11, 18)]) rfl fhp45)
                 have h46 : sf_rd hp45 69 18 = some z39.toInt := (fhp45.2.2.1 _ (bs_R.uq Hhp41 (g := 11) (p := 69) rfl).1 _ (by rw [(bs_R.uq Hhp41 (g := 11) (p := 69) rfl).2]; rfl)).trans rhp41
                 refine (show Ev _ 44 ([some (.ref 69), some (.int x1), some (.int x2)], [], (0, 0), hp45) _ from ?_)
                 refine bs_lit (k := 1) rfl rfl fun z47 hz47 => ?_
                 exact bs_zret rfl rfl (by omega) (by omega) (by rw [hQ]; exact ⟨thp45, Hhp45, Fhp45, bs_an0, sf_S_cons (sf_s1 (x := z47.toInt) rfl (by omega) (by omega)) (sf_S_nil), (fun lo hi ha => by
                         cases ha
                         refine ⟨fun z hz hne => ?_, fun B n lim i hK => ?_⟩
                         · exact ⟨_, h46, by omega, by omega⟩
                         · have KK := RK_k hK hz1
                           have K3 : (tok B n lim i).k = 3 := rkk_2 (by omega)
                           have VV := RK_v hK K3 hz5
                           have K1 := RK_keep H fhp41 rfl rfl (nhp41 _ _) hK
                           have K2 := (RK_next Hhp41 fhp45 rfl rfl rfl xhp45 K1).1
                           exact ⟨z47, rfl, Or.inl ⟨by omega, K3, by omega, by omega, h46.trans (congrArg some (by omega)), K2⟩⟩)⟩)
              · exfalso; omega
     · skip
       refine Ev.step (j := 9) (s' := ([some (.ref 69), some (.int x1), some (.int x2)], [.ref 69], (0, 0), hp)) rfl rfl ?_
       exact by
        refine bs_lit (k := 1) rfl rfl fun z48 hz48 => ?_
        refine Ev.inl (L := L_X11_bad) (nL := 2) rfl (bs_rcv (g := 11) H (bs_R.uq H (g := 11) rfl) (by decide) rfl) rfl (Nat.le_of_ble_eq_true rfl) ?_
        generalize hQ49 : (fun (o : ab_O) => Ev _ _ _ _) = Q49
        refine (show Ev (ab_T L_X11_bad) 0 ([some (.ref 69), some (.int z48)], [], (0, 0), hp) Q49 from ?_)
        refine Ev.step (j := 1) (s' := ([some (.ref 69), some (.int z48)], [.ref 69], (0, 0), hp)) rfl rfl ?_
        refine Ev.step (j := 2) (s' := ([some (.ref 69), some (.int z48)], [.int z48, .ref 69], (0, 0), hp)) rfl rfl ?_
        refine bs_putIv (W := [(11, 15, 15)]) (g := 11) rfl rfl H (bs_R.uq H (g := 11) rfl) (by decide) rfl rfl rfl rfl (Or.inl rfl) (by omega) (by omega) fun hp50 Hhp50 fhp50 rhp50 ehp50 qhp50 nhp50 => ?_
        have Fhp50 := sf_fr_tr F0 (sf_fr_wider (W := [(11, 4, 4), (11, 11, 18)]) rfl fhp50)
        have h51 : sf_rd hp50 69 11 = some z1.toInt := (ehp50 _ _ (Or.inr (by omega))).trans hz1
        refine Ev.step (j := 6) (s' := ([some (.ref 69), some (.int z48)], [.ref 69], (0, 0), hp50)) rfl rfl ?_
        exact by
         refine Ev.step (j := 7) (s' := ([some (.ref 69), some (.int z48)], [.ref 69, .ref 69], (0, 0), hp50)) rfl rfl ?_
         refine bs_getI 11 rfl rfl rfl Hhp50 (bs_R.uq Hhp50 (g := 11) rfl) (by decide) rfl fun z52 hz52 lz52 gz52 => ?_
         refine bs_putIv (W := [(11, 16, 16)]) (g := 11) rfl rfl Hhp50 (bs_R.uq Hhp50 (g := 11) rfl) (by decide) rfl rfl rfl rfl (Or.inl rfl) (by omega) (by omega) fun hp53 Hhp53 fhp53 rhp53 ehp53 qhp53 nhp53 => ?_
         have Fhp53 := sf_fr_tr Fhp50 (sf_fr_wider (W := [(11, 4, 4), (11, 11, 18)]) rfl fhp53)
         have h54 : sf_rd hp53 69 11 = some z1.toInt := (ehp53 _ _ (Or.inr (by omega))).trans h51
         have h55 : sf_rd hp53 69 15 = some z48.toInt := (ehp53 _ _ (Or.inr (by omega))).trans rhp50
         have h56 : sf_rd hp53 69 12 = some z52.toInt := (ehp53 _ _ (Or.inr (by omega))).trans hz52
         refine bs_lit (k := 0) rfl rfl fun z57 hz57 => ?_
         exact by
          refine bs_zret rfl rfl (by omega) (by omega) ?_
          rw [← hQ49]
          refine (show Ev _ 13 ([some (.ref 69), some (.int x1), some (.int x2)], [.int z57], (0, 0), hp53) _ from ?_)
          exact bs_zret rfl rfl (by omega) (by omega) (by rw [hQ]; exact ⟨t, Hhp53, Fhp53, bs_an0, sf_S_cons (sf_s1 (x := z57.toInt) rfl (by omega) (by omega)) (sf_S_nil), (fun lo hi ha => by
                  cases ha
                  refine ⟨fun z hz hne => ?_, fun B n lim i hK => ?_⟩
                  · obtain rfl := Value.int.inj (Option.some.inj hz)
                    exact absurd hne (by omega)
                  · have KK := RK_k hK hz1
                    have PL : z52.toInt = (tok B n lim i).pl := Option.some.inj (hz52.symm.trans (((ehp50 _ _ (Or.inr (by omega)))).trans (RK_pl hK)))
                    have K3 : (tok B n lim i).k ≠ 3 := fun e => by rw [e] at KK; have KK2 : _ = (2 : Int) := KK; omega
                    exact ⟨z57, rfl, Or.inr ⟨by omega, rhp53.trans (congrArg some PL), Or.inl ⟨K3, h55.trans (congrArg some (by omega))⟩⟩⟩)⟩)
def kq_X11_puts_v0 : sf_Q := ([(1, 11, 0), (0, 0, 0), (0, 0, 0), (0, 0, 0)], [(1, 3, 0, 2, 2, 0), (1, 6, 0, 1, 1, 0), (1, 9, 0, 40, 40, 0)], some (0, 0, 0), [(1, 0, 0, 0, 1, 0)], [(11, 4, 4), (11, 11, 18), (133, 2, 2)])
def ke_X11_puts_v0 : List Value → ab_H → Option Value → ab_H → Prop := fun as hp r hp' => ∀ (p lo hi : Int32) (B : Nat → Int) (n lim i : Nat), as = [.ref 69, .int p, .int lo, .int hi] → RK hp B n lim i → ∃ z : Int32, r = some (.int z) ∧ ((z.toInt = 1 ∧ (tok B n lim i).k = 3 ∧ lo.toInt ≤ (tok B n lim i).v ∧ (tok B n lim i).v ≤ hi.toInt ∧ sf_rd hp' 72 p.toInt.toNat = some (tok B n lim i).v ∧ (∀ q, q ≠ p.toInt.toNat → sf_rd hp' 72 q = sf_rd hp 72 q) ∧ RK hp' B n lim (i + 1)) ∨ (z.toInt = 0 ∧ sf_rd hp' 69 16 = some (tok B n lim i).pl ∧ (((tok B n lim i).k ≠ 3 ∧ sf_rd hp' 69 15 = some 1) ∨ (((tok B n lim i).k = 3 ∧ ((tok B n lim i).v < lo.toInt ∨ hi.toInt < (tok B n lim i).v)) ∧ sf_rd hp' 69 15 = some 2))))
set_option maxRecDepth 100000 in
set_option maxHeartbeats 4000000 in
theorem ce_X11_puts_v0 : sf_cE kq_X11_puts_v0 Z_X11_puts ke_X11_puts_v0 := by
  intro t hp as H hl hj hpre
  match as, hl with
  | [v0, v1, v2, v3], _ =>
    obtain ⟨a0, rfl, ra0⟩ := bs_aR (hj 0 _ rfl)
    obtain rfl := ra0.eq H (p := 69) rfl
    obtain ⟨x1, rfl⟩ := bs_aI (hj 1 _ rfl)
    have rg1 := n_range x1
    obtain ⟨x2, rfl⟩ := bs_aI (hj 2 _ rfl)
    have rg2 := n_range x2
    obtain ⟨x3, rfl⟩ := bs_aI (hj 3 _ rfl)
    have rg3 := n_range x3
    obtain ⟨pl0, ph0⟩ := bs_s1 (x := x1.toInt) rfl (hpre _ (List.mem_of_getElem? (i := 0) rfl))
    obtain ⟨pl1, ph1⟩ := bs_s1 (x := x2.toInt) rfl (hpre _ (List.mem_of_getElem? (i := 1) rfl))
    obtain ⟨pl2, ph2⟩ := bs_s1 (x := x3.toInt) rfl (hpre _ (List.mem_of_getElem? (i := 2) rfl))
    clear hpre hj
    have F0 : sf_fr [(11, 4, 4), (11, 11, 18), (133, 2, 2)] t hp t hp := sf_fr_rf
    refine bs_finx (E := ke_X11_puts_v0) (K := kq_X11_puts_v0) (L := (L_X11_puts Z_X11_takes)) (nL := 4) (Nat.le_of_ble_eq_true rfl) ?_
    obtain ⟨Q, hQ⟩ : ∃ Q : ab_O → Prop, Q = (fun o => ∃ t', sf_h t' o.2 ∧ sf_fr (kq_X11_puts_v0).2.2.2.2 t hp t' o.2 ∧ sf_an t' o.2.1 (kq_X11_puts_v0).2.2.1 o.1 ∧ sf_S (sf_v1 o.1 [.ref 69, .int x1, .int x2, .int x3] o.2) (kq_X11_puts_v0).2.2.2.1 ∧ ke_X11_puts_v0 [.ref 69, .int x1, .int x2, .int x3] hp o.1 o.2) := ⟨_, rfl⟩
    rw [← hQ]
    refine (show Ev (ab_T (L_X11_puts Z_X11_takes)) 0 ([some (.ref 69), some (.int x1), some (.int x2), some (.int x3)], [], (0, 0), hp) Q from ?_)
    exact by
     refine Ev.step (j := 1) (s' := ([some (.ref 69), some (.int x1), some (.int x2), some (.int x3)], [.ref 69], (0, 0), hp)) rfl rfl ?_
     refine Ev.step (j := 2) (s' := ([some (.ref 69), some (.int x1), some (.int x2), some (.int x3)], [.int x2, .ref 69], (0, 0), hp)) rfl rfl ?_
     refine Ev.step (j := 3) (s' := ([some (.ref 69), some (.int x1), some (.int x2), some (.int x3)], [.int x3, .int x2, .ref 69], (0, 0), hp)) rfl rfl ?_
     refine bs_callx (K := kq_X11_takes_v) [.ref 69, .int x2, .int x3] [] rfl ce_X11_takes_v H rfl rfl rfl (bs_rcv (g := 11) H (bs_R.uq H (g := 11) rfl) (by decide) rfl) rfl ?_ (sf_S_cons (sf_s1 (x := x2.toInt) rfl (by omega) (by omega)) (sf_S_cons (sf_s1 (x := x3.toInt) rfl (by omega) (by omega)) (sf_S_nil))) fun r1 hp2 thp2 Hhp2 fhp2 ahp2 php2 xhp2 => ?_
     · intro q k h
       match q, h with
       | 0, h => cases h; exact bs_jR (bs_R.uq H (g := 11) rfl)
       | 1, h => cases h; exact sf_j0
       | 2, h => cases h; exact sf_j0
       | q + 3, h => cases h
     obtain ⟨z3, rfl⟩ := bs_anI ahp2
     have rgz3 := n_range z3
     have Fhp2 := sf_fr_tr F0 (sf_fr_wider (W := [(11, 4, 4), (11, 11, 18), (133, 2, 2)]) rfl fhp2)
     obtain ⟨uz3, vz3⟩ := bs_s1 (x := z3.toInt) rfl (php2 _ (List.mem_of_getElem? (i := 0) rfl))
     refine (show Ev _ 6 ([some (.ref 69), some (.int x1), some (.int x2), some (.int x3)], [.int z3], (0, 0), hp2) _ from ?_)
     exact by
      refine bs_ifne rfl (fun c4 => ?_) (fun c4 => ?_)
      · skip
        obtain ⟨y5, hy5, ly5, gy5⟩ := (xhp2 _ _ rfl).1 _ rfl (by omega)
        refine Ev.step (j := 12) (s' := ([some (.ref 69), some (.int x1), some (.int x2), some (.int x3)], [.ref 69], (0, 0), hp2)) rfl rfl ?_
        refine bs_getU (g := 11) (g1 := 133) rfl rfl Hhp2 (bs_R.uq Hhp2 (g := 11) rfl) (by decide) rfl rfl ?_
        refine Ev.step (j := 16) (s' := ([some (.ref 69), some (.int x1), some (.int x2), some (.int x3)], [.int x1, .ref 72], (0, 0), hp2)) rfl rfl ?_
        refine Ev.step (j := 17) (s' := ([some (.ref 69), some (.int x1), some (.int x2), some (.int x3)], [.ref 69, .int x1, .ref 72], (0, 0), hp2)) rfl rfl ?_
        refine bs_getI 11 rfl rfl rfl Hhp2 (bs_R.uq Hhp2 (g := 11) rfl) (by decide) rfl fun z6 hz6 lz6 gz6 => ?_
        have e7 : z6.toInt = y5 := Option.some.inj (hz6.symm.trans hy5)
        refine bs_stv (W := [(133, 2, 2)]) (g := 133) 2 2 (0, 40) rfl Hhp2 (bs_R.uq Hhp2 (g := 133) rfl) (by decide) rfl rfl (by decide) rfl rfl (by omega) (by omega) (by dsimp only; omega) (by dsimp only; omega) fun hp8 Hhp8 fhp8 rhp8 ehp8 qhp8 nhp8 => ?_
        have Fhp8 := sf_fr_tr Fhp2 (sf_fr_wider (W := [(11, 4, 4), (11, 11, 18), (133, 2, 2)]) rfl fhp8)
        have h9 : sf_rd hp8 69 18 = some y5 := (ehp8 _ _ (Or.inl (by decide))).trans hy5
        refine bs_lit (k := 1) rfl rfl fun z10 hz10 => ?_
        exact bs_zret rfl rfl (by omega) (by omega) (by rw [hQ]; exact ⟨thp2, Hhp8, Fhp8, bs_an0, sf_S_cons (sf_s1 (x := z10.toInt) rfl (by omega) (by omega)) (sf_S_nil), (fun p lo hi B n lim i ha hK => by
                cases ha
                obtain ⟨q1, rq1, X1⟩ := (xhp2 _ _ rfl).2 B n lim i hK
                obtain rfl := Value.int.inj (Option.some.inj rq1)
                obtain ⟨Y0, Y1, Y2, Y3, Y4, Y5⟩ := X1.resolve_right (fun h => absurd h.1 (by omega))
                have VV : y5 = (tok B n lim i).v := Option.some.inj (hy5.symm.trans Y4)
                exact ⟨z10, rfl, Or.inl ⟨by omega, Y1, Y2, Y3, rhp8.trans (congrArg some (by omega)), fun q hq => ((ehp8 _ _ (Or.inr (by omega))).trans (fhp2.2.2.1 _ (bs_R.uq H (g := 133) (p := 72) rfl).1 _ (by rw [(bs_R.uq H (g := 133) (p := 72) rfl).2]; rfl))), RK_keep Hhp2 fhp8 rfl rfl (nhp8 _ _) Y5⟩⟩)⟩)
      · skip
        have c11 : z3.toInt = 0 := by omega
        refine bs_lit (k := 0) rfl rfl fun z12 hz12 => ?_
        exact bs_zret rfl rfl (by omega) (by omega) (by rw [hQ]; exact ⟨thp2, Hhp2, Fhp2, bs_an0, sf_S_cons (sf_s1 (x := z12.toInt) rfl (by omega) (by omega)) (sf_S_nil), (fun p lo hi B n lim i ha hK => by
                cases ha
                obtain ⟨q1, rq1, X1⟩ := (xhp2 _ _ rfl).2 B n lim i hK
                obtain rfl := Value.int.inj (Option.some.inj rq1)
                obtain ⟨Y0, Y1, Y2⟩ := X1.resolve_left (fun h => absurd h.1 (by omega))
                exact ⟨z12, rfl, Or.inr ⟨by omega, Y1, Y2⟩⟩)⟩)
def kq_X11_puts_v1 : sf_Q := ([(1, 11, 0), (0, 0, 0), (0, 0, 0), (0, 0, 0)], [(1, 3, 0, 52, 59, 0), (1, 6, 0, 0, 0, 0), (1, 9, 0, 1, 1, 0)], some (0, 0, 0), [(1, 0, 0, 0, 1, 0)], [(11, 4, 4), (11, 11, 18), (133, 52, 59)])
def ke_X11_puts_v1 : List Value → ab_H → Option Value → ab_H → Prop := fun as hp r hp' => ∀ (p lo hi : Int32) (B : Nat → Int) (n lim i : Nat), as = [.ref 69, .int p, .int lo, .int hi] → RK hp B n lim i → ∃ z : Int32, r = some (.int z) ∧ ((z.toInt = 1 ∧ (tok B n lim i).k = 3 ∧ lo.toInt ≤ (tok B n lim i).v ∧ (tok B n lim i).v ≤ hi.toInt ∧ sf_rd hp' 72 p.toInt.toNat = some (tok B n lim i).v ∧ (∀ q, q ≠ p.toInt.toNat → sf_rd hp' 72 q = sf_rd hp 72 q) ∧ RK hp' B n lim (i + 1)) ∨ (z.toInt = 0 ∧ sf_rd hp' 69 16 = some (tok B n lim i).pl ∧ (((tok B n lim i).k ≠ 3 ∧ sf_rd hp' 69 15 = some 1) ∨ (((tok B n lim i).k = 3 ∧ ((tok B n lim i).v < lo.toInt ∨ hi.toInt < (tok B n lim i).v)) ∧ sf_rd hp' 69 15 = some 2))))
set_option maxRecDepth 100000 in
set_option maxHeartbeats 4000000 in
theorem ce_X11_puts_v1 : sf_cE kq_X11_puts_v1 Z_X11_puts ke_X11_puts_v1 := by
  intro t hp as H hl hj hpre
  match as, hl with
  | [v0, v1, v2, v3], _ =>
    obtain ⟨a0, rfl, ra0⟩ := bs_aR (hj 0 _ rfl)
    obtain rfl := ra0.eq H (p := 69) rfl
    obtain ⟨x1, rfl⟩ := bs_aI (hj 1 _ rfl)
    have rg1 := n_range x1
    obtain ⟨x2, rfl⟩ := bs_aI (hj 2 _ rfl)
    have rg2 := n_range x2
    obtain ⟨x3, rfl⟩ := bs_aI (hj 3 _ rfl)
    have rg3 := n_range x3
    obtain ⟨pl0, ph0⟩ := bs_s1 (x := x1.toInt) rfl (hpre _ (List.mem_of_getElem? (i := 0) rfl))
    obtain ⟨pl1, ph1⟩ := bs_s1 (x := x2.toInt) rfl (hpre _ (List.mem_of_getElem? (i := 1) rfl))
    obtain ⟨pl2, ph2⟩ := bs_s1 (x := x3.toInt) rfl (hpre _ (List.mem_of_getElem? (i := 2) rfl))
    clear hpre hj
    have F0 : sf_fr [(11, 4, 4), (11, 11, 18), (133, 52, 59)] t hp t hp := sf_fr_rf
    refine bs_finx (E := ke_X11_puts_v1) (K := kq_X11_puts_v1) (L := (L_X11_puts Z_X11_takes)) (nL := 4) (Nat.le_of_ble_eq_true rfl) ?_
    obtain ⟨Q, hQ⟩ : ∃ Q : ab_O → Prop, Q = (fun o => ∃ t', sf_h t' o.2 ∧ sf_fr (kq_X11_puts_v1).2.2.2.2 t hp t' o.2 ∧ sf_an t' o.2.1 (kq_X11_puts_v1).2.2.1 o.1 ∧ sf_S (sf_v1 o.1 [.ref 69, .int x1, .int x2, .int x3] o.2) (kq_X11_puts_v1).2.2.2.1 ∧ ke_X11_puts_v1 [.ref 69, .int x1, .int x2, .int x3] hp o.1 o.2) := ⟨_, rfl⟩
    rw [← hQ]
    refine (show Ev (ab_T (L_X11_puts Z_X11_takes)) 0 ([some (.ref 69), some (.int x1), some (.int x2), some (.int x3)], [], (0, 0), hp) Q from ?_)
    exact by
     refine Ev.step (j := 1) (s' := ([some (.ref 69), some (.int x1), some (.int x2), some (.int x3)], [.ref 69], (0, 0), hp)) rfl rfl ?_
     refine Ev.step (j := 2) (s' := ([some (.ref 69), some (.int x1), some (.int x2), some (.int x3)], [.int x2, .ref 69], (0, 0), hp)) rfl rfl ?_
     refine Ev.step (j := 3) (s' := ([some (.ref 69), some (.int x1), some (.int x2), some (.int x3)], [.int x3, .int x2, .ref 69], (0, 0), hp)) rfl rfl ?_
     refine bs_callx (K := kq_X11_takes_v) [.ref 69, .int x2, .int x3] [] rfl ce_X11_takes_v H rfl rfl rfl (bs_rcv (g := 11) H (bs_R.uq H (g := 11) rfl) (by decide) rfl) rfl ?_ (sf_S_cons (sf_s1 (x := x2.toInt) rfl (by omega) (by omega)) (sf_S_cons (sf_s1 (x := x3.toInt) rfl (by omega) (by omega)) (sf_S_nil))) fun r1 hp2 thp2 Hhp2 fhp2 ahp2 php2 xhp2 => ?_
     · intro q k h
       match q, h with
       | 0, h => cases h; exact bs_jR (bs_R.uq H (g := 11) rfl)
       | 1, h => cases h; exact sf_j0
       | 2, h => cases h; exact sf_j0
       | q + 3, h => cases h
     obtain ⟨z3, rfl⟩ := bs_anI ahp2
     have rgz3 := n_range z3
     have Fhp2 := sf_fr_tr F0 (sf_fr_wider (W := [(11, 4, 4), (11, 11, 18), (133, 52, 59)]) rfl fhp2)
     obtain ⟨uz3, vz3⟩ := bs_s1 (x := z3.toInt) rfl (php2 _ (List.mem_of_getElem? (i := 0) rfl))
     refine (show Ev _ 6 ([some (.ref 69), some (.int x1), some (.int x2), some (.int x3)], [.int z3], (0, 0), hp2) _ from ?_)
     exact by
      refine bs_ifne rfl (fun c4 => ?_) (fun c4 => ?_)
      · skip
        obtain ⟨y5, hy5, ly5, gy5⟩ := (xhp2 _ _ rfl).1 _ rfl (by omega)
        refine Ev.step (j := 12) (s' := ([some (.ref 69), some (.int x1), some (.int x2), some (.int x3)], [.ref 69], (0, 0), hp2)) rfl rfl ?_
        refine bs_getU (g := 11) (g1 := 133) rfl rfl Hhp2 (bs_R.uq Hhp2 (g := 11) rfl) (by decide) rfl rfl ?_
        refine Ev.step (j := 16) (s' := ([some (.ref 69), some (.int x1), some (.int x2), some (.int x3)], [.int x1, .ref 72], (0, 0), hp2)) rfl rfl ?_
        refine Ev.step (j := 17) (s' := ([some (.ref 69), some (.int x1), some (.int x2), some (.int x3)], [.ref 69, .int x1, .ref 72], (0, 0), hp2)) rfl rfl ?_
        refine bs_getI 11 rfl rfl rfl Hhp2 (bs_R.uq Hhp2 (g := 11) rfl) (by decide) rfl fun z6 hz6 lz6 gz6 => ?_
        have e7 : z6.toInt = y5 := Option.some.inj (hz6.symm.trans hy5)
        refine bs_stv (W := [(133, 52, 59)]) (g := 133) 52 59 (-2147483648, 2147483647) rfl Hhp2 (bs_R.uq Hhp2 (g := 133) rfl) (by decide) rfl rfl (by decide) rfl rfl (by omega) (by omega) (by dsimp only; omega) (by dsimp only; omega) fun hp8 Hhp8 fhp8 rhp8 ehp8 qhp8 nhp8 => ?_
        have Fhp8 := sf_fr_tr Fhp2 (sf_fr_wider (W := [(11, 4, 4), (11, 11, 18), (133, 52, 59)]) rfl fhp8)
        have h9 : sf_rd hp8 69 18 = some y5 := (ehp8 _ _ (Or.inl (by decide))).trans hy5
        refine bs_lit (k := 1) rfl rfl fun z10 hz10 => ?_
        exact bs_zret rfl rfl (by omega) (by omega) (by rw [hQ]; exact ⟨thp2, Hhp8, Fhp8, bs_an0, sf_S_cons (sf_s1 (x := z10.toInt) rfl (by omega) (by omega)) (sf_S_nil), (fun p lo hi B n lim i ha hK => by
                cases ha
                obtain ⟨q1, rq1, X1⟩ := (xhp2 _ _ rfl).2 B n lim i hK
                obtain rfl := Value.int.inj (Option.some.inj rq1)
                obtain ⟨Y0, Y1, Y2, Y3, Y4, Y5⟩ := X1.resolve_right (fun h => absurd h.1 (by omega))
                have VV : y5 = (tok B n lim i).v := Option.some.inj (hy5.symm.trans Y4)
                exact ⟨z10, rfl, Or.inl ⟨by omega, Y1, Y2, Y3, rhp8.trans (congrArg some (by omega)), fun q hq => ((ehp8 _ _ (Or.inr (by omega))).trans (fhp2.2.2.1 _ (bs_R.uq H (g := 133) (p := 72) rfl).1 _ (by rw [(bs_R.uq H (g := 133) (p := 72) rfl).2]; rfl))), RK_keep Hhp2 fhp8 rfl rfl (nhp8 _ _) Y5⟩⟩)⟩)
      · skip
        have c11 : z3.toInt = 0 := by omega
        refine bs_lit (k := 0) rfl rfl fun z12 hz12 => ?_
        exact bs_zret rfl rfl (by omega) (by omega) (by rw [hQ]; exact ⟨thp2, Hhp2, Fhp2, bs_an0, sf_S_cons (sf_s1 (x := z12.toInt) rfl (by omega) (by omega)) (sf_S_nil), (fun p lo hi B n lim i ha hK => by
                cases ha
                obtain ⟨q1, rq1, X1⟩ := (xhp2 _ _ rfl).2 B n lim i hK
                obtain rfl := Value.int.inj (Option.some.inj rq1)
                obtain ⟨Y0, Y1, Y2⟩ := X1.resolve_left (fun h => absurd h.1 (by omega))
                exact ⟨z12, rfl, Or.inr ⟨by omega, Y1, Y2⟩⟩)⟩)
def kq_X11_puts_v2 : sf_Q := ([(1, 11, 0), (0, 0, 0), (0, 0, 0), (0, 0, 0)], [(1, 3, 0, 4, 51, 0), (1, 6, 0, 0, 0, 0), (1, 9, 0, 20, 250, 0)], some (0, 0, 0), [(1, 0, 0, 0, 1, 0)], [(11, 4, 4), (11, 11, 18), (133, 4, 51)])
def ke_X11_puts_v2 : List Value → ab_H → Option Value → ab_H → Prop := fun as hp r hp' => ∀ (p lo hi : Int32) (B : Nat → Int) (n lim i : Nat), as = [.ref 69, .int p, .int lo, .int hi] → RK hp B n lim i → ∃ z : Int32, r = some (.int z) ∧ ((z.toInt = 1 ∧ (tok B n lim i).k = 3 ∧ lo.toInt ≤ (tok B n lim i).v ∧ (tok B n lim i).v ≤ hi.toInt ∧ sf_rd hp' 72 p.toInt.toNat = some (tok B n lim i).v ∧ (∀ q, q ≠ p.toInt.toNat → sf_rd hp' 72 q = sf_rd hp 72 q) ∧ RK hp' B n lim (i + 1)) ∨ (z.toInt = 0 ∧ sf_rd hp' 69 16 = some (tok B n lim i).pl ∧ (((tok B n lim i).k ≠ 3 ∧ sf_rd hp' 69 15 = some 1) ∨ (((tok B n lim i).k = 3 ∧ ((tok B n lim i).v < lo.toInt ∨ hi.toInt < (tok B n lim i).v)) ∧ sf_rd hp' 69 15 = some 2))))
set_option maxRecDepth 100000 in
set_option maxHeartbeats 4000000 in
theorem ce_X11_puts_v2 : sf_cE kq_X11_puts_v2 Z_X11_puts ke_X11_puts_v2 := by
  intro t hp as H hl hj hpre
  match as, hl with
  | [v0, v1, v2, v3], _ =>
    obtain ⟨a0, rfl, ra0⟩ := bs_aR (hj 0 _ rfl)
    obtain rfl := ra0.eq H (p := 69) rfl
    obtain ⟨x1, rfl⟩ := bs_aI (hj 1 _ rfl)
    have rg1 := n_range x1
    obtain ⟨x2, rfl⟩ := bs_aI (hj 2 _ rfl)
    have rg2 := n_range x2
    obtain ⟨x3, rfl⟩ := bs_aI (hj 3 _ rfl)
    have rg3 := n_range x3
    obtain ⟨pl0, ph0⟩ := bs_s1 (x := x1.toInt) rfl (hpre _ (List.mem_of_getElem? (i := 0) rfl))
    obtain ⟨pl1, ph1⟩ := bs_s1 (x := x2.toInt) rfl (hpre _ (List.mem_of_getElem? (i := 1) rfl))
    obtain ⟨pl2, ph2⟩ := bs_s1 (x := x3.toInt) rfl (hpre _ (List.mem_of_getElem? (i := 2) rfl))
    clear hpre hj
    have F0 : sf_fr [(11, 4, 4), (11, 11, 18), (133, 4, 51)] t hp t hp := sf_fr_rf
    refine bs_finx (E := ke_X11_puts_v2) (K := kq_X11_puts_v2) (L := (L_X11_puts Z_X11_takes)) (nL := 4) (Nat.le_of_ble_eq_true rfl) ?_
    obtain ⟨Q, hQ⟩ : ∃ Q : ab_O → Prop, Q = (fun o => ∃ t', sf_h t' o.2 ∧ sf_fr (kq_X11_puts_v2).2.2.2.2 t hp t' o.2 ∧ sf_an t' o.2.1 (kq_X11_puts_v2).2.2.1 o.1 ∧ sf_S (sf_v1 o.1 [.ref 69, .int x1, .int x2, .int x3] o.2) (kq_X11_puts_v2).2.2.2.1 ∧ ke_X11_puts_v2 [.ref 69, .int x1, .int x2, .int x3] hp o.1 o.2) := ⟨_, rfl⟩
    rw [← hQ]
    refine (show Ev (ab_T (L_X11_puts Z_X11_takes)) 0 ([some (.ref 69), some (.int x1), some (.int x2), some (.int x3)], [], (0, 0), hp) Q from ?_)
    exact by
     refine Ev.step (j := 1) (s' := ([some (.ref 69), some (.int x1), some (.int x2), some (.int x3)], [.ref 69], (0, 0), hp)) rfl rfl ?_
     refine Ev.step (j := 2) (s' := ([some (.ref 69), some (.int x1), some (.int x2), some (.int x3)], [.int x2, .ref 69], (0, 0), hp)) rfl rfl ?_
     refine Ev.step (j := 3) (s' := ([some (.ref 69), some (.int x1), some (.int x2), some (.int x3)], [.int x3, .int x2, .ref 69], (0, 0), hp)) rfl rfl ?_
     refine bs_callx (K := kq_X11_takes_v) [.ref 69, .int x2, .int x3] [] rfl ce_X11_takes_v H rfl rfl rfl (bs_rcv (g := 11) H (bs_R.uq H (g := 11) rfl) (by decide) rfl) rfl ?_ (sf_S_cons (sf_s1 (x := x2.toInt) rfl (by omega) (by omega)) (sf_S_cons (sf_s1 (x := x3.toInt) rfl (by omega) (by omega)) (sf_S_nil))) fun r1 hp2 thp2 Hhp2 fhp2 ahp2 php2 xhp2 => ?_
     · intro q k h
       match q, h with
       | 0, h => cases h; exact bs_jR (bs_R.uq H (g := 11) rfl)
       | 1, h => cases h; exact sf_j0
       | 2, h => cases h; exact sf_j0
       | q + 3, h => cases h
     obtain ⟨z3, rfl⟩ := bs_anI ahp2
     have rgz3 := n_range z3
     have Fhp2 := sf_fr_tr F0 (sf_fr_wider (W := [(11, 4, 4), (11, 11, 18), (133, 4, 51)]) rfl fhp2)
     obtain ⟨uz3, vz3⟩ := bs_s1 (x := z3.toInt) rfl (php2 _ (List.mem_of_getElem? (i := 0) rfl))
     refine (show Ev _ 6 ([some (.ref 69), some (.int x1), some (.int x2), some (.int x3)], [.int z3], (0, 0), hp2) _ from ?_)
     exact by
      refine bs_ifne rfl (fun c4 => ?_) (fun c4 => ?_)
      · skip
        obtain ⟨y5, hy5, ly5, gy5⟩ := (xhp2 _ _ rfl).1 _ rfl (by omega)
        refine Ev.step (j := 12) (s' := ([some (.ref 69), some (.int x1), some (.int x2), some (.int x3)], [.ref 69], (0, 0), hp2)) rfl rfl ?_
        refine bs_getU (g := 11) (g1 := 133) rfl rfl Hhp2 (bs_R.uq Hhp2 (g := 11) rfl) (by decide) rfl rfl ?_
        refine Ev.step (j := 16) (s' := ([some (.ref 69), some (.int x1), some (.int x2), some (.int x3)], [.int x1, .ref 72], (0, 0), hp2)) rfl rfl ?_
        refine Ev.step (j := 17) (s' := ([some (.ref 69), some (.int x1), some (.int x2), some (.int x3)], [.ref 69, .int x1, .ref 72], (0, 0), hp2)) rfl rfl ?_
        refine bs_getI 11 rfl rfl rfl Hhp2 (bs_R.uq Hhp2 (g := 11) rfl) (by decide) rfl fun z6 hz6 lz6 gz6 => ?_
        have e7 : z6.toInt = y5 := Option.some.inj (hz6.symm.trans hy5)
        refine bs_stv (W := [(133, 4, 51)]) (g := 133) 4 51 (0, 250) rfl Hhp2 (bs_R.uq Hhp2 (g := 133) rfl) (by decide) rfl rfl (by decide) rfl rfl (by omega) (by omega) (by dsimp only; omega) (by dsimp only; omega) fun hp8 Hhp8 fhp8 rhp8 ehp8 qhp8 nhp8 => ?_
        have Fhp8 := sf_fr_tr Fhp2 (sf_fr_wider (W := [(11, 4, 4), (11, 11, 18), (133, 4, 51)]) rfl fhp8)
        have h9 : sf_rd hp8 69 18 = some y5 := (ehp8 _ _ (Or.inl (by decide))).trans hy5
        refine bs_lit (k := 1) rfl rfl fun z10 hz10 => ?_
        exact bs_zret rfl rfl (by omega) (by omega) (by rw [hQ]; exact ⟨thp2, Hhp8, Fhp8, bs_an0, sf_S_cons (sf_s1 (x := z10.toInt) rfl (by omega) (by omega)) (sf_S_nil), (fun p lo hi B n lim i ha hK => by
                cases ha
                obtain ⟨q1, rq1, X1⟩ := (xhp2 _ _ rfl).2 B n lim i hK
                obtain rfl := Value.int.inj (Option.some.inj rq1)
                obtain ⟨Y0, Y1, Y2, Y3, Y4, Y5⟩ := X1.resolve_right (fun h => absurd h.1 (by omega))
                have VV : y5 = (tok B n lim i).v := Option.some.inj (hy5.symm.trans Y4)
                exact ⟨z10, rfl, Or.inl ⟨by omega, Y1, Y2, Y3, rhp8.trans (congrArg some (by omega)), fun q hq => ((ehp8 _ _ (Or.inr (by omega))).trans (fhp2.2.2.1 _ (bs_R.uq H (g := 133) (p := 72) rfl).1 _ (by rw [(bs_R.uq H (g := 133) (p := 72) rfl).2]; rfl))), RK_keep Hhp2 fhp8 rfl rfl (nhp8 _ _) Y5⟩⟩)⟩)
      · skip
        have c11 : z3.toInt = 0 := by omega
        refine bs_lit (k := 0) rfl rfl fun z12 hz12 => ?_
        exact bs_zret rfl rfl (by omega) (by omega) (by rw [hQ]; exact ⟨thp2, Hhp2, Fhp2, bs_an0, sf_S_cons (sf_s1 (x := z12.toInt) rfl (by omega) (by omega)) (sf_S_nil), (fun p lo hi B n lim i ha hK => by
                cases ha
                obtain ⟨q1, rq1, X1⟩ := (xhp2 _ _ rfl).2 B n lim i hK
                obtain rfl := Value.int.inj (Option.some.inj rq1)
                obtain ⟨Y0, Y1, Y2⟩ := X1.resolve_left (fun h => absurd h.1 (by omega))
                exact ⟨z12, rfl, Or.inr ⟨by omega, Y1, Y2⟩⟩)⟩)
def kq_X11_puts_v3 : sf_Q := ([(1, 11, 0), (0, 0, 0), (0, 0, 0), (0, 0, 0)], [(1, 3, 0, 100, 119, 0), (1, 6, 0, 0, 0, 0), (1, 9, 0, 60, 60, 0)], some (0, 0, 0), [(1, 0, 0, 0, 1, 0)], [(11, 4, 4), (11, 11, 18), (133, 100, 119)])
def ke_X11_puts_v3 : List Value → ab_H → Option Value → ab_H → Prop := fun as hp r hp' => ∀ (p lo hi : Int32) (B : Nat → Int) (n lim i : Nat), as = [.ref 69, .int p, .int lo, .int hi] → RK hp B n lim i → ∃ z : Int32, r = some (.int z) ∧ ((z.toInt = 1 ∧ (tok B n lim i).k = 3 ∧ lo.toInt ≤ (tok B n lim i).v ∧ (tok B n lim i).v ≤ hi.toInt ∧ sf_rd hp' 72 p.toInt.toNat = some (tok B n lim i).v ∧ (∀ q, q ≠ p.toInt.toNat → sf_rd hp' 72 q = sf_rd hp 72 q) ∧ RK hp' B n lim (i + 1)) ∨ (z.toInt = 0 ∧ sf_rd hp' 69 16 = some (tok B n lim i).pl ∧ (((tok B n lim i).k ≠ 3 ∧ sf_rd hp' 69 15 = some 1) ∨ (((tok B n lim i).k = 3 ∧ ((tok B n lim i).v < lo.toInt ∨ hi.toInt < (tok B n lim i).v)) ∧ sf_rd hp' 69 15 = some 2))))
set_option maxRecDepth 100000 in
set_option maxHeartbeats 4000000 in
theorem ce_X11_puts_v3 : sf_cE kq_X11_puts_v3 Z_X11_puts ke_X11_puts_v3 := by
  intro t hp as H hl hj hpre
  match as, hl with
  | [v0, v1, v2, v3], _ =>
    obtain ⟨a0, rfl, ra0⟩ := bs_aR (hj 0 _ rfl)
    obtain rfl := ra0.eq H (p := 69) rfl
    obtain ⟨x1, rfl⟩ := bs_aI (hj 1 _ rfl)
    have rg1 := n_range x1
    obtain ⟨x2, rfl⟩ := bs_aI (hj 2 _ rfl)
    have rg2 := n_range x2
    obtain ⟨x3, rfl⟩ := bs_aI (hj 3 _ rfl)
    have rg3 := n_range x3
    obtain ⟨pl0, ph0⟩ := bs_s1 (x := x1.toInt) rfl (hpre _ (List.mem_of_getElem? (i := 0) rfl))
    obtain ⟨pl1, ph1⟩ := bs_s1 (x := x2.toInt) rfl (hpre _ (List.mem_of_getElem? (i := 1) rfl))
    obtain ⟨pl2, ph2⟩ := bs_s1 (x := x3.toInt) rfl (hpre _ (List.mem_of_getElem? (i := 2) rfl))
    clear hpre hj
    have F0 : sf_fr [(11, 4, 4), (11, 11, 18), (133, 100, 119)] t hp t hp := sf_fr_rf
    refine bs_finx (E := ke_X11_puts_v3) (K := kq_X11_puts_v3) (L := (L_X11_puts Z_X11_takes)) (nL := 4) (Nat.le_of_ble_eq_true rfl) ?_
    obtain ⟨Q, hQ⟩ : ∃ Q : ab_O → Prop, Q = (fun o => ∃ t', sf_h t' o.2 ∧ sf_fr (kq_X11_puts_v3).2.2.2.2 t hp t' o.2 ∧ sf_an t' o.2.1 (kq_X11_puts_v3).2.2.1 o.1 ∧ sf_S (sf_v1 o.1 [.ref 69, .int x1, .int x2, .int x3] o.2) (kq_X11_puts_v3).2.2.2.1 ∧ ke_X11_puts_v3 [.ref 69, .int x1, .int x2, .int x3] hp o.1 o.2) := ⟨_, rfl⟩
    rw [← hQ]
    refine (show Ev (ab_T (L_X11_puts Z_X11_takes)) 0 ([some (.ref 69), some (.int x1), some (.int x2), some (.int x3)], [], (0, 0), hp) Q from ?_)
    exact by
     refine Ev.step (j := 1) (s' := ([some (.ref 69), some (.int x1), some (.int x2), some (.int x3)], [.ref 69], (0, 0), hp)) rfl rfl ?_
     refine Ev.step (j := 2) (s' := ([some (.ref 69), some (.int x1), some (.int x2), some (.int x3)], [.int x2, .ref 69], (0, 0), hp)) rfl rfl ?_
     refine Ev.step (j := 3) (s' := ([some (.ref 69), some (.int x1), some (.int x2), some (.int x3)], [.int x3, .int x2, .ref 69], (0, 0), hp)) rfl rfl ?_
     refine bs_callx (K := kq_X11_takes_v) [.ref 69, .int x2, .int x3] [] rfl ce_X11_takes_v H rfl rfl rfl (bs_rcv (g := 11) H (bs_R.uq H (g := 11) rfl) (by decide) rfl) rfl ?_ (sf_S_cons (sf_s1 (x := x2.toInt) rfl (by omega) (by omega)) (sf_S_cons (sf_s1 (x := x3.toInt) rfl (by omega) (by omega)) (sf_S_nil))) fun r1 hp2 thp2 Hhp2 fhp2 ahp2 php2 xhp2 => ?_
     · intro q k h
       match q, h with
       | 0, h => cases h; exact bs_jR (bs_R.uq H (g := 11) rfl)
       | 1, h => cases h; exact sf_j0
       | 2, h => cases h; exact sf_j0
       | q + 3, h => cases h
     obtain ⟨z3, rfl⟩ := bs_anI ahp2
     have rgz3 := n_range z3
     have Fhp2 := sf_fr_tr F0 (sf_fr_wider (W := [(11, 4, 4), (11, 11, 18), (133, 100, 119)]) rfl fhp2)
     obtain ⟨uz3, vz3⟩ := bs_s1 (x := z3.toInt) rfl (php2 _ (List.mem_of_getElem? (i := 0) rfl))
     refine (show Ev _ 6 ([some (.ref 69), some (.int x1), some (.int x2), some (.int x3)], [.int z3], (0, 0), hp2) _ from ?_)
     exact by
      refine bs_ifne rfl (fun c4 => ?_) (fun c4 => ?_)
      · skip
        obtain ⟨y5, hy5, ly5, gy5⟩ := (xhp2 _ _ rfl).1 _ rfl (by omega)
        refine Ev.step (j := 12) (s' := ([some (.ref 69), some (.int x1), some (.int x2), some (.int x3)], [.ref 69], (0, 0), hp2)) rfl rfl ?_
        refine bs_getU (g := 11) (g1 := 133) rfl rfl Hhp2 (bs_R.uq Hhp2 (g := 11) rfl) (by decide) rfl rfl ?_
        refine Ev.step (j := 16) (s' := ([some (.ref 69), some (.int x1), some (.int x2), some (.int x3)], [.int x1, .ref 72], (0, 0), hp2)) rfl rfl ?_
        refine Ev.step (j := 17) (s' := ([some (.ref 69), some (.int x1), some (.int x2), some (.int x3)], [.ref 69, .int x1, .ref 72], (0, 0), hp2)) rfl rfl ?_
        refine bs_getI 11 rfl rfl rfl Hhp2 (bs_R.uq Hhp2 (g := 11) rfl) (by decide) rfl fun z6 hz6 lz6 gz6 => ?_
        have e7 : z6.toInt = y5 := Option.some.inj (hz6.symm.trans hy5)
        refine bs_stv (W := [(133, 100, 119)]) (g := 133) 100 119 (-2147483648, 2147483647) rfl Hhp2 (bs_R.uq Hhp2 (g := 133) rfl) (by decide) rfl rfl (by decide) rfl rfl (by omega) (by omega) (by dsimp only; omega) (by dsimp only; omega) fun hp8 Hhp8 fhp8 rhp8 ehp8 qhp8 nhp8 => ?_
        have Fhp8 := sf_fr_tr Fhp2 (sf_fr_wider (W := [(11, 4, 4), (11, 11, 18), (133, 100, 119)]) rfl fhp8)
        have h9 : sf_rd hp8 69 18 = some y5 := (ehp8 _ _ (Or.inl (by decide))).trans hy5
        refine bs_lit (k := 1) rfl rfl fun z10 hz10 => ?_
        exact bs_zret rfl rfl (by omega) (by omega) (by rw [hQ]; exact ⟨thp2, Hhp8, Fhp8, bs_an0, sf_S_cons (sf_s1 (x := z10.toInt) rfl (by omega) (by omega)) (sf_S_nil), (fun p lo hi B n lim i ha hK => by
                cases ha
                obtain ⟨q1, rq1, X1⟩ := (xhp2 _ _ rfl).2 B n lim i hK
                obtain rfl := Value.int.inj (Option.some.inj rq1)
                obtain ⟨Y0, Y1, Y2, Y3, Y4, Y5⟩ := X1.resolve_right (fun h => absurd h.1 (by omega))
                have VV : y5 = (tok B n lim i).v := Option.some.inj (hy5.symm.trans Y4)
                exact ⟨z10, rfl, Or.inl ⟨by omega, Y1, Y2, Y3, rhp8.trans (congrArg some (by omega)), fun q hq => ((ehp8 _ _ (Or.inr (by omega))).trans (fhp2.2.2.1 _ (bs_R.uq H (g := 133) (p := 72) rfl).1 _ (by rw [(bs_R.uq H (g := 133) (p := 72) rfl).2]; rfl))), RK_keep Hhp2 fhp8 rfl rfl (nhp8 _ _) Y5⟩⟩)⟩)
      · skip
        have c11 : z3.toInt = 0 := by omega
        refine bs_lit (k := 0) rfl rfl fun z12 hz12 => ?_
        exact bs_zret rfl rfl (by omega) (by omega) (by rw [hQ]; exact ⟨thp2, Hhp2, Fhp2, bs_an0, sf_S_cons (sf_s1 (x := z12.toInt) rfl (by omega) (by omega)) (sf_S_nil), (fun p lo hi B n lim i ha hK => by
                cases ha
                obtain ⟨q1, rq1, X1⟩ := (xhp2 _ _ rfl).2 B n lim i hK
                obtain rfl := Value.int.inj (Option.some.inj rq1)
                obtain ⟨Y0, Y1, Y2⟩ := X1.resolve_left (fun h => absurd h.1 (by omega))
                exact ⟨z12, rfl, Or.inr ⟨by omega, Y1, Y2⟩⟩)⟩)
def kq_X11_isWord_v : sf_Q := ([(1, 11, 0), (2, 0, 0)], [], some (0, 0, 0), [(1, 0, 0, 0, 1, 0)], [])
def ke_X11_isWord_v : List Value → ab_H → Option Value → ab_H → Prop := fun as hp r _ => ∀ (w : Int64) (T : TT) (j : Nat), as = [.ref 69, .long w] → NT hp T → WOK T → T.k ≤ 88 → j < 25 → w.toInt = rwd.getD j 0 → ∃ z : Int32, r = some (.int z) ∧ (z.toInt = 1 → T.k = 64 + (j : Int)) ∧ (T.k = 64 + (j : Int) → z.toInt = 1)
set_option maxRecDepth 100000 in
set_option maxHeartbeats 4000000 in
theorem ce_X11_isWord_v : sf_cE kq_X11_isWord_v Z_X11_isWord ke_X11_isWord_v := by
  intro t hp as H hl hj hpre
  match as, hl with
  | [v0, v1], _ =>
    obtain ⟨a0, rfl, ra0⟩ := bs_aR (hj 0 _ rfl)
    obtain rfl := ra0.eq H (p := 69) rfl
    obtain ⟨wa1, rfl⟩ := bs_aL (hj 1 _ rfl)
    clear hpre hj
    have F0 : sf_fr [] t hp t hp := sf_fr_rf
    refine bs_finx (E := ke_X11_isWord_v) (K := kq_X11_isWord_v) (L := L_X11_isWord) (nL := 3) (Nat.le_of_ble_eq_true rfl) ?_
    obtain ⟨Q, hQ⟩ : ∃ Q : ab_O → Prop, Q = (fun o => ∃ t', sf_h t' o.2 ∧ sf_fr (kq_X11_isWord_v).2.2.2.2 t hp t' o.2 ∧ sf_an t' o.2.1 (kq_X11_isWord_v).2.2.1 o.1 ∧ sf_S (sf_v1 o.1 [.ref 69, .long wa1] o.2) (kq_X11_isWord_v).2.2.2.1 ∧ ke_X11_isWord_v [.ref 69, .long wa1] hp o.1 o.2) := ⟨_, rfl⟩
    rw [← hQ]
    refine (show Ev (ab_T L_X11_isWord) 0 ([some (.ref 69), some (.long wa1), none], [], (0, 0), hp) Q from ?_)
    refine Ev.step (j := 1) (s' := ([some (.ref 69), some (.long wa1), none], [.ref 69], (0, 0), hp)) rfl rfl ?_
    exact by
     refine bs_getI 11 rfl rfl rfl H (bs_R.uq H (g := 11) rfl) (by decide) rfl fun z1 hz1 lz1 gz1 => ?_
     refine bs_lit (k := 1) rfl rfl fun z2 hz2 => ?_
     refine bs_ne rfl (fun c3 => ?_) (fun c3 => ?_)
     · skip
       refine bs_lit (k := 0) rfl rfl fun z4 hz4 => ?_
       exact bs_zret rfl rfl (by omega) (by omega) (by rw [hQ]; exact ⟨t, H, F0, bs_an0, sf_S_cons (sf_s1 (x := z4.toInt) rfl (by omega) (by omega)) (sf_S_nil), (fun w T j ha hN hW h8 hj hw => by
               cases ha
               have KK : z1.toInt = rkk T.k := Option.some.inj (hz1.symm.trans hN.2.2.1)
               exact ⟨z4, rfl, fun e => absurd e (by omega), fun e => by have K1 := rkk_w (k := T.k) (by omega); omega⟩)⟩)
     · skip
       have c5 : z1.toInt = 1 := by omega
       refine Ev.step (j := 9) (s' := ([some (.ref 69), some (.long wa1), none], [.ref 69], (0, 0), hp)) rfl rfl ?_
       refine bs_getLv (g := 11) rfl rfl H (bs_R.uq H (g := 11) rfl) (by decide) rfl fun w6 hw6 => ?_
       exact by
        refine Ev.step (j := 13) (s' := ([some (.ref 69), some (.long wa1), none], [.long wa1, .long w6], (0, 0), hp)) rfl rfl ?_
        refine bs_lcmpv rfl fun z7 hz7 => ?_
        refine bs_ifne rfl (fun c8 => ?_) (fun c8 => ?_)
        · skip
          refine bs_lit (k := 0) rfl rfl fun z9 hz9 => ?_
          exact bs_zret rfl rfl (by omega) (by omega) (by rw [hQ]; exact ⟨t, H, F0, bs_an0, sf_S_cons (sf_s1 (x := z9.toInt) rfl (by omega) (by omega)) (sf_S_nil), (fun w T j ha hN hW h8 hj hw => by
                  cases ha
                  have KK : z1.toInt = rkk T.k := Option.some.inj (hz1.symm.trans hN.2.2.1)
                  have K1 : rkk T.k = 1 := by omega
                  obtain ⟨w2, g1, g2⟩ := hN.2.2.2.2.2 K1
                  have EW : w2 = w6 := Option.some.inj (g1.symm.trans hw6)
                  have E := (hW (rkk_1 K1)).2 j hj
                  refine ⟨z9, rfl, fun e => E.mp ?_, fun e => ?_⟩
                  · rw [← g2, EW, hz7.mp (by omega)]
                    exact hw
                  · have e2 := E.mpr e
                    have e3 := hz7.mpr (Int64.toInt_inj.mp (by rw [← EW, g2, e2, hw]))
                    omega)⟩)
        · skip
          have c10 : z7.toInt = 0 := by omega
          refine bs_lit (k := 1) rfl rfl fun z11 hz11 => ?_
          exact by
           refine Ev.step (j := 22) (s' := ([some (.ref 69), some (.long wa1), none], [.int z11], (0, 0), hp)) rfl rfl ?_
           exact bs_zret rfl rfl (by omega) (by omega) (by rw [hQ]; exact ⟨t, H, F0, bs_an0, sf_S_cons (sf_s1 (x := z11.toInt) rfl (by omega) (by omega)) (sf_S_nil), (fun w T j ha hN hW h8 hj hw => by
                   cases ha
                   have KK : z1.toInt = rkk T.k := Option.some.inj (hz1.symm.trans hN.2.2.1)
                   have K1 : rkk T.k = 1 := by omega
                   obtain ⟨w2, g1, g2⟩ := hN.2.2.2.2.2 K1
                   have EW : w2 = w6 := Option.some.inj (g1.symm.trans hw6)
                   have E := (hW (rkk_1 K1)).2 j hj
                   refine ⟨z11, rfl, fun e => E.mp ?_, fun e => ?_⟩
                   · rw [← g2, EW, hz7.mp (by omega)]
                     exact hw
                   · have e2 := E.mpr e
                     have e3 := hz7.mpr (Int64.toInt_inj.mp (by rw [← EW, g2, e2, hw]))
                     omega)⟩)
def kq_X11_sign_v : sf_Q := ([(1, 11, 0), (0, 0, 0)], [(1, 3, 0, 59, 59, 0)], some (0, 0, 0), [(1, 0, 0, 0, 1, 0)], [(11, 4, 4), (11, 11, 18)])
def ke_X11_sign_v : List Value → ab_H → Option Value → ab_H → Prop := fun as hp r hp' => ∀ (c : Int32) (B : Nat → Int) (n lim i : Nat), as = [.ref 69, .int c] → RK hp B n lim i → ∃ z : Int32, r = some (.int z) ∧ ((z.toInt = 1 ∧ (tok B n lim i).k = 59 ∧ RK hp' B n lim (i + 1) ∧ sf_psi hp' ≤ 2 * (940 - (tps B n lim (i + 1) : Int))) ∨ (z.toInt = 0 ∧ sf_rd hp' 69 16 = some (tok B n lim i).pl ∧ (tok B n lim i).k ≠ 59 ∧ sf_rd hp' 69 15 = some 1))
set_option maxRecDepth 100000 in
set_option maxHeartbeats 4000000 in
theorem ce_X11_sign_v : sf_cE kq_X11_sign_v Z_X11_sign ke_X11_sign_v := by
  intro t hp as H hl hj hpre
  match as, hl with
  | [v0, v1], _ =>
    obtain ⟨a0, rfl, ra0⟩ := bs_aR (hj 0 _ rfl)
    obtain rfl := ra0.eq H (p := 69) rfl
    obtain ⟨x1, rfl⟩ := bs_aI (hj 1 _ rfl)
    have rg1 := n_range x1
    obtain ⟨pl0, ph0⟩ := bs_s1 (x := x1.toInt) rfl (hpre _ (List.mem_of_getElem? (i := 0) rfl))
    clear hpre hj
    have F0 : sf_fr [(11, 4, 4), (11, 11, 18)] t hp t hp := sf_fr_rf
    refine bs_finx (E := ke_X11_sign_v) (K := kq_X11_sign_v) (L := (L_X11_sign Z_X11_isSign Z_X11_bad Z_X11_next)) (nL := 2) (Nat.le_of_ble_eq_true rfl) ?_
    obtain ⟨Q, hQ⟩ : ∃ Q : ab_O → Prop, Q = (fun o => ∃ t', sf_h t' o.2 ∧ sf_fr (kq_X11_sign_v).2.2.2.2 t hp t' o.2 ∧ sf_an t' o.2.1 (kq_X11_sign_v).2.2.1 o.1 ∧ sf_S (sf_v1 o.1 [.ref 69, .int x1] o.2) (kq_X11_sign_v).2.2.2.1 ∧ ke_X11_sign_v [.ref 69, .int x1] hp o.1 o.2) := ⟨_, rfl⟩
    rw [← hQ]
    refine (show Ev (ab_T (L_X11_sign Z_X11_isSign Z_X11_bad Z_X11_next)) 0 ([some (.ref 69), some (.int x1)], [], (0, 0), hp) Q from ?_)
    exact by
     refine Ev.step (j := 1) (s' := ([some (.ref 69), some (.int x1)], [.ref 69], (0, 0), hp)) rfl rfl ?_
     refine Ev.step (j := 2) (s' := ([some (.ref 69), some (.int x1)], [.int x1, .ref 69], (0, 0), hp)) rfl rfl ?_
     refine Ev.inl (L := L_X11_isSign) (nL := 2) rfl (bs_rcv (g := 11) H (bs_R.uq H (g := 11) rfl) (by decide) rfl) rfl (Nat.le_of_ble_eq_true rfl) ?_
     generalize hQ1 : (fun (o : ab_O) => Ev _ _ _ _) = Q1
     refine (show Ev (ab_T L_X11_isSign) 0 ([some (.ref 69), some (.int x1)], [], (0, 0), hp) Q1 from ?_)
     refine Ev.step (j := 1) (s' := ([some (.ref 69), some (.int x1)], [.ref 69], (0, 0), hp)) rfl rfl ?_
     refine bs_getI 11 rfl rfl rfl H (bs_R.uq H (g := 11) rfl) (by decide) rfl fun z2 hz2 lz2 gz2 => ?_
     refine bs_lit (k := 3) rfl rfl fun z3 hz3 => ?_
     refine bs_ne rfl (fun c4 => ?_) (fun c4 => ?_)
     · skip
       refine bs_lit (k := 0) rfl rfl fun z5 hz5 => ?_
       exact by
        refine bs_zret rfl rfl (by omega) (by omega) ?_
        rw [← hQ1]
        refine (show Ev _ 5 ([some (.ref 69), some (.int x1)], [.int z5], (0, 0), hp) _ from ?_)
        refine bs_ifne rfl (fun c6 => ?_) (fun c6 => ?_)
        · exfalso; omega
        · skip
          refine Ev.step (j := 9) (s' := ([some (.ref 69), some (.int x1)], [.ref 69], (0, 0), hp)) rfl rfl ?_
          refine bs_lit (k := 1) rfl rfl fun z7 hz7 => ?_
          refine Ev.inl (L := L_X11_bad) (nL := 2) rfl (bs_rcv (g := 11) H (bs_R.uq H (g := 11) rfl) (by decide) rfl) rfl (Nat.le_of_ble_eq_true rfl) ?_
          generalize hQ8 : (fun (o : ab_O) => Ev _ _ _ _) = Q8
          refine (show Ev (ab_T L_X11_bad) 0 ([some (.ref 69), some (.int z7)], [], (0, 0), hp) Q8 from ?_)
          refine Ev.step (j := 1) (s' := ([some (.ref 69), some (.int z7)], [.ref 69], (0, 0), hp)) rfl rfl ?_
          exact by
           refine Ev.step (j := 2) (s' := ([some (.ref 69), some (.int z7)], [.int z7, .ref 69], (0, 0), hp)) rfl rfl ?_
           refine bs_putIv (W := [(11, 15, 15)]) (g := 11) rfl rfl H (bs_R.uq H (g := 11) rfl) (by decide) rfl rfl rfl rfl (Or.inl rfl) (by omega) (by omega) fun hp9 Hhp9 fhp9 rhp9 ehp9 qhp9 nhp9 => ?_
           have Fhp9 := sf_fr_tr F0 (sf_fr_wider (W := [(11, 4, 4), (11, 11, 18)]) rfl fhp9)
           have h10 : sf_rd hp9 69 11 = some z2.toInt := (ehp9 _ _ (Or.inr (by omega))).trans hz2
           refine Ev.step (j := 6) (s' := ([some (.ref 69), some (.int z7)], [.ref 69], (0, 0), hp9)) rfl rfl ?_
           refine Ev.step (j := 7) (s' := ([some (.ref 69), some (.int z7)], [.ref 69, .ref 69], (0, 0), hp9)) rfl rfl ?_
           refine bs_getI 11 rfl rfl rfl Hhp9 (bs_R.uq Hhp9 (g := 11) rfl) (by decide) rfl fun z11 hz11 lz11 gz11 => ?_
           refine bs_putIv (W := [(11, 16, 16)]) (g := 11) rfl rfl Hhp9 (bs_R.uq Hhp9 (g := 11) rfl) (by decide) rfl rfl rfl rfl (Or.inl rfl) (by omega) (by omega) fun hp12 Hhp12 fhp12 rhp12 ehp12 qhp12 nhp12 => ?_
           have Fhp12 := sf_fr_tr Fhp9 (sf_fr_wider (W := [(11, 4, 4), (11, 11, 18)]) rfl fhp12)
           have h13 : sf_rd hp12 69 11 = some z2.toInt := (ehp12 _ _ (Or.inr (by omega))).trans h10
           have h14 : sf_rd hp12 69 15 = some z7.toInt := (ehp12 _ _ (Or.inr (by omega))).trans rhp9
           have h15 : sf_rd hp12 69 12 = some z11.toInt := (ehp12 _ _ (Or.inr (by omega))).trans hz11
           refine bs_lit (k := 0) rfl rfl fun z16 hz16 => ?_
           exact by
            refine bs_zret rfl rfl (by omega) (by omega) ?_
            rw [← hQ8]
            refine (show Ev _ 13 ([some (.ref 69), some (.int x1)], [.int z16], (0, 0), hp12) _ from ?_)
            exact bs_zret rfl rfl (by omega) (by omega) (by rw [hQ]; exact ⟨t, Hhp12, Fhp12, bs_an0, sf_S_cons (sf_s1 (x := z16.toInt) rfl (by omega) (by omega)) (sf_S_nil), (fun c B n lim i ha hK => by
                    cases ha
                    have KK := RK_k hK hz2
                    have PL : z11.toInt = (tok B n lim i).pl := Option.some.inj (hz11.symm.trans (((ehp9 _ _ (Or.inr (by omega)))).trans (RK_pl hK)))
                    have K9 : (tok B n lim i).k ≠ 59 := fun e => by rw [e, rkk_59] at KK; omega
                    exact ⟨z16, rfl, Or.inr ⟨by omega, rhp12.trans (congrArg some PL), K9, h14.trans (congrArg some (by omega))⟩⟩)⟩)
     · skip
       have c17 : z2.toInt = 3 := by omega
       refine Ev.step (j := 9) (s' := ([some (.ref 69), some (.int x1)], [.ref 69], (0, 0), hp)) rfl rfl ?_
       exact by
        refine bs_getI 11 rfl rfl rfl H (bs_R.uq H (g := 11) rfl) (by decide) rfl fun z18 hz18 lz18 gz18 => ?_
        refine Ev.step (j := 13) (s' := ([some (.ref 69), some (.int x1)], [.int x1, .int z18], (0, 0), hp)) rfl rfl ?_
        refine bs_ne rfl (fun c19 => ?_) (fun c19 => ?_)
        · skip
          refine bs_lit (k := 0) rfl rfl fun z20 hz20 => ?_
          refine bs_zret rfl rfl (by omega) (by omega) ?_
          rw [← hQ1]
          refine (show Ev _ 5 ([some (.ref 69), some (.int x1)], [.int z20], (0, 0), hp) _ from ?_)
          refine bs_ifne rfl (fun c21 => ?_) (fun c21 => ?_)
          · exfalso; omega
          · skip
            refine Ev.step (j := 9) (s' := ([some (.ref 69), some (.int x1)], [.ref 69], (0, 0), hp)) rfl rfl ?_
            exact by
             refine bs_lit (k := 1) rfl rfl fun z22 hz22 => ?_
             refine Ev.inl (L := L_X11_bad) (nL := 2) rfl (bs_rcv (g := 11) H (bs_R.uq H (g := 11) rfl) (by decide) rfl) rfl (Nat.le_of_ble_eq_true rfl) ?_
             generalize hQ23 : (fun (o : ab_O) => Ev _ _ _ _) = Q23
             refine (show Ev (ab_T L_X11_bad) 0 ([some (.ref 69), some (.int z22)], [], (0, 0), hp) Q23 from ?_)
             refine Ev.step (j := 1) (s' := ([some (.ref 69), some (.int z22)], [.ref 69], (0, 0), hp)) rfl rfl ?_
             refine Ev.step (j := 2) (s' := ([some (.ref 69), some (.int z22)], [.int z22, .ref 69], (0, 0), hp)) rfl rfl ?_
             refine bs_putIv (W := [(11, 15, 15)]) (g := 11) rfl rfl H (bs_R.uq H (g := 11) rfl) (by decide) rfl rfl rfl rfl (Or.inl rfl) (by omega) (by omega) fun hp24 Hhp24 fhp24 rhp24 ehp24 qhp24 nhp24 => ?_
             have Fhp24 := sf_fr_tr F0 (sf_fr_wider (W := [(11, 4, 4), (11, 11, 18)]) rfl fhp24)
             have h25 : sf_rd hp24 69 11 = some z2.toInt := (ehp24 _ _ (Or.inr (by omega))).trans hz2
             have h26 : sf_rd hp24 69 14 = some z18.toInt := (ehp24 _ _ (Or.inr (by omega))).trans hz18
             refine Ev.step (j := 6) (s' := ([some (.ref 69), some (.int z22)], [.ref 69], (0, 0), hp24)) rfl rfl ?_
             exact by
              refine Ev.step (j := 7) (s' := ([some (.ref 69), some (.int z22)], [.ref 69, .ref 69], (0, 0), hp24)) rfl rfl ?_
              refine bs_getI 11 rfl rfl rfl Hhp24 (bs_R.uq Hhp24 (g := 11) rfl) (by decide) rfl fun z27 hz27 lz27 gz27 => ?_
              refine bs_putIv (W := [(11, 16, 16)]) (g := 11) rfl rfl Hhp24 (bs_R.uq Hhp24 (g := 11) rfl) (by decide) rfl rfl rfl rfl (Or.inl rfl) (by omega) (by omega) fun hp28 Hhp28 fhp28 rhp28 ehp28 qhp28 nhp28 => ?_
              have Fhp28 := sf_fr_tr Fhp24 (sf_fr_wider (W := [(11, 4, 4), (11, 11, 18)]) rfl fhp28)
              have h29 : sf_rd hp28 69 11 = some z2.toInt := (ehp28 _ _ (Or.inr (by omega))).trans h25
              have h30 : sf_rd hp28 69 14 = some z18.toInt := (ehp28 _ _ (Or.inr (by omega))).trans h26
              have h31 : sf_rd hp28 69 15 = some z22.toInt := (ehp28 _ _ (Or.inr (by omega))).trans rhp24
              have h32 : sf_rd hp28 69 12 = some z27.toInt := (ehp28 _ _ (Or.inr (by omega))).trans hz27
              refine bs_lit (k := 0) rfl rfl fun z33 hz33 => ?_
              exact by
               refine bs_zret rfl rfl (by omega) (by omega) ?_
               rw [← hQ23]
               refine (show Ev _ 13 ([some (.ref 69), some (.int x1)], [.int z33], (0, 0), hp28) _ from ?_)
               exact bs_zret rfl rfl (by omega) (by omega) (by rw [hQ]; exact ⟨t, Hhp28, Fhp28, bs_an0, sf_S_cons (sf_s1 (x := z33.toInt) rfl (by omega) (by omega)) (sf_S_nil), (fun c B n lim i ha hK => by
                       cases ha
                       have KK := RK_k hK hz2
                       have PL : z27.toInt = (tok B n lim i).pl := Option.some.inj (hz27.symm.trans (((ehp24 _ _ (Or.inr (by omega)))).trans (RK_pl hK)))
                       have VV := RK_s hK (by omega) hz18
                       have K9 : (tok B n lim i).k ≠ 59 := by omega
                       exact ⟨z33, rfl, Or.inr ⟨by omega, rhp28.trans (congrArg some PL), K9, h31.trans (congrArg some (by omega))⟩⟩)⟩)
        · skip
          refine bs_lit (k := 1) rfl rfl fun z34 hz34 => ?_
          exact by
           refine Ev.step (j := 21) (s' := ([some (.ref 69), some (.int x1)], [.int z34], (0, 0), hp)) rfl rfl ?_
           refine bs_zret rfl rfl (by omega) (by omega) ?_
           rw [← hQ1]
           refine (show Ev _ 5 ([some (.ref 69), some (.int x1)], [.int z34], (0, 0), hp) _ from ?_)
           refine bs_ifne rfl (fun c35 => ?_) (fun c35 => ?_)
           · skip
             refine Ev.step (j := 15) (s' := ([some (.ref 69), some (.int x1)], [.ref 69], (0, 0), hp)) rfl rfl ?_
             refine bs_callx (K := kq_X11_next_v) [.ref 69] [] rfl ce_X11_next_v H rfl rfl rfl (bs_rcv (g := 11) H (bs_R.uq H (g := 11) rfl) (by decide) rfl) rfl ?_ (sf_S_nil) fun r36 hp37 thp37 Hhp37 fhp37 ahp37 php37 xhp37 => ?_
             · intro q k h
               match q, h with
               | 0, h => cases h; exact bs_jR (bs_R.uq H (g := 11) rfl)
               | q + 1, h => cases h
             obtain rfl := ahp37.1 rfl
             have Fhp37 := sf_fr_tr F0 (sf_fr_wider (W := [(11, 4, 4), (11, 11, 18)]) rfl fhp37)
             refine (show Ev _ 18 ([some (.ref 69), some (.int x1)], [], (0, 0), hp37) _ from ?_)
             exact by
              refine bs_lit (k := 1) rfl rfl fun z38 hz38 => ?_
              exact bs_zret rfl rfl (by omega) (by omega) (by rw [hQ]; exact ⟨thp37, Hhp37, Fhp37, bs_an0, sf_S_cons (sf_s1 (x := z38.toInt) rfl (by omega) (by omega)) (sf_S_nil), (fun c B n lim i ha hK => by
                      cases ha
                      have KK := RK_k hK hz2
                      have VV := RK_s hK (by omega) hz18
                      obtain ⟨K2, PS⟩ := RK_next H fhp37 rfl rfl rfl xhp37 hK
                      exact ⟨z38, rfl, Or.inl ⟨by omega, by omega, K2, PS⟩⟩)⟩)
           · exfalso; omega
def kq_X11_fresh_v : sf_Q := ([(1, 11, 0), (0, 0, 0)], [(1, 3, 0, 14, 27, 0)], some (0, 0, 0), [(1, 0, 0, 0, 1, 0)], [(11, 4, 4), (11, 11, 18), (135, 0, 0)])
def ke_X11_fresh_v : List Value → ab_H → Option Value → ab_H → Prop := fun as hp r hp' => ∀ (p : Int32) (s : PS) (B : Nat → Int) (n lim i : Nat), as = [.ref 69, .int p] → SR hp s → RES hp → RK hp B n lim i → ∃ z : Int32, r = some (.int z) ∧ ((z.toInt = 1 ∧ (tok B n lim i).k = 2 ∧ ¬ (0 ≤ fnd s.nm 0 (s.h 0) (tok B n lim i).v ∨ 0 ≤ fnd s.nm 6 (s.h 1) (tok B n lim i).v) ∧ RK hp' B n lim (i + 1) ∧ (∃ w, sf_rl hp' 74 p.toInt.toNat = some w ∧ w.toInt = (tok B n lim i).v) ∧ (∀ q, q ≠ p.toInt.toNat → sf_rl hp' 74 q = sf_rl hp 74 q)) ∨ (z.toInt = 0 ∧ sf_rd hp' 69 16 = some (tok B n lim i).pl ∧ (((tok B n lim i).k ≠ 2 ∧ sf_rd hp' 69 15 = some 1) ∨ (((tok B n lim i).k = 2 ∧ (0 ≤ fnd s.nm 0 (s.h 0) (tok B n lim i).v ∨ 0 ≤ fnd s.nm 6 (s.h 1) (tok B n lim i).v)) ∧ sf_rd hp' 69 15 = some 3))))
set_option maxRecDepth 100000 in
set_option maxHeartbeats 4000000 in
theorem ce_X11_fresh_v : sf_cE kq_X11_fresh_v Z_X11_fresh ke_X11_fresh_v := by
  intro t hp as H hl hj hpre
  match as, hl with
  | [v0, v1], _ =>
    obtain ⟨a0, rfl, ra0⟩ := bs_aR (hj 0 _ rfl)
    obtain rfl := ra0.eq H (p := 69) rfl
    obtain ⟨x1, rfl⟩ := bs_aI (hj 1 _ rfl)
    have rg1 := n_range x1
    obtain ⟨pl0, ph0⟩ := bs_s1 (x := x1.toInt) rfl (hpre _ (List.mem_of_getElem? (i := 0) rfl))
    clear hpre hj
    have F0 : sf_fr [(11, 4, 4), (11, 11, 18), (135, 0, 0)] t hp t hp := sf_fr_rf
    refine bs_finx (E := ke_X11_fresh_v) (K := kq_X11_fresh_v) (L := (L_X11_fresh Z_X11_isName Z_X11_bad Z_X11_find Z_X11_next)) (nL := 2) (Nat.le_of_ble_eq_true rfl) ?_
    obtain ⟨Q, hQ⟩ : ∃ Q : ab_O → Prop, Q = (fun o => ∃ t', sf_h t' o.2 ∧ sf_fr (kq_X11_fresh_v).2.2.2.2 t hp t' o.2 ∧ sf_an t' o.2.1 (kq_X11_fresh_v).2.2.1 o.1 ∧ sf_S (sf_v1 o.1 [.ref 69, .int x1] o.2) (kq_X11_fresh_v).2.2.2.1 ∧ ke_X11_fresh_v [.ref 69, .int x1] hp o.1 o.2) := ⟨_, rfl⟩
    rw [← hQ]
    refine (show Ev (ab_T (L_X11_fresh Z_X11_isName Z_X11_bad Z_X11_find Z_X11_next)) 0 ([some (.ref 69), some (.int x1)], [], (0, 0), hp) Q from ?_)
    exact by
     refine Ev.step (j := 1) (s' := ([some (.ref 69), some (.int x1)], [.ref 69], (0, 0), hp)) rfl rfl ?_
     refine bs_callx (K := kq_X11_isName_v) [.ref 69] [] rfl ce_X11_isName_v H rfl rfl rfl (bs_rcv (g := 11) H (bs_R.uq H (g := 11) rfl) (by decide) rfl) rfl ?_ (sf_S_nil) fun r1 hp2 thp2 Hhp2 fhp2 ahp2 php2 xhp2 => ?_
     · intro q k h
       match q, h with
       | 0, h => cases h; exact bs_jR (bs_R.uq H (g := 11) rfl)
       | q + 1, h => cases h
     obtain ⟨z3, rfl⟩ := bs_anI ahp2
     have rgz3 := n_range z3
     have Fhp2 := sf_fr_tr F0 (sf_fr_wider (W := [(11, 4, 4), (11, 11, 18), (135, 0, 0)]) rfl fhp2)
     obtain ⟨uz3, vz3⟩ := bs_s1 (x := z3.toInt) rfl (php2 _ (List.mem_of_getElem? (i := 0) rfl))
     refine (show Ev _ 4 ([some (.ref 69), some (.int x1)], [.int z3], (0, 0), hp2) _ from ?_)
     refine bs_ifne rfl (fun c4 => ?_) (fun c4 => ?_)
     · skip
       refine Ev.step (j := 14) (s' := ([some (.ref 69), some (.int x1)], [.ref 69], (0, 0), hp2)) rfl rfl ?_
       exact by
        refine bs_lit (k := 14) rfl rfl fun z5 hz5 => ?_
        refine Ev.step (j := 17) (s' := ([some (.ref 69), some (.int x1)], [.ref 69, .int z5, .ref 69], (0, 0), hp2)) rfl rfl ?_
        refine bs_getU (g := 11) (g1 := 133) rfl rfl Hhp2 (bs_R.uq Hhp2 (g := 11) rfl) (by decide) rfl rfl ?_
        refine bs_lit (k := 0) rfl rfl fun z6 hz6 => ?_
        refine bs_ld (g := 133) 0 0 (0, 6) rfl Hhp2 (bs_R.uq Hhp2 (g := 133) rfl) (by decide) rfl (by decide) (by decide) rfl (by decide) (by omega) (by omega) fun z7 hz7 lz7 gz7 => ?_
        dsimp only at lz7 gz7
        replace hz7 := bs_at hz7 (show z6.toInt.toNat = 0 by omega)
        refine bs_callx (K := kq_X11_find_v) [.ref 69, .int z5, .int z7] [] rfl ce_X11_find_v Hhp2 rfl rfl rfl (bs_rcv (g := 11) Hhp2 (bs_R.uq Hhp2 (g := 11) rfl) (by decide) rfl) rfl ?_ (sf_S_cons (sf_s1 (x := z5.toInt) rfl (by omega) (by omega)) (sf_S_cons (sf_s1 (x := z7.toInt) rfl (by omega) (by omega)) (sf_S_nil))) fun r8 hp9 thp9 Hhp9 fhp9 ahp9 php9 xhp9 => ?_
        · intro q k h
          match q, h with
          | 0, h => cases h; exact bs_jR (bs_R.uq Hhp2 (g := 11) rfl)
          | 1, h => cases h; exact sf_j0
          | 2, h => cases h; exact sf_j0
          | q + 3, h => cases h
        obtain ⟨z10, rfl⟩ := bs_anI ahp9
        have rgz10 := n_range z10
        have Fhp9 := sf_fr_tr Fhp2 (sf_fr_wider (W := [(11, 4, 4), (11, 11, 18), (135, 0, 0)]) rfl fhp9)
        have h11 : sf_rd hp9 72 0 = some z7.toInt := (fhp9.2.2.1 _ (bs_R.uq Hhp2 (g := 133) (p := 72) rfl).1 _ (by rw [(bs_R.uq Hhp2 (g := 133) (p := 72) rfl).2]; rfl)).trans hz7
        obtain ⟨uz10, vz10⟩ := bs_s1 (x := z10.toInt) rfl (php9 _ (List.mem_of_getElem? (i := 0) rfl))
        refine (show Ev _ 25 ([some (.ref 69), some (.int x1)], [.int z10], (0, 0), hp9) _ from ?_)
        exact by
         refine bs_ifge rfl (fun c12 => ?_) (fun c12 => ?_)
         · skip
           refine Ev.step (j := 44) (s' := ([some (.ref 69), some (.int x1)], [.ref 69], (0, 0), hp9)) rfl rfl ?_
           refine bs_lit (k := 3) rfl rfl fun z13 hz13 => ?_
           refine Ev.inl (L := L_X11_bad) (nL := 2) rfl (bs_rcv (g := 11) Hhp9 (bs_R.uq Hhp9 (g := 11) rfl) (by decide) rfl) rfl (Nat.le_of_ble_eq_true rfl) ?_
           generalize hQ14 : (fun (o : ab_O) => Ev _ _ _ _) = Q14
           refine (show Ev (ab_T L_X11_bad) 0 ([some (.ref 69), some (.int z13)], [], (0, 0), hp9) Q14 from ?_)
           refine Ev.step (j := 1) (s' := ([some (.ref 69), some (.int z13)], [.ref 69], (0, 0), hp9)) rfl rfl ?_
           refine Ev.step (j := 2) (s' := ([some (.ref 69), some (.int z13)], [.int z13, .ref 69], (0, 0), hp9)) rfl rfl ?_
           refine bs_putIv (W := [(11, 15, 15)]) (g := 11) rfl rfl Hhp9 (bs_R.uq Hhp9 (g := 11) rfl) (by decide) rfl rfl rfl rfl (Or.inl rfl) (by omega) (by omega) fun hp15 Hhp15 fhp15 rhp15 ehp15 qhp15 nhp15 => ?_
           have Fhp15 := sf_fr_tr Fhp9 (sf_fr_wider (W := [(11, 4, 4), (11, 11, 18), (135, 0, 0)]) rfl fhp15)
           have h16 : sf_rd hp15 72 0 = some z7.toInt := (ehp15 _ _ (Or.inl (by decide))).trans h11
           refine Ev.step (j := 6) (s' := ([some (.ref 69), some (.int z13)], [.ref 69], (0, 0), hp15)) rfl rfl ?_
           exact by
            refine Ev.step (j := 7) (s' := ([some (.ref 69), some (.int z13)], [.ref 69, .ref 69], (0, 0), hp15)) rfl rfl ?_
            refine bs_getI 11 rfl rfl rfl Hhp15 (bs_R.uq Hhp15 (g := 11) rfl) (by decide) rfl fun z17 hz17 lz17 gz17 => ?_
            refine bs_putIv (W := [(11, 16, 16)]) (g := 11) rfl rfl Hhp15 (bs_R.uq Hhp15 (g := 11) rfl) (by decide) rfl rfl rfl rfl (Or.inl rfl) (by omega) (by omega) fun hp18 Hhp18 fhp18 rhp18 ehp18 qhp18 nhp18 => ?_
            have Fhp18 := sf_fr_tr Fhp15 (sf_fr_wider (W := [(11, 4, 4), (11, 11, 18), (135, 0, 0)]) rfl fhp18)
            have h19 : sf_rd hp18 72 0 = some z7.toInt := (ehp18 _ _ (Or.inl (by decide))).trans h16
            have h20 : sf_rd hp18 69 15 = some z13.toInt := (ehp18 _ _ (Or.inr (by omega))).trans rhp15
            have h21 : sf_rd hp18 69 12 = some z17.toInt := (ehp18 _ _ (Or.inr (by omega))).trans hz17
            refine bs_lit (k := 0) rfl rfl fun z22 hz22 => ?_
            exact by
             refine bs_zret rfl rfl (by omega) (by omega) ?_
             rw [← hQ14]
             refine (show Ev _ 48 ([some (.ref 69), some (.int x1)], [.int z22], (0, 0), hp18) _ from ?_)
             exact bs_zret rfl rfl (by omega) (by omega) (by rw [hQ]; exact ⟨thp9, Hhp18, Fhp18, bs_an0, sf_S_cons (sf_s1 (x := z22.toInt) rfl (by omega) (by omega)) (sf_S_nil), (fun p s B n lim i ha hS hR hK => by
                     cases ha
                     obtain ⟨q1, rq1, N1, N2⟩ := xhp2 (tok B n lim i) hK.1 (tok_wok B n lim i) (tok_k88 B n lim i) hR
                     obtain rfl := Value.int.inj (Option.some.inj rq1)
                     have T2 := N1 (by omega)
                     have KW_ := RK_w hK (by rw [T2]; rfl)
                     have K1 := RK_nil H fhp2 hK
                     have S1 := SR_nil H fhp2 hS
                     have K2 := RK_nil Hhp2 fhp9 K1
                     have S2 := SR_nil Hhp2 fhp9 S1
                     have C0 : z7.toInt = s.h 0 := Option.some.inj (hz7.symm.trans (S1.1 0 (by decide)))
                     obtain ⟨q2, rq2, G0⟩ := xhp9 _ _ s.nm 0 (tok B n lim i).v rfl (fun k hk => by rw [show z5.toInt.toNat + k = 14 + k by omega, Nat.zero_add]; exact S1.2.2.2.1 k (by omega)) (RK_w K1 (by rw [T2]; rfl))
                     obtain rfl := Value.int.inj (Option.some.inj rq2)
                     rw [C0] at G0
                     have PL : z17.toInt = (tok B n lim i).pl := Option.some.inj (hz17.symm.trans (((ehp15 _ _ (Or.inr (by omega)))).trans (RK_pl K2)))
                     exact ⟨z22, rfl, Or.inr ⟨by omega, rhp18.trans (congrArg some PL), Or.inr ⟨⟨T2, by omega⟩, h20.trans (congrArg some (by omega))⟩⟩⟩)⟩)
         · skip
           refine Ev.step (j := 29) (s' := ([some (.ref 69), some (.int x1)], [.ref 69], (0, 0), hp9)) rfl rfl ?_
           exact by
            refine bs_lit (k := 20) rfl rfl fun z23 hz23 => ?_
            refine Ev.step (j := 32) (s' := ([some (.ref 69), some (.int x1)], [.ref 69, .int z23, .ref 69], (0, 0), hp9)) rfl rfl ?_
            refine bs_getU (g := 11) (g1 := 133) rfl rfl Hhp9 (bs_R.uq Hhp9 (g := 11) rfl) (by decide) rfl rfl ?_
            refine bs_lit (k := 1) rfl rfl fun z24 hz24 => ?_
            refine bs_ld (g := 133) 1 1 (0, 8) rfl Hhp9 (bs_R.uq Hhp9 (g := 133) rfl) (by decide) rfl (by decide) (by decide) rfl (by decide) (by omega) (by omega) fun z25 hz25 lz25 gz25 => ?_
            dsimp only at lz25 gz25
            replace hz25 := bs_at hz25 (show z24.toInt.toNat = 1 by omega)
            refine bs_callx (K := kq_X11_find_v) [.ref 69, .int z23, .int z25] [] rfl ce_X11_find_v Hhp9 rfl rfl rfl (bs_rcv (g := 11) Hhp9 (bs_R.uq Hhp9 (g := 11) rfl) (by decide) rfl) rfl ?_ (sf_S_cons (sf_s1 (x := z23.toInt) rfl (by omega) (by omega)) (sf_S_cons (sf_s1 (x := z25.toInt) rfl (by omega) (by omega)) (sf_S_nil))) fun r26 hp27 thp27 Hhp27 fhp27 ahp27 php27 xhp27 => ?_
            · intro q k h
              match q, h with
              | 0, h => cases h; exact bs_jR (bs_R.uq Hhp9 (g := 11) rfl)
              | 1, h => cases h; exact sf_j0
              | 2, h => cases h; exact sf_j0
              | q + 3, h => cases h
            obtain ⟨z28, rfl⟩ := bs_anI ahp27
            have rgz28 := n_range z28
            have Fhp27 := sf_fr_tr Fhp9 (sf_fr_wider (W := [(11, 4, 4), (11, 11, 18), (135, 0, 0)]) rfl fhp27)
            have h29 : sf_rd hp27 72 0 = some z7.toInt := (fhp27.2.2.1 _ (bs_R.uq Hhp9 (g := 133) (p := 72) rfl).1 _ (by rw [(bs_R.uq Hhp9 (g := 133) (p := 72) rfl).2]; rfl)).trans h11
            have h30 : sf_rd hp27 72 1 = some z25.toInt := (fhp27.2.2.1 _ (bs_R.uq Hhp9 (g := 133) (p := 72) rfl).1 _ (by rw [(bs_R.uq Hhp9 (g := 133) (p := 72) rfl).2]; rfl)).trans hz25
            obtain ⟨uz28, vz28⟩ := bs_s1 (x := z28.toInt) rfl (php27 _ (List.mem_of_getElem? (i := 0) rfl))
            refine (show Ev _ 40 ([some (.ref 69), some (.int x1)], [.int z28], (0, 0), hp27) _ from ?_)
            exact by
             refine bs_iflt rfl (fun c31 => ?_) (fun c31 => ?_)
             · skip
               refine Ev.step (j := 50) (s' := ([some (.ref 69), some (.int x1)], [.ref 69], (0, 0), hp27)) rfl rfl ?_
               refine bs_getU (g := 11) (g1 := 135) rfl rfl Hhp27 (bs_R.uq Hhp27 (g := 11) rfl) (by decide) rfl rfl ?_
               refine Ev.step (j := 54) (s' := ([some (.ref 69), some (.int x1)], [.int x1, .ref 74], (0, 0), hp27)) rfl rfl ?_
               refine Ev.step (j := 55) (s' := ([some (.ref 69), some (.int x1)], [.ref 69, .int x1, .ref 74], (0, 0), hp27)) rfl rfl ?_
               refine bs_getLv (g := 11) rfl rfl Hhp27 (bs_R.uq Hhp27 (g := 11) rfl) (by decide) rfl fun w32 hw32 => ?_
               refine bs_lastv (W := [(135, 0, 0)]) (g := 135) rfl Hhp27 (bs_R.uq Hhp27 (g := 135) rfl) (by decide) rfl rfl (by omega) (by show _ < ((28 : Nat) : Int); omega) fun hp33 Hhp33 fhp33 mhp33 lhp33 ehp33 qhp33 => ?_
               have Fhp33 := sf_fr_tr Fhp27 (sf_fr_wider (W := [(11, 4, 4), (11, 11, 18), (135, 0, 0)]) rfl fhp33)
               have h34 : sf_rd hp33 72 0 = some z7.toInt := (ehp33 _ _).trans h29
               have h35 : sf_rd hp33 72 1 = some z25.toInt := (ehp33 _ _).trans h30
               have h36 : sf_rl hp33 69 17 = some w32 := (lhp33 _ _ (Or.inl (by decide))).trans hw32
               refine Ev.step (j := 60) (s' := ([some (.ref 69), some (.int x1)], [.ref 69], (0, 0), hp33)) rfl rfl ?_
               exact by
                refine bs_callx (K := kq_X11_next_v) [.ref 69] [] rfl ce_X11_next_v Hhp33 rfl rfl rfl (bs_rcv (g := 11) Hhp33 (bs_R.uq Hhp33 (g := 11) rfl) (by decide) rfl) rfl ?_ (sf_S_nil) fun r37 hp38 thp38 Hhp38 fhp38 ahp38 php38 xhp38 => ?_
                · intro q k h
                  match q, h with
                  | 0, h => cases h; exact bs_jR (bs_R.uq Hhp33 (g := 11) rfl)
                  | q + 1, h => cases h
                obtain rfl := ahp38.1 rfl
                have Fhp38 := sf_fr_tr Fhp33 (sf_fr_wider (W := [(11, 4, 4), (11, 11, 18), (135, 0, 0)]) rfl fhp38)
                have h39 : sf_rd hp38 72 0 = some z7.toInt := (fhp38.2.2.1 _ (bs_R.uq Hhp33 (g := 133) (p := 72) rfl).1 _ (by rw [(bs_R.uq Hhp33 (g := 133) (p := 72) rfl).2]; rfl)).trans h34
                have h40 : sf_rd hp38 72 1 = some z25.toInt := (fhp38.2.2.1 _ (bs_R.uq Hhp33 (g := 133) (p := 72) rfl).1 _ (by rw [(bs_R.uq Hhp33 (g := 133) (p := 72) rfl).2]; rfl)).trans h35
                have h41 : sf_rl hp38 74 x1.toInt.toNat = some w32 := (sf_rl_cell (fhp38.2.2.2.1 _ (bs_R.uq Hhp33 (g := 135) (p := 74) rfl).1 (by rw [(bs_R.uq Hhp33 (g := 135) (p := 74) rfl).2]; rfl))).trans mhp33
                refine (show Ev _ 63 ([some (.ref 69), some (.int x1)], [], (0, 0), hp38) _ from ?_)
                refine bs_lit (k := 1) rfl rfl fun z42 hz42 => ?_
                exact bs_zret rfl rfl (by omega) (by omega) (by rw [hQ]; exact ⟨thp38, Hhp38, Fhp38, bs_an0, sf_S_cons (sf_s1 (x := z42.toInt) rfl (by omega) (by omega)) (sf_S_nil), (fun p s B n lim i ha hS hR hK => by
                        cases ha
                        obtain ⟨q1, rq1, N1, N2⟩ := xhp2 (tok B n lim i) hK.1 (tok_wok B n lim i) (tok_k88 B n lim i) hR
                        obtain rfl := Value.int.inj (Option.some.inj rq1)
                        have T2 := N1 (by omega)
                        have KW_ := RK_w hK (by rw [T2]; rfl)
                        have K1 := RK_nil H fhp2 hK
                        have S1 := SR_nil H fhp2 hS
                        have K2 := RK_nil Hhp2 fhp9 K1
                        have S2 := SR_nil Hhp2 fhp9 S1
                        have K3 := RK_nil Hhp9 fhp27 K2
                        have S3 := SR_nil Hhp9 fhp27 S2
                        have C0 : z7.toInt = s.h 0 := Option.some.inj (hz7.symm.trans (S1.1 0 (by decide)))
                        obtain ⟨q2, rq2, G0⟩ := xhp9 _ _ s.nm 0 (tok B n lim i).v rfl (fun k hk => by rw [show z5.toInt.toNat + k = 14 + k by omega, Nat.zero_add]; exact S1.2.2.2.1 k (by omega)) (RK_w K1 (by rw [T2]; rfl))
                        obtain rfl := Value.int.inj (Option.some.inj rq2)
                        rw [C0] at G0
                        have C1 : z25.toInt = s.h 1 := Option.some.inj (hz25.symm.trans (S2.1 1 (by decide)))
                        obtain ⟨q3, rq3, G1⟩ := xhp27 _ _ s.nm 6 (tok B n lim i).v rfl (fun k hk => by rw [show z23.toInt.toNat + k = 20 + k by omega]; exact S2.2.2.2.2 k (by omega)) (RK_w K2 (by rw [T2]; rfl))
                        obtain rfl := Value.int.inj (Option.some.inj rq3)
                        rw [C1] at G1
                        have K4 := RK_keep Hhp27 fhp33 rfl rfl (lhp33 _ _ (Or.inl (by decide))) K3
                        have K5 := (RK_next Hhp33 fhp38 rfl rfl rfl xhp38 K4).1
                        obtain ⟨wq, g1, g2⟩ := RK_w K3 (by rw [T2]; rfl)
                        have EW : w32 = wq := Option.some.inj (hw32.symm.trans g1)
                        exact ⟨z42, rfl, Or.inl ⟨by omega, T2, by omega, K5, ⟨_, h41, by rw [EW]; exact g2⟩, fun q hq => ((sf_rl_cell (fhp38.2.2.2.1 _ (bs_R.uq Hhp33 (g := 135) (p := 74) rfl).1 (by rw [(bs_R.uq Hhp33 (g := 135) (p := 74) rfl).2]; rfl))).trans ((lhp33 _ _ (Or.inr (by omega))).trans ((sf_rl_cell (fhp27.2.2.2.1 _ (bs_R.uq Hhp9 (g := 135) (p := 74) rfl).1 (by rw [(bs_R.uq Hhp9 (g := 135) (p := 74) rfl).2]; rfl))).trans ((sf_rl_cell (fhp9.2.2.2.1 _ (bs_R.uq Hhp2 (g := 135) (p := 74) rfl).1 (by rw [(bs_R.uq Hhp2 (g := 135) (p := 74) rfl).2]; rfl))).trans (sf_rl_cell (fhp2.2.2.2.1 _ (bs_R.uq H (g := 135) (p := 74) rfl).1 (by rw [(bs_R.uq H (g := 135) (p := 74) rfl).2]; rfl)))))))⟩⟩)⟩)
             · skip
               refine Ev.step (j := 44) (s' := ([some (.ref 69), some (.int x1)], [.ref 69], (0, 0), hp27)) rfl rfl ?_
               exact by
                refine bs_lit (k := 3) rfl rfl fun z43 hz43 => ?_
                refine Ev.inl (L := L_X11_bad) (nL := 2) rfl (bs_rcv (g := 11) Hhp27 (bs_R.uq Hhp27 (g := 11) rfl) (by decide) rfl) rfl (Nat.le_of_ble_eq_true rfl) ?_
                generalize hQ44 : (fun (o : ab_O) => Ev _ _ _ _) = Q44
                refine (show Ev (ab_T L_X11_bad) 0 ([some (.ref 69), some (.int z43)], [], (0, 0), hp27) Q44 from ?_)
                refine Ev.step (j := 1) (s' := ([some (.ref 69), some (.int z43)], [.ref 69], (0, 0), hp27)) rfl rfl ?_
                refine Ev.step (j := 2) (s' := ([some (.ref 69), some (.int z43)], [.int z43, .ref 69], (0, 0), hp27)) rfl rfl ?_
                refine bs_putIv (W := [(11, 15, 15)]) (g := 11) rfl rfl Hhp27 (bs_R.uq Hhp27 (g := 11) rfl) (by decide) rfl rfl rfl rfl (Or.inl rfl) (by omega) (by omega) fun hp45 Hhp45 fhp45 rhp45 ehp45 qhp45 nhp45 => ?_
                have Fhp45 := sf_fr_tr Fhp27 (sf_fr_wider (W := [(11, 4, 4), (11, 11, 18), (135, 0, 0)]) rfl fhp45)
                have h46 : sf_rd hp45 72 0 = some z7.toInt := (ehp45 _ _ (Or.inl (by decide))).trans h29
                have h47 : sf_rd hp45 72 1 = some z25.toInt := (ehp45 _ _ (Or.inl (by decide))).trans h30
                refine Ev.step (j := 6) (s' := ([some (.ref 69), some (.int z43)], [.ref 69], (0, 0), hp45)) rfl rfl ?_
                exact by
                 refine Ev.step (j := 7) (s' := ([some (.ref 69), some (.int z43)], [.ref 69, .ref 69], (0, 0), hp45)) rfl rfl ?_
                 refine bs_getI 11 rfl rfl rfl Hhp45 (bs_R.uq Hhp45 (g := 11) rfl) (by decide) rfl fun z48 hz48 lz48 gz48 => ?_
                 refine bs_putIv (W := [(11, 16, 16)]) (g := 11) rfl rfl Hhp45 (bs_R.uq Hhp45 (g := 11) rfl) (by decide) rfl rfl rfl rfl (Or.inl rfl) (by omega) (by omega) fun hp49 Hhp49 fhp49 rhp49 ehp49 qhp49 nhp49 => ?_
                 have Fhp49 := sf_fr_tr Fhp45 (sf_fr_wider (W := [(11, 4, 4), (11, 11, 18), (135, 0, 0)]) rfl fhp49)
                 have h50 : sf_rd hp49 72 0 = some z7.toInt := (ehp49 _ _ (Or.inl (by decide))).trans h46
                 have h51 : sf_rd hp49 72 1 = some z25.toInt := (ehp49 _ _ (Or.inl (by decide))).trans h47
                 have h52 : sf_rd hp49 69 15 = some z43.toInt := (ehp49 _ _ (Or.inr (by omega))).trans rhp45
                 have h53 : sf_rd hp49 69 12 = some z48.toInt := (ehp49 _ _ (Or.inr (by omega))).trans hz48
                 refine bs_lit (k := 0) rfl rfl fun z54 hz54 => ?_
                 exact by
                  refine bs_zret rfl rfl (by omega) (by omega) ?_
                  rw [← hQ44]
                  refine (show Ev _ 48 ([some (.ref 69), some (.int x1)], [.int z54], (0, 0), hp49) _ from ?_)
                  exact bs_zret rfl rfl (by omega) (by omega) (by rw [hQ]; exact ⟨thp27, Hhp49, Fhp49, bs_an0, sf_S_cons (sf_s1 (x := z54.toInt) rfl (by omega) (by omega)) (sf_S_nil), (fun p s B n lim i ha hS hR hK => by
                          cases ha
                          obtain ⟨q1, rq1, N1, N2⟩ := xhp2 (tok B n lim i) hK.1 (tok_wok B n lim i) (tok_k88 B n lim i) hR
                          obtain rfl := Value.int.inj (Option.some.inj rq1)
                          have T2 := N1 (by omega)
                          have KW_ := RK_w hK (by rw [T2]; rfl)
                          have K1 := RK_nil H fhp2 hK
                          have S1 := SR_nil H fhp2 hS
                          have K2 := RK_nil Hhp2 fhp9 K1
                          have S2 := SR_nil Hhp2 fhp9 S1
                          have K3 := RK_nil Hhp9 fhp27 K2
                          have S3 := SR_nil Hhp9 fhp27 S2
                          have C0 : z7.toInt = s.h 0 := Option.some.inj (hz7.symm.trans (S1.1 0 (by decide)))
                          obtain ⟨q2, rq2, G0⟩ := xhp9 _ _ s.nm 0 (tok B n lim i).v rfl (fun k hk => by rw [show z5.toInt.toNat + k = 14 + k by omega, Nat.zero_add]; exact S1.2.2.2.1 k (by omega)) (RK_w K1 (by rw [T2]; rfl))
                          obtain rfl := Value.int.inj (Option.some.inj rq2)
                          rw [C0] at G0
                          have C1 : z25.toInt = s.h 1 := Option.some.inj (hz25.symm.trans (S2.1 1 (by decide)))
                          obtain ⟨q3, rq3, G1⟩ := xhp27 _ _ s.nm 6 (tok B n lim i).v rfl (fun k hk => by rw [show z23.toInt.toNat + k = 20 + k by omega]; exact S2.2.2.2.2 k (by omega)) (RK_w K2 (by rw [T2]; rfl))
                          obtain rfl := Value.int.inj (Option.some.inj rq3)
                          rw [C1] at G1
                          have PL : z48.toInt = (tok B n lim i).pl := Option.some.inj (hz48.symm.trans (((ehp45 _ _ (Or.inr (by omega)))).trans (RK_pl K3)))
                          exact ⟨z54, rfl, Or.inr ⟨by omega, rhp49.trans (congrArg some PL), Or.inr ⟨⟨T2, by omega⟩, h52.trans (congrArg some (by omega))⟩⟩⟩)⟩)
     · skip
       have c55 : z3.toInt = 0 := by omega
       refine Ev.step (j := 8) (s' := ([some (.ref 69), some (.int x1)], [.ref 69], (0, 0), hp2)) rfl rfl ?_
       exact by
        refine bs_lit (k := 1) rfl rfl fun z56 hz56 => ?_
        refine Ev.inl (L := L_X11_bad) (nL := 2) rfl (bs_rcv (g := 11) Hhp2 (bs_R.uq Hhp2 (g := 11) rfl) (by decide) rfl) rfl (Nat.le_of_ble_eq_true rfl) ?_
        generalize hQ57 : (fun (o : ab_O) => Ev _ _ _ _) = Q57
        refine (show Ev (ab_T L_X11_bad) 0 ([some (.ref 69), some (.int z56)], [], (0, 0), hp2) Q57 from ?_)
        refine Ev.step (j := 1) (s' := ([some (.ref 69), some (.int z56)], [.ref 69], (0, 0), hp2)) rfl rfl ?_
        refine Ev.step (j := 2) (s' := ([some (.ref 69), some (.int z56)], [.int z56, .ref 69], (0, 0), hp2)) rfl rfl ?_
        refine bs_putIv (W := [(11, 15, 15)]) (g := 11) rfl rfl Hhp2 (bs_R.uq Hhp2 (g := 11) rfl) (by decide) rfl rfl rfl rfl (Or.inl rfl) (by omega) (by omega) fun hp58 Hhp58 fhp58 rhp58 ehp58 qhp58 nhp58 => ?_
        have Fhp58 := sf_fr_tr Fhp2 (sf_fr_wider (W := [(11, 4, 4), (11, 11, 18), (135, 0, 0)]) rfl fhp58)
        refine Ev.step (j := 6) (s' := ([some (.ref 69), some (.int z56)], [.ref 69], (0, 0), hp58)) rfl rfl ?_
        exact by
         refine Ev.step (j := 7) (s' := ([some (.ref 69), some (.int z56)], [.ref 69, .ref 69], (0, 0), hp58)) rfl rfl ?_
         refine bs_getI 11 rfl rfl rfl Hhp58 (bs_R.uq Hhp58 (g := 11) rfl) (by decide) rfl fun z59 hz59 lz59 gz59 => ?_
         refine bs_putIv (W := [(11, 16, 16)]) (g := 11) rfl rfl Hhp58 (bs_R.uq Hhp58 (g := 11) rfl) (by decide) rfl rfl rfl rfl (Or.inl rfl) (by omega) (by omega) fun hp60 Hhp60 fhp60 rhp60 ehp60 qhp60 nhp60 => ?_
         have Fhp60 := sf_fr_tr Fhp58 (sf_fr_wider (W := [(11, 4, 4), (11, 11, 18), (135, 0, 0)]) rfl fhp60)
         have h61 : sf_rd hp60 69 15 = some z56.toInt := (ehp60 _ _ (Or.inr (by omega))).trans rhp58
         have h62 : sf_rd hp60 69 12 = some z59.toInt := (ehp60 _ _ (Or.inr (by omega))).trans hz59
         refine bs_lit (k := 0) rfl rfl fun z63 hz63 => ?_
         refine bs_zret rfl rfl (by omega) (by omega) ?_
         rw [← hQ57]
         refine (show Ev _ 12 ([some (.ref 69), some (.int x1)], [.int z63], (0, 0), hp60) _ from ?_)
         exact bs_zret rfl rfl (by omega) (by omega) (by rw [hQ]; exact ⟨thp2, Hhp60, Fhp60, bs_an0, sf_S_cons (sf_s1 (x := z63.toInt) rfl (by omega) (by omega)) (sf_S_nil), (fun p s B n lim i ha hS hR hK => by
                 cases ha
                 obtain ⟨q1, rq1, N1, N2⟩ := xhp2 (tok B n lim i) hK.1 (tok_wok B n lim i) (tok_k88 B n lim i) hR
                 obtain rfl := Value.int.inj (Option.some.inj rq1)
                 have K1 := RK_nil H fhp2 hK
                 have PL : z59.toInt = (tok B n lim i).pl := Option.some.inj (hz59.symm.trans (((ehp58 _ _ (Or.inr (by omega)))).trans (RK_pl K1)))
                 exact ⟨z63, rfl, Or.inr ⟨by omega, rhp60.trans (congrArg some PL), Or.inl ⟨fun e => absurd (N2 e) (by omega), h61.trans (congrArg some (by omega))⟩⟩⟩)⟩)
def kq_X11_looksAt_v : sf_Q := ([(1, 11, 0), (0, 0, 0), (0, 0, 0)], [(1, 3, 0, 14, 20, 0), (1, 6, 0, 0, 8, 0)], some (0, 0, 0), [(1, 0, 0, 0, 1, 0)], [(11, 15, 16), (11, 18, 18)])
def ke_X11_looksAt_v : List Value → ab_H → Option Value → ab_H → Prop := fun as hp r hp' => ∀ (x y : Int32) (nm : Nat → Int) (q : Nat) (B : Nat → Int) (n lim i : Nat), as = [.ref 69, .int x, .int y] → (∀ k : Nat, (k : Int) < y.toInt → ∃ w, sf_rl hp 74 (x.toInt.toNat + k) = some w ∧ w.toInt = nm (q + k)) → RES hp → RK hp B n lim i → ∃ z : Int32, r = some (.int z) ∧ ((z.toInt = 1 ∧ (tok B n lim i).k = 2 ∧ 0 ≤ fnd nm q y.toInt (tok B n lim i).v ∧ sf_rd hp' 69 18 = some (fnd nm q y.toInt (tok B n lim i).v) ∧ RK hp' B n lim i) ∨ (z.toInt = 0 ∧ sf_rd hp' 69 16 = some (tok B n lim i).pl ∧ (((tok B n lim i).k ≠ 2 ∧ sf_rd hp' 69 15 = some 1) ∨ (((tok B n lim i).k = 2 ∧ fnd nm q y.toInt (tok B n lim i).v < 0) ∧ sf_rd hp' 69 15 = some 3))))
set_option maxRecDepth 100000 in
set_option maxHeartbeats 4000000 in
theorem ce_X11_looksAt_v : sf_cE kq_X11_looksAt_v Z_X11_looksAt ke_X11_looksAt_v := by
  intro t hp as H hl hj hpre
  match as, hl with
  | [v0, v1, v2], _ =>
    obtain ⟨a0, rfl, ra0⟩ := bs_aR (hj 0 _ rfl)
    obtain rfl := ra0.eq H (p := 69) rfl
    obtain ⟨x1, rfl⟩ := bs_aI (hj 1 _ rfl)
    have rg1 := n_range x1
    obtain ⟨x2, rfl⟩ := bs_aI (hj 2 _ rfl)
    have rg2 := n_range x2
    obtain ⟨pl0, ph0⟩ := bs_s1 (x := x1.toInt) rfl (hpre _ (List.mem_of_getElem? (i := 0) rfl))
    obtain ⟨pl1, ph1⟩ := bs_s1 (x := x2.toInt) rfl (hpre _ (List.mem_of_getElem? (i := 1) rfl))
    clear hpre hj
    have F0 : sf_fr [(11, 15, 16), (11, 18, 18)] t hp t hp := sf_fr_rf
    refine bs_finx (E := ke_X11_looksAt_v) (K := kq_X11_looksAt_v) (L := (L_X11_looksAt Z_X11_isName Z_X11_bad Z_X11_find)) (nL := 3) (Nat.le_of_ble_eq_true rfl) ?_
    obtain ⟨Q, hQ⟩ : ∃ Q : ab_O → Prop, Q = (fun o => ∃ t', sf_h t' o.2 ∧ sf_fr (kq_X11_looksAt_v).2.2.2.2 t hp t' o.2 ∧ sf_an t' o.2.1 (kq_X11_looksAt_v).2.2.1 o.1 ∧ sf_S (sf_v1 o.1 [.ref 69, .int x1, .int x2] o.2) (kq_X11_looksAt_v).2.2.2.1 ∧ ke_X11_looksAt_v [.ref 69, .int x1, .int x2] hp o.1 o.2) := ⟨_, rfl⟩
    rw [← hQ]
    refine (show Ev (ab_T (L_X11_looksAt Z_X11_isName Z_X11_bad Z_X11_find)) 0 ([some (.ref 69), some (.int x1), some (.int x2)], [], (0, 0), hp) Q from ?_)
    exact by
     refine Ev.step (j := 1) (s' := ([some (.ref 69), some (.int x1), some (.int x2)], [.ref 69], (0, 0), hp)) rfl rfl ?_
     refine bs_callx (K := kq_X11_isName_v) [.ref 69] [] rfl ce_X11_isName_v H rfl rfl rfl (bs_rcv (g := 11) H (bs_R.uq H (g := 11) rfl) (by decide) rfl) rfl ?_ (sf_S_nil) fun r1 hp2 thp2 Hhp2 fhp2 ahp2 php2 xhp2 => ?_
     · intro q k h
       match q, h with
       | 0, h => cases h; exact bs_jR (bs_R.uq H (g := 11) rfl)
       | q + 1, h => cases h
     obtain ⟨z3, rfl⟩ := bs_anI ahp2
     have rgz3 := n_range z3
     have Fhp2 := sf_fr_tr F0 (sf_fr_wider (W := [(11, 15, 16), (11, 18, 18)]) rfl fhp2)
     obtain ⟨uz3, vz3⟩ := bs_s1 (x := z3.toInt) rfl (php2 _ (List.mem_of_getElem? (i := 0) rfl))
     refine (show Ev _ 4 ([some (.ref 69), some (.int x1), some (.int x2)], [.int z3], (0, 0), hp2) _ from ?_)
     refine bs_ifne rfl (fun c4 => ?_) (fun c4 => ?_)
     · skip
       refine Ev.step (j := 14) (s' := ([some (.ref 69), some (.int x1), some (.int x2)], [.ref 69], (0, 0), hp2)) rfl rfl ?_
       exact by
        refine Ev.step (j := 15) (s' := ([some (.ref 69), some (.int x1), some (.int x2)], [.ref 69, .ref 69], (0, 0), hp2)) rfl rfl ?_
        refine Ev.step (j := 16) (s' := ([some (.ref 69), some (.int x1), some (.int x2)], [.int x1, .ref 69, .ref 69], (0, 0), hp2)) rfl rfl ?_
        refine Ev.step (j := 17) (s' := ([some (.ref 69), some (.int x1), some (.int x2)], [.int x2, .int x1, .ref 69, .ref 69], (0, 0), hp2)) rfl rfl ?_
        refine bs_callx (K := kq_X11_find_v) [.ref 69, .int x1, .int x2] [.ref 69] rfl ce_X11_find_v Hhp2 rfl rfl rfl (bs_rcv (g := 11) Hhp2 (bs_R.uq Hhp2 (g := 11) rfl) (by decide) rfl) rfl ?_ (sf_S_cons (sf_s1 (x := x1.toInt) rfl (by omega) (by omega)) (sf_S_cons (sf_s1 (x := x2.toInt) rfl (by omega) (by omega)) (sf_S_nil))) fun r5 hp6 thp6 Hhp6 fhp6 ahp6 php6 xhp6 => ?_
        · intro q k h
          match q, h with
          | 0, h => cases h; exact bs_jR (bs_R.uq Hhp2 (g := 11) rfl)
          | 1, h => cases h; exact sf_j0
          | 2, h => cases h; exact sf_j0
          | q + 3, h => cases h
        obtain ⟨z7, rfl⟩ := bs_anI ahp6
        have rgz7 := n_range z7
        have Fhp6 := sf_fr_tr Fhp2 (sf_fr_wider (W := [(11, 15, 16), (11, 18, 18)]) rfl fhp6)
        obtain ⟨uz7, vz7⟩ := bs_s1 (x := z7.toInt) rfl (php6 _ (List.mem_of_getElem? (i := 0) rfl))
        refine (show Ev _ 20 ([some (.ref 69), some (.int x1), some (.int x2)], [.int z7, .ref 69], (0, 0), hp6) _ from ?_)
        exact by
         refine bs_putIv (W := [(11, 18, 18)]) (g := 11) rfl rfl Hhp6 (bs_R.uq Hhp6 (g := 11) rfl) (by decide) rfl rfl rfl rfl (Or.inl rfl) (by omega) (by omega) fun hp8 Hhp8 fhp8 rhp8 ehp8 qhp8 nhp8 => ?_
         have Fhp8 := sf_fr_tr Fhp6 (sf_fr_wider (W := [(11, 15, 16), (11, 18, 18)]) rfl fhp8)
         refine Ev.step (j := 24) (s' := ([some (.ref 69), some (.int x1), some (.int x2)], [.ref 69], (0, 0), hp8)) rfl rfl ?_
         refine bs_getI 11 rfl rfl rfl Hhp8 (bs_R.uq Hhp8 (g := 11) rfl) (by decide) rfl fun z9 hz9 lz9 gz9 => ?_
         have e10 : z9.toInt = z7.toInt := Option.some.inj (hz9.symm.trans rhp8)
         refine bs_ifge rfl (fun c11 => ?_) (fun c11 => ?_)
         · skip
           refine bs_lit (k := 1) rfl rfl fun z12 hz12 => ?_
           refine Ev.step (j := 43) (s' := ([some (.ref 69), some (.int x1), some (.int x2)], [.int z12], (0, 0), hp8)) rfl rfl ?_
           exact bs_zret rfl rfl (by omega) (by omega) (by rw [hQ]; exact ⟨thp6, Hhp8, Fhp8, bs_an0, sf_S_cons (sf_s1 (x := z12.toInt) rfl (by omega) (by omega)) (sf_S_nil), (fun x y nm q B n lim i ha hN hR hK => by
                   cases ha
                   obtain ⟨q1, rq1, N1, N2⟩ := xhp2 (tok B n lim i) hK.1 (tok_wok B n lim i) (tok_k88 B n lim i) hR
                   obtain rfl := Value.int.inj (Option.some.inj rq1)
                   have T2 := N1 (by omega)
                   have K1 := RK_nil H fhp2 hK
                   have K2 := RK_nil Hhp2 fhp6 K1
                   obtain ⟨q2, rq2, G2⟩ := xhp6 _ _ nm q (tok B n lim i).v rfl (fun k hk => by rw [sf_rl_cell (fhp2.2.2.2.1 _ (bs_R.uq H (g := 135) (p := 74) rfl).1 rfl)]; exact hN k hk) (RK_w K1 (by rw [T2]; rfl))
                   obtain rfl := Value.int.inj (Option.some.inj rq2)
                   have K3 := RK_keep Hhp6 fhp8 rfl rfl (nhp8 _ _) K2
                   exact ⟨z12, rfl, Or.inl ⟨by omega, T2, by omega, rhp8.trans (congrArg some G2), K3⟩⟩)⟩)
         · skip
           refine Ev.step (j := 31) (s' := ([some (.ref 69), some (.int x1), some (.int x2)], [.ref 69], (0, 0), hp8)) rfl rfl ?_
           exact by
            refine bs_lit (k := 3) rfl rfl fun z13 hz13 => ?_
            refine Ev.inl (L := L_X11_bad) (nL := 2) rfl (bs_rcv (g := 11) Hhp8 (bs_R.uq Hhp8 (g := 11) rfl) (by decide) rfl) rfl (Nat.le_of_ble_eq_true rfl) ?_
            generalize hQ14 : (fun (o : ab_O) => Ev _ _ _ _) = Q14
            refine (show Ev (ab_T L_X11_bad) 0 ([some (.ref 69), some (.int z13)], [], (0, 0), hp8) Q14 from ?_)
            refine Ev.step (j := 1) (s' := ([some (.ref 69), some (.int z13)], [.ref 69], (0, 0), hp8)) rfl rfl ?_
            refine Ev.step (j := 2) (s' := ([some (.ref 69), some (.int z13)], [.int z13, .ref 69], (0, 0), hp8)) rfl rfl ?_
            refine bs_putIv (W := [(11, 15, 15)]) (g := 11) rfl rfl Hhp8 (bs_R.uq Hhp8 (g := 11) rfl) (by decide) rfl rfl rfl rfl (Or.inl rfl) (by omega) (by omega) fun hp15 Hhp15 fhp15 rhp15 ehp15 qhp15 nhp15 => ?_
            have Fhp15 := sf_fr_tr Fhp8 (sf_fr_wider (W := [(11, 15, 16), (11, 18, 18)]) rfl fhp15)
            have h16 : sf_rd hp15 69 18 = some z7.toInt := (ehp15 _ _ (Or.inr (by omega))).trans rhp8
            refine Ev.step (j := 6) (s' := ([some (.ref 69), some (.int z13)], [.ref 69], (0, 0), hp15)) rfl rfl ?_
            exact by
             refine Ev.step (j := 7) (s' := ([some (.ref 69), some (.int z13)], [.ref 69, .ref 69], (0, 0), hp15)) rfl rfl ?_
             refine bs_getI 11 rfl rfl rfl Hhp15 (bs_R.uq Hhp15 (g := 11) rfl) (by decide) rfl fun z17 hz17 lz17 gz17 => ?_
             refine bs_putIv (W := [(11, 16, 16)]) (g := 11) rfl rfl Hhp15 (bs_R.uq Hhp15 (g := 11) rfl) (by decide) rfl rfl rfl rfl (Or.inl rfl) (by omega) (by omega) fun hp18 Hhp18 fhp18 rhp18 ehp18 qhp18 nhp18 => ?_
             have Fhp18 := sf_fr_tr Fhp15 (sf_fr_wider (W := [(11, 15, 16), (11, 18, 18)]) rfl fhp18)
             have h19 : sf_rd hp18 69 18 = some z7.toInt := (ehp18 _ _ (Or.inr (by omega))).trans h16
             have h20 : sf_rd hp18 69 15 = some z13.toInt := (ehp18 _ _ (Or.inr (by omega))).trans rhp15
             have h21 : sf_rd hp18 69 12 = some z17.toInt := (ehp18 _ _ (Or.inr (by omega))).trans hz17
             refine bs_lit (k := 0) rfl rfl fun z22 hz22 => ?_
             exact by
              refine bs_zret rfl rfl (by omega) (by omega) ?_
              rw [← hQ14]
              refine (show Ev _ 35 ([some (.ref 69), some (.int x1), some (.int x2)], [.int z22], (0, 0), hp18) _ from ?_)
              refine bs_ifeq rfl (fun c23 => ?_) (fun c23 => ?_)
              · skip
                refine bs_lit (k := 0) rfl rfl fun z24 hz24 => ?_
                exact bs_zret rfl rfl (by omega) (by omega) (by rw [hQ]; exact ⟨thp6, Hhp18, Fhp18, bs_an0, sf_S_cons (sf_s1 (x := z24.toInt) rfl (by omega) (by omega)) (sf_S_nil), (fun x y nm q B n lim i ha hN hR hK => by
                        cases ha
                        obtain ⟨q1, rq1, N1, N2⟩ := xhp2 (tok B n lim i) hK.1 (tok_wok B n lim i) (tok_k88 B n lim i) hR
                        obtain rfl := Value.int.inj (Option.some.inj rq1)
                        have T2 := N1 (by omega)
                        have K1 := RK_nil H fhp2 hK
                        have K2 := RK_nil Hhp2 fhp6 K1
                        obtain ⟨q2, rq2, G2⟩ := xhp6 _ _ nm q (tok B n lim i).v rfl (fun k hk => by rw [sf_rl_cell (fhp2.2.2.2.1 _ (bs_R.uq H (g := 135) (p := 74) rfl).1 rfl)]; exact hN k hk) (RK_w K1 (by rw [T2]; rfl))
                        obtain rfl := Value.int.inj (Option.some.inj rq2)
                        have K3 := RK_keep Hhp6 fhp8 rfl rfl (nhp8 _ _) K2
                        have PL : z17.toInt = (tok B n lim i).pl := Option.some.inj (hz17.symm.trans (((ehp15 _ _ (Or.inr (by omega)))).trans (RK_pl K3)))
                        exact ⟨z24, rfl, Or.inr ⟨by omega, rhp18.trans (congrArg some PL), Or.inr ⟨⟨T2, by omega⟩, h20.trans (congrArg some (by omega))⟩⟩⟩)⟩)
              · exfalso; omega
     · skip
       have c25 : z3.toInt = 0 := by omega
       refine Ev.step (j := 8) (s' := ([some (.ref 69), some (.int x1), some (.int x2)], [.ref 69], (0, 0), hp2)) rfl rfl ?_
       exact by
        refine bs_lit (k := 1) rfl rfl fun z26 hz26 => ?_
        refine Ev.inl (L := L_X11_bad) (nL := 2) rfl (bs_rcv (g := 11) Hhp2 (bs_R.uq Hhp2 (g := 11) rfl) (by decide) rfl) rfl (Nat.le_of_ble_eq_true rfl) ?_
        generalize hQ27 : (fun (o : ab_O) => Ev _ _ _ _) = Q27
        refine (show Ev (ab_T L_X11_bad) 0 ([some (.ref 69), some (.int z26)], [], (0, 0), hp2) Q27 from ?_)
        refine Ev.step (j := 1) (s' := ([some (.ref 69), some (.int z26)], [.ref 69], (0, 0), hp2)) rfl rfl ?_
        refine Ev.step (j := 2) (s' := ([some (.ref 69), some (.int z26)], [.int z26, .ref 69], (0, 0), hp2)) rfl rfl ?_
        refine bs_putIv (W := [(11, 15, 15)]) (g := 11) rfl rfl Hhp2 (bs_R.uq Hhp2 (g := 11) rfl) (by decide) rfl rfl rfl rfl (Or.inl rfl) (by omega) (by omega) fun hp28 Hhp28 fhp28 rhp28 ehp28 qhp28 nhp28 => ?_
        have Fhp28 := sf_fr_tr Fhp2 (sf_fr_wider (W := [(11, 15, 16), (11, 18, 18)]) rfl fhp28)
        refine Ev.step (j := 6) (s' := ([some (.ref 69), some (.int z26)], [.ref 69], (0, 0), hp28)) rfl rfl ?_
        exact by
         refine Ev.step (j := 7) (s' := ([some (.ref 69), some (.int z26)], [.ref 69, .ref 69], (0, 0), hp28)) rfl rfl ?_
         refine bs_getI 11 rfl rfl rfl Hhp28 (bs_R.uq Hhp28 (g := 11) rfl) (by decide) rfl fun z29 hz29 lz29 gz29 => ?_
         refine bs_putIv (W := [(11, 16, 16)]) (g := 11) rfl rfl Hhp28 (bs_R.uq Hhp28 (g := 11) rfl) (by decide) rfl rfl rfl rfl (Or.inl rfl) (by omega) (by omega) fun hp30 Hhp30 fhp30 rhp30 ehp30 qhp30 nhp30 => ?_
         have Fhp30 := sf_fr_tr Fhp28 (sf_fr_wider (W := [(11, 15, 16), (11, 18, 18)]) rfl fhp30)
         have h31 : sf_rd hp30 69 15 = some z26.toInt := (ehp30 _ _ (Or.inr (by omega))).trans rhp28
         have h32 : sf_rd hp30 69 12 = some z29.toInt := (ehp30 _ _ (Or.inr (by omega))).trans hz29
         refine bs_lit (k := 0) rfl rfl fun z33 hz33 => ?_
         refine bs_zret rfl rfl (by omega) (by omega) ?_
         rw [← hQ27]
         refine (show Ev _ 12 ([some (.ref 69), some (.int x1), some (.int x2)], [.int z33], (0, 0), hp30) _ from ?_)
         exact bs_zret rfl rfl (by omega) (by omega) (by rw [hQ]; exact ⟨thp2, Hhp30, Fhp30, bs_an0, sf_S_cons (sf_s1 (x := z33.toInt) rfl (by omega) (by omega)) (sf_S_nil), (fun x y nm q B n lim i ha hN hR hK => by
                 cases ha
                 obtain ⟨q1, rq1, N1, N2⟩ := xhp2 (tok B n lim i) hK.1 (tok_wok B n lim i) (tok_k88 B n lim i) hR
                 obtain rfl := Value.int.inj (Option.some.inj rq1)
                 have K1 := RK_nil H fhp2 hK
                 have PL : z29.toInt = (tok B n lim i).pl := Option.some.inj (hz29.symm.trans (((ehp28 _ _ (Or.inr (by omega)))).trans (RK_pl K1)))
                 exact ⟨z33, rfl, Or.inr ⟨by omega, rhp30.trans (congrArg some PL), Or.inl ⟨fun e => absurd (N2 e) (by omega), h31.trans (congrArg some (by omega))⟩⟩⟩)⟩)
def kq_X11_takesName_v : sf_Q := ([(1, 11, 0), (0, 0, 0), (0, 0, 0)], [(1, 3, 0, 14, 20, 0), (1, 6, 0, 0, 8, 0)], some (0, 0, 0), [(1, 0, 0, 0, 1, 0)], [(11, 4, 4), (11, 11, 18)])
def ke_X11_takesName_v : List Value → ab_H → Option Value → ab_H → Prop := fun as hp r hp' => ∀ (x y : Int32) (nm : Nat → Int) (q : Nat) (B : Nat → Int) (n lim i : Nat), as = [.ref 69, .int x, .int y] → (∀ k : Nat, (k : Int) < y.toInt → ∃ w, sf_rl hp 74 (x.toInt.toNat + k) = some w ∧ w.toInt = nm (q + k)) → RES hp → RK hp B n lim i → ∃ z : Int32, r = some (.int z) ∧ ((z.toInt = 1 ∧ (tok B n lim i).k = 2 ∧ 0 ≤ fnd nm q y.toInt (tok B n lim i).v ∧ sf_rd hp' 69 18 = some (fnd nm q y.toInt (tok B n lim i).v) ∧ RK hp' B n lim (i + 1)) ∨ (z.toInt = 0 ∧ sf_rd hp' 69 16 = some (tok B n lim i).pl ∧ (((tok B n lim i).k ≠ 2 ∧ sf_rd hp' 69 15 = some 1) ∨ (((tok B n lim i).k = 2 ∧ fnd nm q y.toInt (tok B n lim i).v < 0) ∧ sf_rd hp' 69 15 = some 3))))
set_option maxRecDepth 100000 in
set_option maxHeartbeats 4000000 in
theorem ce_X11_takesName_v : sf_cE kq_X11_takesName_v Z_X11_takesName ke_X11_takesName_v := by
  intro t hp as H hl hj hpre
  match as, hl with
  | [v0, v1, v2], _ =>
    obtain ⟨a0, rfl, ra0⟩ := bs_aR (hj 0 _ rfl)
    obtain rfl := ra0.eq H (p := 69) rfl
    obtain ⟨x1, rfl⟩ := bs_aI (hj 1 _ rfl)
    have rg1 := n_range x1
    obtain ⟨x2, rfl⟩ := bs_aI (hj 2 _ rfl)
    have rg2 := n_range x2
    obtain ⟨pl0, ph0⟩ := bs_s1 (x := x1.toInt) rfl (hpre _ (List.mem_of_getElem? (i := 0) rfl))
    obtain ⟨pl1, ph1⟩ := bs_s1 (x := x2.toInt) rfl (hpre _ (List.mem_of_getElem? (i := 1) rfl))
    clear hpre hj
    have F0 : sf_fr [(11, 4, 4), (11, 11, 18)] t hp t hp := sf_fr_rf
    refine bs_finx (E := ke_X11_takesName_v) (K := kq_X11_takesName_v) (L := (L_X11_takesName Z_X11_looksAt Z_X11_next)) (nL := 3) (Nat.le_of_ble_eq_true rfl) ?_
    obtain ⟨Q, hQ⟩ : ∃ Q : ab_O → Prop, Q = (fun o => ∃ t', sf_h t' o.2 ∧ sf_fr (kq_X11_takesName_v).2.2.2.2 t hp t' o.2 ∧ sf_an t' o.2.1 (kq_X11_takesName_v).2.2.1 o.1 ∧ sf_S (sf_v1 o.1 [.ref 69, .int x1, .int x2] o.2) (kq_X11_takesName_v).2.2.2.1 ∧ ke_X11_takesName_v [.ref 69, .int x1, .int x2] hp o.1 o.2) := ⟨_, rfl⟩
    rw [← hQ]
    refine (show Ev (ab_T (L_X11_takesName Z_X11_looksAt Z_X11_next)) 0 ([some (.ref 69), some (.int x1), some (.int x2)], [], (0, 0), hp) Q from ?_)
    exact by
     refine Ev.step (j := 1) (s' := ([some (.ref 69), some (.int x1), some (.int x2)], [.ref 69], (0, 0), hp)) rfl rfl ?_
     refine Ev.step (j := 2) (s' := ([some (.ref 69), some (.int x1), some (.int x2)], [.int x1, .ref 69], (0, 0), hp)) rfl rfl ?_
     refine Ev.step (j := 3) (s' := ([some (.ref 69), some (.int x1), some (.int x2)], [.int x2, .int x1, .ref 69], (0, 0), hp)) rfl rfl ?_
     refine bs_callx (K := kq_X11_looksAt_v) [.ref 69, .int x1, .int x2] [] rfl ce_X11_looksAt_v H rfl rfl rfl (bs_rcv (g := 11) H (bs_R.uq H (g := 11) rfl) (by decide) rfl) rfl ?_ (sf_S_cons (sf_s1 (x := x1.toInt) rfl (by omega) (by omega)) (sf_S_cons (sf_s1 (x := x2.toInt) rfl (by omega) (by omega)) (sf_S_nil))) fun r1 hp2 thp2 Hhp2 fhp2 ahp2 php2 xhp2 => ?_
     · intro q k h
       match q, h with
       | 0, h => cases h; exact bs_jR (bs_R.uq H (g := 11) rfl)
       | 1, h => cases h; exact sf_j0
       | 2, h => cases h; exact sf_j0
       | q + 3, h => cases h
     obtain ⟨z3, rfl⟩ := bs_anI ahp2
     have rgz3 := n_range z3
     have Fhp2 := sf_fr_tr F0 (sf_fr_wider (W := [(11, 4, 4), (11, 11, 18)]) rfl fhp2)
     obtain ⟨uz3, vz3⟩ := bs_s1 (x := z3.toInt) rfl (php2 _ (List.mem_of_getElem? (i := 0) rfl))
     refine (show Ev _ 6 ([some (.ref 69), some (.int x1), some (.int x2)], [.int z3], (0, 0), hp2) _ from ?_)
     exact by
      refine bs_ifne rfl (fun c4 => ?_) (fun c4 => ?_)
      · skip
        refine Ev.step (j := 12) (s' := ([some (.ref 69), some (.int x1), some (.int x2)], [.ref 69], (0, 0), hp2)) rfl rfl ?_
        refine bs_callx (K := kq_X11_next_v) [.ref 69] [] rfl ce_X11_next_v Hhp2 rfl rfl rfl (bs_rcv (g := 11) Hhp2 (bs_R.uq Hhp2 (g := 11) rfl) (by decide) rfl) rfl ?_ (sf_S_nil) fun r5 hp6 thp6 Hhp6 fhp6 ahp6 php6 xhp6 => ?_
        · intro q k h
          match q, h with
          | 0, h => cases h; exact bs_jR (bs_R.uq Hhp2 (g := 11) rfl)
          | q + 1, h => cases h
        obtain rfl := ahp6.1 rfl
        have Fhp6 := sf_fr_tr Fhp2 (sf_fr_wider (W := [(11, 4, 4), (11, 11, 18)]) rfl fhp6)
        refine (show Ev _ 15 ([some (.ref 69), some (.int x1), some (.int x2)], [], (0, 0), hp6) _ from ?_)
        refine bs_lit (k := 1) rfl rfl fun z7 hz7 => ?_
        exact bs_zret rfl rfl (by omega) (by omega) (by rw [hQ]; exact ⟨thp6, Hhp6, Fhp6, bs_an0, sf_S_cons (sf_s1 (x := z7.toInt) rfl (by omega) (by omega)) (sf_S_nil), (fun x y nm q B n lim i ha hN hR hK => by
                cases ha
                obtain ⟨q1, rq1, X1⟩ := xhp2 _ _ nm q B n lim i rfl hN hR hK
                obtain rfl := Value.int.inj (Option.some.inj rq1)
                obtain ⟨Y0, Y1, Y2, Y3, Y4⟩ := X1.resolve_right (fun h => absurd h.1 (by omega))
                have K2 := (RK_next Hhp2 fhp6 rfl rfl rfl xhp6 Y4).1
                exact ⟨z7, rfl, Or.inl ⟨by omega, Y1, Y2, ((fhp6.2.2.1 _ (bs_R.uq Hhp2 (g := 11) (p := 69) rfl).1 _ (by rw [(bs_R.uq Hhp2 (g := 11) (p := 69) rfl).2]; rfl))).trans Y3, K2⟩⟩)⟩)
      · skip
        have c8 : z3.toInt = 0 := by omega
        refine bs_lit (k := 0) rfl rfl fun z9 hz9 => ?_
        exact bs_zret rfl rfl (by omega) (by omega) (by rw [hQ]; exact ⟨thp2, Hhp2, Fhp2, bs_an0, sf_S_cons (sf_s1 (x := z9.toInt) rfl (by omega) (by omega)) (sf_S_nil), (fun x y nm q B n lim i ha hN hR hK => by
                cases ha
                obtain ⟨q1, rq1, X1⟩ := xhp2 _ _ nm q B n lim i rfl hN hR hK
                obtain rfl := Value.int.inj (Option.some.inj rq1)
                obtain ⟨Y0, Y1, Y2⟩ := X1.resolve_left (fun h => absurd h.1 (by omega))
                exact ⟨z9, rfl, Or.inr ⟨by omega, Y1, Y2⟩⟩)⟩)
end
