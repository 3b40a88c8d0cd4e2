-- 63.b28.read.lean.txt
section
def ups {α : Type} (f : Nat → α) (i : Nat) (x : α) : Nat → α := fun j => if j = i then x else f j
theorem ups_eq {α : Type} {f : Nat → α} {i : Nat} {x : α} : ups f i x i = x := if_pos rfl
theorem ups_ne {α : Type} {f : Nat → α} {i j : Nat} {x : α} (h : j ≠ i) : ups f i x j = f j := if_neg h
abbrev PS : Type := (Nat → Int) × (Nat → Int) × Bool × (Nat → Bool)
def PS.h (s : PS) : Nat → Int := s.1
def PS.nm (s : PS) : Nat → Int := s.2.1
def PS.ld (s : PS) : Bool := s.2.2.1
def PS.tl (s : PS) : Nat → Bool := s.2.2.2
abbrev LR : Type := (PS × Nat) ⊕ (Int × Nat)
abbrev LR.ok (s : PS) (i : Nat) : LR := Sum.inl (s, i)
abbrev LR.bad (f : Int) (i : Nat) : LR := Sum.inr (f, i)
def fndf (nm : Nat → Int) (o : Nat) (v : Int) : Nat → Nat → Int
  | 0, _ => -1
  | f + 1, k => if nm (o + k) = v then (k : Int) else fndf nm o v f (k + 1)
def fnd (nm : Nat → Int) (o : Nat) (n v : Int) : Int := fndf nm o v n.toNat 0
def lnum (T : Nat → TT) (j : Nat) (lo hi : Int) (k : Int → LR) : LR := if (T j).k ≠ 3 then LR.bad 1 j else if (T j).v < lo ∨ hi < (T j).v then LR.bad 2 j else k (T j).v
def lnLoad (T : Nat → TT) (s : PS) (i : Nat) : LR := if s.ld = true then LR.bad 3 i else lnum T (i + 1) 1 40 fun v => LR.ok (ups s.h 2 v, s.nm, true, s.tl) (i + 2)
def lnew (T : Nat → TT) (s : PS) (j : Nat) (k : Int → LR) : LR := if (T j).k ≠ 2 then LR.bad 1 j else if 0 ≤ fnd s.nm 0 (s.h 0) (T j).v ∨ 0 ≤ fnd s.nm 6 (s.h 1) (T j).v then LR.bad 3 j else k (T j).v
def lnGood (T : Nat → TT) (s : PS) (i : Nat) : LR := if 6 ≤ s.h 0 then LR.bad 4 i else lnew T s (i + 1) fun v => LR.ok (ups s.h 0 (s.h 0 + 1), ups s.nm (s.h 0).toNat v, s.ld, s.tl) (i + 2)
def lnMan (T : Nat → TT) (s : PS) (i : Nat) : LR := if 8 ≤ s.h 1 then LR.bad 4 i else lnew T s (i + 1) fun v => lnum T (i + 2) 0 1 fun d => LR.ok (ups (ups s.h (52 + (s.h 1).toNat) d) 1 (s.h 1 + 1), ups s.nm (6 + (s.h 1).toNat) v, s.ld, s.tl) (i + 3)
def lold (T : Nat → TT) (s : PS) (o : Nat) (n : Int) (j : Nat) (k : Int → LR) : LR := if (T j).k ≠ 2 then LR.bad 1 j else if fnd s.nm o n (T j).v < 0 then LR.bad 3 j else k (fnd s.nm o n (T j).v)
def mtold (h : Nat → Int) (m o : Int) : Nat → Bool
  | 0 => false
  | k + 1 => mtold h m o k || (decide (h (60 + k) = m) && decide (h (80 + k) = o))
def lnMiss (T : Nat → TT) (s : PS) (i : Nat) : LR := if 20 ≤ s.h 3 then LR.bad 4 i else lold T s 6 (s.h 1) (i + 1) fun m => lold T s 6 (s.h 1) (i + 2) fun q => if m = q ∨ mtold s.h m q (s.h 3).toNat = true then LR.bad 3 (i + 2) else lnum T (i + 3) 0 60 fun d => LR.ok (ups (ups (ups (ups s.h (60 + (s.h 3).toNat) m) (80 + (s.h 3).toNat) q) (100 + (s.h 3).toNat) d) 3 (s.h 3 + 1), s.nm, s.ld, s.tl) (i + 4)
def lnAmt (T : Nat → TT) (s : PS) (i so : Nat) : LR := lold T s 0 (s.h 0) (i + 1) fun g => lnum T (i + 2) 0 1 fun d => if s.tl (12 * so + (2 * g + d).toNat) = true then LR.bad 3 (i + 2) else lnum T (i + 3) 0 (if so = 2 ∨ so = 3 then 20 else 250) fun a => LR.ok (ups s.h (4 + (12 * so + (2 * g + d).toNat)) a, s.nm, s.ld, ups s.tl (12 * so + (2 * g + d).toNat) true) (i + 4)
def lnx (T : Nat → TT) (s : PS) (i : Nat) : LR := if (T i).k = 64 then lnLoad T s i else if (T i).k = 65 then lnGood T s i else if (T i).k = 70 then lnMan T s i else if (T i).k = 71 then lnMiss T s i else if 66 ≤ (T i).k ∧ (T i).k ≤ 69 then lnAmt T s i ((T i).k - 66).toNat else LR.bad 1 i
def s0 : PS := (fun i => if i = 2 then 10 else 0, fun _ => 0, false, fun _ => false)
def lnj (T : Nat → TT) (x : LR) : Option (PS × Nat) := match x with
  | .inr _ => none
  | .inl (s', j) => if (T j).k = 59 then some (s', j + 1) else none
def nxt (T : Nat → TT) (x : Option (PS × Nat)) : Option (PS × Nat) := match x with
  | none => none
  | some (s, i) => if (T i).k = 0 then none else lnj T (lnx T s i)
def lns (T : Nat → TT) : Nat → Option (PS × Nat)
  | 0 => some (s0, 0)
  | n + 1 => nxt T (lns T n)
def stj (T : Nat → TT) (x : LR) : Option (Int × Int) := match x with
  | .inr (f, j) => some (-1 - (T j).pl, f)
  | .inl (_, j) => if (T j).k = 59 then none else some (-1 - (T j).pl, 1)
def stp (T : Nat → TT) (n : Nat) (s : PS) (i : Nat) : Option (Int × Int) := if (T i).k = 0 then some ((n : Int), 0) else stj T (lnx T s i)
def ANS (T : Nat → TT) (a f : Int) (s : PS) : Prop := ∃ n i, lns T n = some (s, i) ∧ stp T n s i = some (a, f)
theorem lns_stop {T : Nat → TT} {n i : Nat} {s : PS} {x : Int × Int} (h : lns T n = some (s, i)) (hs : stp T n s i = some x) : ∀ d, lns T (n + 1 + d) = none
  | 0 => by
    show nxt T (lns T n) = none
    rw [h]
    show (if (T i).k = 0 then none else lnj T (lnx T s i)) = none
    unfold stp at hs
    by_cases c : (T i).k = 0
    · rw [if_pos c]
    · rw [if_neg c] at hs ⊢
      cases hl : lnx T s i with
      | inr p => rfl
      | inl p =>
        obtain ⟨s', j⟩ := p
        rw [hl] at hs
        have hs' : (if (T j).k = 59 then none else some (-1 - (T j).pl, (1 : Int))) = some x := hs
        by_cases c2 : (T j).k = 59
        · rw [if_pos c2] at hs'
          cases hs'
        · show (if (T j).k = 59 then some (s', j + 1) else none) = none
          rw [if_neg c2]
  | d + 1 => by
    have ih := lns_stop h hs d
    show nxt T (lns T (n + 1 + d)) = none
    rw [ih]
    rfl
theorem ANS_one {T : Nat → TT} {a a' f f' : Int} {s s' : PS} (h : ANS T a f s) (h' : ANS T a' f' s') : a = a' ∧ f = f' ∧ s = s' := by
  obtain ⟨n, i, h1, h2⟩ := h
  obtain ⟨n', i', h1', h2'⟩ := h'
  have e : n = n' := by
    rcases (show n = n' ∨ n < n' ∨ n' < n by omega) with c | c | c
    · exact c
    · have := lns_stop h1 h2 (n' - (n + 1))
      rw [show n + 1 + (n' - (n + 1)) = n' by omega, h1'] at this
      cases this
    · have := lns_stop h1' h2' (n - (n' + 1))
      rw [show n' + 1 + (n - (n' + 1)) = n by omega, h1] at this
      cases this
  subst e
  rw [h1] at h1'
  cases h1'
  rw [h2] at h2'
  cases h2'
  exact ⟨rfl, rfl, rfl⟩
theorem lns_next {T : Nat → TT} {n i j : Nat} {s s' : PS} (h : lns T n = some (s, i)) (h0 : (T i).k ≠ 0) (hl : lnx T s i = LR.ok s' j) (h9 : (T j).k = 59) : lns T (n + 1) = some (s', j + 1) := by
  show nxt T (lns T n) = _
  rw [h]
  show (if (T i).k = 0 then none else lnj T (lnx T s i)) = _
  rw [if_neg h0, hl]
  show (if (T j).k = 59 then some (s', j + 1) else none) = _
  rw [if_pos h9]
theorem fndf_spec {nm : Nat → Int} {o : Nat} {v : Int} : ∀ f k, (fndf nm o v f k = -1 ∧ ∀ j, k ≤ j → j < k + f → nm (o + j) ≠ v) ∨ (∃ j : Nat, fndf nm o v f k = (j : Int) ∧ k ≤ j ∧ j < k + f ∧ nm (o + j) = v ∧ ∀ q, k ≤ q → q < j → nm (o + q) ≠ v)
  | 0, k => Or.inl ⟨rfl, fun j h1 h2 => absurd h2 (by omega)⟩
  | f + 1, k => by
    by_cases c : nm (o + k) = v
    · exact Or.inr ⟨k, if_pos c, Nat.le_refl k, by omega, c, fun q h1 h2 => absurd h2 (by omega)⟩
    · have e : fndf nm o v (f + 1) k = fndf nm o v f (k + 1) := if_neg c
      rw [e]
      rcases fndf_spec f (k + 1) with ⟨h1, h2⟩ | ⟨j, h1, h2, h3, h4, h5⟩
      · refine Or.inl ⟨h1, fun j h3 h4 => ?_⟩
        rcases (show j = k ∨ k + 1 ≤ j by omega) with g | g
        · rw [g]; exact c
        · exact h2 j g (by omega)
      · refine Or.inr ⟨j, h1, by omega, by omega, h4, fun q h6 h7 => ?_⟩
        rcases (show q = k ∨ k + 1 ≤ q by omega) with g | g
        · rw [g]; exact c
        · exact h5 q g h7
theorem fnd_is {nm : Nat → Int} {o : Nat} {n v z : Int} (h : (z = -1 ∧ ∀ j : Nat, (j : Int) < n → nm (o + j) ≠ v) ∨ (0 ≤ z ∧ z < n ∧ nm (o + z.toNat) = v ∧ ∀ j : Nat, (j : Int) < z → nm (o + j) ≠ v)) : fnd nm o n v = z := by
  unfold fnd
  rcases fndf_spec (nm := nm) (o := o) (v := v) n.toNat 0 with ⟨h1, h2⟩ | ⟨j, h1, h2, h3, h4, h5⟩
  · rw [h1]
    rcases h with h | ⟨a, b, c, d⟩
    · exact h.1.symm
    · exact absurd c (h2 z.toNat (by omega) (by omega))
  · rw [h1]
    rcases h with h | ⟨a, b, c, d⟩
    · exact absurd h4 (h.2 j (by omega))
    · rcases (show (j : Int) < z ∨ (j : Int) = z ∨ z < (j : Int) by omega) with g | g | g
      · exact absurd h4 (d j g)
      · exact g
      · exact absurd c (h5 z.toNat (by omega) (by omega))
theorem fnd_lt {nm : Nat → Int} {o : Nat} {n v : Int} : fnd nm o n v = -1 ∨ (0 ≤ fnd nm o n v ∧ fnd nm o n v < n) := by
  unfold fnd
  rcases fndf_spec (nm := nm) (o := o) (v := v) n.toNat 0 with ⟨h1, h2⟩ | ⟨j, h1, h2, h3, h4, h5⟩
  · exact Or.inl h1
  · exact Or.inr ⟨by omega, by omega⟩
theorem mtold_iff {h : Nat → Int} {m q : Int} : ∀ k : Nat, mtold h m q k = true ↔ ∃ j, j < k ∧ h (60 + j) = m ∧ h (80 + j) = q
  | 0 => ⟨fun e => absurd (show false = true from e) (by decide), fun ⟨j, hj, _⟩ => absurd hj (by omega)⟩
  | k + 1 => by
    have ih := mtold_iff (h := h) (m := m) (q := q) k
    show (mtold h m q k || (decide (h (60 + k) = m) && decide (h (80 + k) = q))) = true ↔ _
    rw [Bool.or_eq_true, ih, Bool.and_eq_true, decide_eq_true_eq, decide_eq_true_eq]
    constructor
    · rintro (⟨j, a, b, c⟩ | ⟨b, c⟩)
      · exact ⟨j, by omega, b, c⟩
      · exact ⟨k, by omega, b, c⟩
    · rintro ⟨j, a, b, c⟩
      rcases (show j < k ∨ j = k by omega) with g | g
      · exact Or.inl ⟨j, g, b, c⟩
      · subst g
        exact Or.inr ⟨b, c⟩
abbrev CK (hp : ab_H) (B : Nat → Int) (n lim m i : Nat) : Prop := TKS hp B n lim m ∧ sf_rd hp 3 4 = some (i : Int) ∧ i ≤ m
def CURn (hp : ab_H) (T : TT) : Prop := ∃ w, sf_rl hp 3 8 = some w ∧ w.toInt = c32 7 T.v
abbrev CUR (hp : ab_H) (T : TT) : Prop := sf_rd hp 3 5 = some T.k ∧ sf_rd hp 3 6 = some T.pl ∧ (T.k = 3 → sf_rd hp 3 7 = some T.v) ∧ (T.k = 2 → CURn hp T)
theorem CURn_i {hp : ab_H} {T : TT} {w : Int64} (h : sf_rl hp 3 8 = some w) (h2 : w.toInt = c32 7 T.v) : CURn hp T := Exists.intro w ⟨h, h2⟩
theorem tok_nok (B : Nat → Int) (n lim i : Nat) : (tok B n lim i).k = 3 → 0 ≤ (tok B n lim i).v ∧ (tok B n lim i).v ≤ 999 := by
  show (tkq B n lim _).k = 3 → 0 ≤ (tkq B n lim _).v ∧ (tkq B n lim _).v ≤ 999
  generalize tk_e tk_b B n (tps B n lim i) = q
  unfold tkq
  split
  · exact fun e => absurd e (by show (1 : Int) ≠ 3; decide)
  · split
    · exact fun e => absurd e (by show (0 : Int) ≠ 3; decide)
    · split
      · unfold trn
        split
        · intro e
          have := kw_rng (pv B q (tk_e tk_r B n q - q))
          have e' : kw (pv B q (tk_e tk_r B n q - q)) = 3 := e
          omega
        · split
          · next h =>
            intro _
            have := nb_rng h.1 h.2
            exact ⟨this.1, this.2.1⟩
          · exact fun e => absurd e (by show (1 : Int) ≠ 3; decide)
      · exact fun e => absurd e (tsg_ne _).1
theorem CK_more {hp : ab_H} {B : Nat → Int} {n lim m j : Nat} (h : TKS hp B n lim m) (hj : j < m) (h0 : (tok B n lim j).k ≠ 0) (h1 : (tok B n lim j).k ≠ 1) : j + 1 < m := by
  obtain ⟨a, b, c, d, e, f⟩ := h
  rcases (show j = m - 1 ∨ j + 1 < m by omega) with g | g
  · rw [← g] at f
    rcases f with f | f
    · exact absurd f h0
    · exact absurd f h1
  · exact g
theorem TKS_cells {hp hp' : ab_H} {B : Nat → Int} {n lim m : Nat} (h : TKS hp B n lim m) (e4 : hp'.2 4 = hp.2 4) (e5 : hp'.2 5 = hp.2 5) (e6 : hp'.2 6 = hp.2 6) (e3 : sf_rd hp' 3 3 = sf_rd hp 3 3) : TKS hp' B n lim m := by
  obtain ⟨a, b, c, d, e, f⟩ := h
  refine ⟨a, b, e3.trans c, fun j hj => ?_, e, f⟩
  obtain ⟨d1, d2, w, d3, d4⟩ := d j hj
  exact ⟨(sf_rd_cell e4).trans d1, (sf_rd_cell e5).trans d2, w, (sf_rl_cell e6).trans d3, d4⟩
theorem TKS_fr {W : List (Nat × Nat × Nat)} {t t' : Nat → Nat} {hp hp' : ab_H} {B : Nat → Int} {n lim m : Nat} (H : sf_h t hp) (h : TKS hp B n lim m) (f : sf_fr W t hp t' hp') (h4 : W.all (fun w => decide (w.1 ≠ 124)) = true) (h5 : W.all (fun w => decide (w.1 ≠ 125)) = true) (h6 : W.all (fun w => decide (w.1 ≠ 126)) = true) (h3 : sf_inW W 9 3 = false) : TKS hp' B n lim m := by
  have r9 : bs_R t hp 3 9 := bs_R.uq H rfl
  have r4 : bs_R t hp 4 124 := bs_R.uq H rfl
  have r5 : bs_R t hp 5 125 := bs_R.uq H rfl
  have r6 : bs_R t hp 6 126 := bs_R.uq H rfl
  exact TKS_cells h (f.2.2.2.1 _ r4.1 (by rw [r4.2]; exact h4)) (f.2.2.2.1 _ r5.1 (by rw [r5.2]; exact h5)) (f.2.2.2.1 _ r6.1 (by rw [r6.2]; exact h6)) (f.2.2.1 _ r9.1 _ (by rw [r9.2]; exact h3))
def rrD (hp : ab_H) (a k : Nat) : Nat := (sf_rr hp a k).getD 0
theorem rrD_of {hp : ab_H} {a k b : Nat} (h : sf_rr hp a k = some b) : rrD hp a k = b := by
  unfold rrD
  rw [h]
  rfl
def lb (A : Int64) (i : Nat) : Bool := A.toBitVec.getLsbD i
abbrev SC (hp : ab_H) (a : Nat) (s : PS) : Prop := (sf_rd hp a 7 = some (s.h 2)) ∧ (sf_rd hp a 8 = some (s.h 0)) ∧ (sf_rd hp a 9 = some (s.h 1)) ∧ (sf_rd hp a 10 = some (s.h 3)) ∧ (sf_rd hp a 11 = some (cond s.ld 1 0)) ∧ (∃ A, sf_rl hp a 12 = some A ∧ ∀ i, i < 48 → lb A i = s.tl i) ∧ (∀ g : Nat, (g : Int) < s.h 0 → ∃ w, sf_rl hp (rrD hp a 0) g = some w ∧ w.toInt = c32 7 (s.nm g)) ∧ (∀ g : Nat, (g : Int) < s.h 1 → ∃ w, sf_rl hp (rrD hp a 1) g = some w ∧ w.toInt = c32 7 (s.nm (6 + g))) ∧ (∀ g : Nat, (g : Int) < s.h 1 → sf_rd hp (rrD hp a 2) g = some (s.h (52 + g))) ∧ (∀ i : Nat, i < 48 → sf_rd hp (rrD hp a 3) i = some (s.h (4 + i))) ∧ (∀ k : Nat, (k : Int) < s.h 3 → sf_rd hp (rrD hp a 4) k = some (s.h (60 + k))) ∧ (∀ k : Nat, (k : Int) < s.h 3 → sf_rd hp (rrD hp a 5) k = some (s.h (80 + k))) ∧ (∀ k : Nat, (k : Int) < s.h 3 → sf_rd hp (rrD hp a 6) k = some (s.h (100 + k))) ∧ (∀ g : Nat, (g : Int) < s.h 0 → LW 7 (s.nm g)) ∧ (∀ g : Nat, (g : Int) < s.h 1 → LW 7 (s.nm (6 + g)))
theorem SC.load {hp : ab_H} {a : Nat} {s : PS} (h : SC hp a s) : sf_rd hp a 7 = some (s.h 2) := h.1
theorem SC.goods {hp : ab_H} {a : Nat} {s : PS} (h : SC hp a s) : sf_rd hp a 8 = some (s.h 0) := h.2.1
theorem SC.men {hp : ab_H} {a : Nat} {s : PS} (h : SC hp a s) : sf_rd hp a 9 = some (s.h 1) := h.2.2.1
theorem SC.miss {hp : ab_H} {a : Nat} {s : PS} (h : SC hp a s) : sf_rd hp a 10 = some (s.h 3) := h.2.2.2.1
theorem SC.ld {hp : ab_H} {a : Nat} {s : PS} (h : SC hp a s) : sf_rd hp a 11 = some (cond s.ld 1 0) := h.2.2.2.2.1
theorem SC.tl {hp : ab_H} {a : Nat} {s : PS} (h : SC hp a s) : ∃ A, sf_rl hp a 12 = some A ∧ ∀ i, i < 48 → lb A i = s.tl i := h.2.2.2.2.2.1
theorem SC.gn {hp : ab_H} {a : Nat} {s : PS} (h : SC hp a s) : ∀ g : Nat, (g : Int) < s.h 0 → ∃ w, sf_rl hp (rrD hp a 0) g = some w ∧ w.toInt = c32 7 (s.nm g) := h.2.2.2.2.2.2.1
theorem SC.mn {hp : ab_H} {a : Nat} {s : PS} (h : SC hp a s) : ∀ g : Nat, (g : Int) < s.h 1 → ∃ w, sf_rl hp (rrD hp a 1) g = some w ∧ w.toInt = c32 7 (s.nm (6 + g)) := h.2.2.2.2.2.2.2.1
theorem SC.fs {hp : ab_H} {a : Nat} {s : PS} (h : SC hp a s) : ∀ g : Nat, (g : Int) < s.h 1 → sf_rd hp (rrD hp a 2) g = some (s.h (52 + g)) := h.2.2.2.2.2.2.2.2.1
theorem SC.am {hp : ab_H} {a : Nat} {s : PS} (h : SC hp a s) : ∀ i : Nat, i < 48 → sf_rd hp (rrD hp a 3) i = some (s.h (4 + i)) := h.2.2.2.2.2.2.2.2.2.1
theorem SC.m4 {hp : ab_H} {a : Nat} {s : PS} (h : SC hp a s) : ∀ k : Nat, (k : Int) < s.h 3 → sf_rd hp (rrD hp a 4) k = some (s.h (60 + k)) := h.2.2.2.2.2.2.2.2.2.2.1
theorem SC.m5 {hp : ab_H} {a : Nat} {s : PS} (h : SC hp a s) : ∀ k : Nat, (k : Int) < s.h 3 → sf_rd hp (rrD hp a 5) k = some (s.h (80 + k)) := h.2.2.2.2.2.2.2.2.2.2.2.1
theorem SC.m6 {hp : ab_H} {a : Nat} {s : PS} (h : SC hp a s) : ∀ k : Nat, (k : Int) < s.h 3 → sf_rd hp (rrD hp a 6) k = some (s.h (100 + k)) := h.2.2.2.2.2.2.2.2.2.2.2.2.1
theorem SC.lg {hp : ab_H} {a : Nat} {s : PS} (h : SC hp a s) : ∀ g : Nat, (g : Int) < s.h 0 → LW 7 (s.nm g) := h.2.2.2.2.2.2.2.2.2.2.2.2.2.1
theorem SC.lm {hp : ab_H} {a : Nat} {s : PS} (h : SC hp a s) : ∀ g : Nat, (g : Int) < s.h 1 → LW 7 (s.nm (6 + g)) := h.2.2.2.2.2.2.2.2.2.2.2.2.2.2
theorem rr_sort {t : Nat → Nat} {hp : ab_H} {a : Nat} (H : sf_h t hp) (hR : bs_R t hp a 7) {k g : Nat} (hk : (sf_C 7)[k]? = some (1, (g : Int), 0)) : bs_R t hp (rrD hp a k) g ∧ sf_rr hp a k = some (rrD hp a k) := by
  obtain ⟨fs, v, e1, e2, e3⟩ := sf_get H hR.1 hR.2 (by decide) hk
  cases v with
  | int z => exact absurd e3.1 (by show (1 : Nat) ≠ 0; decide)
  | ref b =>
    have e : sf_rr hp a k = some b := by
      unfold sf_rr
      rw [e1]
      dsimp only
      rw [e2]
    rw [rrD_of e]
    exact ⟨⟨e3.2.1, by have : (t b : Int) = (g : Int) := e3.2.2; omega⟩, e⟩
  | null => exact absurd e3.2 (by show (0 : Int) ≠ 1; decide)
  | long b => exact absurd e3 (by show (1 : Nat) ≠ 2; decide)
  | _ => exact e3.elim
theorem SC_cells {hp hp' : ab_H} {a : Nat} {s : PS} (h : SC hp a s) (ea : hp'.2 a = hp.2 a) (e : ∀ k, k < 7 → hp'.2 (rrD hp a k) = hp.2 (rrD hp a k)) : SC hp' a s := by
  have er : ∀ k, rrD hp' a k = rrD hp a k := fun k => by
    unfold rrD
    rw [sf_rr_cell ea]
  obtain ⟨A, hA, hB⟩ := h.tl
  exact ⟨(sf_rd_cell ea).trans h.load, (sf_rd_cell ea).trans h.goods, (sf_rd_cell ea).trans h.men, (sf_rd_cell ea).trans h.miss, (sf_rd_cell ea).trans h.ld, ⟨A, (sf_rl_cell ea).trans hA, hB⟩, fun g hg => by rw [er, sf_rl_cell (e 0 (by decide))]; exact h.gn g hg, fun g hg => by rw [er, sf_rl_cell (e 1 (by decide))]; exact h.mn g hg, fun g hg => by rw [er, sf_rd_cell (e 2 (by decide))]; exact h.fs g hg, fun g hg => by rw [er, sf_rd_cell (e 3 (by decide))]; exact h.am g hg, fun g hg => by rw [er, sf_rd_cell (e 4 (by decide))]; exact h.m4 g hg, fun g hg => by rw [er, sf_rd_cell (e 5 (by decide))]; exact h.m5 g hg, fun g hg => by rw [er, sf_rd_cell (e 6 (by decide))]; exact h.m6 g hg, h.lg, h.lm⟩
theorem SC_fr {W : List (Nat × Nat × Nat)} {t t' : Nat → Nat} {hp hp' : ab_H} {a : Nat} {s : PS} (H : sf_h t hp) (hR : bs_R t hp a 7) (h : SC hp a s) (f : sf_fr W t hp t' hp') (h7 : W.all (fun w => decide (w.1 ≠ 7)) = true) (hw : W.all (fun w => decide (w.1 < 116 ∨ 122 < w.1)) = true) : SC hp' a s := by
  refine SC_cells h (f.2.2.2.1 _ hR.1 (by rw [hR.2]; exact h7)) fun k hk => ?_
  have hs : ∃ g, bs_R t hp (rrD hp a k) g ∧ 116 ≤ g ∧ g ≤ 122 := by
    match k, hk with
    | 0, _ => exact ⟨116, (rr_sort H hR rfl).1, by decide, by decide⟩
    | 1, _ => exact ⟨117, (rr_sort H hR rfl).1, by decide, by decide⟩
    | 2, _ => exact ⟨118, (rr_sort H hR rfl).1, by decide, by decide⟩
    | 3, _ => exact ⟨119, (rr_sort H hR rfl).1, by decide, by decide⟩
    | 4, _ => exact ⟨120, (rr_sort H hR rfl).1, by decide, by decide⟩
    | 5, _ => exact ⟨121, (rr_sort H hR rfl).1, by decide, by decide⟩
    | 6, _ => exact ⟨122, (rr_sort H hR rfl).1, by decide, by decide⟩
    | k + 7, h => exact absurd h (by omega)
  obtain ⟨g, r, g1, g2⟩ := hs
  refine f.2.2.2.1 _ r.1 ?_
  rw [r.2]
  rw [List.all_eq_true] at hw ⊢
  intro x hx
  have := of_decide_eq_true (hw x hx)
  exact decide_eq_true (by omega)
def LRES (hp : ab_H) (a : Nat) (B : Nat → Int) (n lim m : Nat) (r : Option Value) (x : LR) : Prop := match x with
  | .inl (s, j) => (∃ z : Int32, r = some (.int z) ∧ z.toInt = 1) ∧ SC hp a s ∧ CK hp B n lim m j ∧ sf_rd hp 3 9 = some 0 ∧ j < m
  | .inr (f, j) => (∃ z : Int32, r = some (.int z) ∧ z.toInt = 0) ∧ sf_rd hp 3 9 = some f ∧ sf_rd hp 3 6 = some (tok B n lim j).pl
theorem LRES_bad {hp : ab_H} {a : Nat} {B : Nat → Int} {n lim m j : Nat} {r : Option Value} {f : Int} (h1 : ∃ z : Int32, r = some (.int z) ∧ z.toInt = 0) (h2 : sf_rd hp 3 9 = some f) (h3 : sf_rd hp 3 6 = some (tok B n lim j).pl) : LRES hp a B n lim m r (LR.bad f j) := ⟨h1, h2, h3⟩
theorem LRES_ok {hp : ab_H} {a : Nat} {B : Nat → Int} {n lim m j : Nat} {r : Option Value} {s : PS} (h1 : ∃ z : Int32, r = some (.int z) ∧ z.toInt = 1) (h2 : SC hp a s) (h3 : CK hp B n lim m j) (h4 : sf_rd hp 3 9 = some 0) (h5 : j < m) : LRES hp a B n lim m r (LR.ok s j) := ⟨h1, h2, h3, h4, h5⟩
theorem LRES_pos {hp : ab_H} {a : Nat} {B : Nat → Int} {n lim m : Nat} {z : Int32} {x : LR} (h : LRES hp a B n lim m (some (.int z)) x) (hz : z.toInt ≠ 0) : ∃ s j, x = LR.ok s j ∧ SC hp a s ∧ CK hp B n lim m j ∧ sf_rd hp 3 9 = some 0 ∧ j < m := by
  cases x with
  | inl p => exact ⟨p.1, p.2, rfl, h.2⟩
  | inr p =>
    obtain ⟨y, e, e2⟩ := h.1
    obtain rfl := Value.int.inj (Option.some.inj e)
    exact absurd e2 hz
theorem LRES_neg {hp : ab_H} {a : Nat} {B : Nat → Int} {n lim m : Nat} {z : Int32} {x : LR} (h : LRES hp a B n lim m (some (.int z)) x) (hz : z.toInt ≠ 1) : ∃ f j, x = LR.bad f j ∧ sf_rd hp 3 9 = some f ∧ sf_rd hp 3 6 = some (tok B n lim j).pl := by
  cases x with
  | inl p =>
    obtain ⟨y, e, e2⟩ := h.1
    obtain rfl := Value.int.inj (Option.some.inj e)
    exact absurd e2 hz
  | inr p => exact ⟨p.1, p.2, rfl, h.2⟩
def LOK (i : Nat) (x : LR) : Prop := match x with
  | .inl (_, j) => i + 2 ≤ j
  | .inr (f, _) => 1 ≤ f
theorem LOK_num {T : Nat → TT} {i j : Nat} {lo hi : Int} {k : Int → LR} (h : ∀ v, LOK i (k v)) : LOK i (lnum T j lo hi k) := by
  unfold lnum
  split
  · show (1 : Int) ≤ 1
    decide
  · split
    · show (1 : Int) ≤ 2
      decide
    · exact h _
theorem LOK_new {T : Nat → TT} {s : PS} {i j : Nat} {k : Int → LR} (h : ∀ v, LOK i (k v)) : LOK i (lnew T s j k) := by
  unfold lnew
  split
  · show (1 : Int) ≤ 1
    decide
  · split
    · show (1 : Int) ≤ 3
      decide
    · exact h _
theorem LOK_old {T : Nat → TT} {s : PS} {o i j : Nat} {n : Int} {k : Int → LR} (h : ∀ v, LOK i (k v)) : LOK i (lold T s o n j k) := by
  unfold lold
  split
  · show (1 : Int) ≤ 1
    decide
  · split
    · show (1 : Int) ≤ 3
      decide
    · exact h _
theorem LOK_o {i j : Nat} {s : PS} (h : i + 2 ≤ j) : LOK i (LR.ok s j) := h
theorem LOK_b {i j : Nat} {f : Int} (h : 1 ≤ f) : LOK i (LR.bad f j) := h
theorem lnx_ok (T : Nat → TT) (s : PS) (i : Nat) : LOK i (lnx T s i) := by
  unfold lnx
  split
  · unfold lnLoad
    split
    · exact LOK_b (by decide)
    · exact LOK_num fun v => LOK_o (by omega)
  · split
    · unfold lnGood
      split
      · exact LOK_b (by decide)
      · exact LOK_new fun v => LOK_o (by omega)
    · split
      · unfold lnMan
        split
        · exact LOK_b (by decide)
        · exact LOK_new fun v => LOK_num fun d => LOK_o (by omega)
      · split
        · unfold lnMiss
          split
          · exact LOK_b (by decide)
          · refine LOK_old fun v => LOK_old fun q => ?_
            split
            · exact LOK_b (by decide)
            · exact LOK_num fun d => LOK_o (by omega)
        · split
          · unfold lnAmt
            refine LOK_old fun v => LOK_num fun q => ?_
            split
            · exact LOK_b (by decide)
            · exact LOK_num fun d => LOK_o (by omega)
          · exact LOK_b (by decide)
theorem stp_end {T : Nat → TT} {n i : Nat} {s : PS} (h : (T i).k = 0) : stp T n s i = some ((n : Int), 0) := if_pos h
theorem stp_bad {T : Nat → TT} {n i j : Nat} {s : PS} {f : Int} (h : (T i).k ≠ 0) (hl : lnx T s i = LR.bad f j) : stp T n s i = some (-1 - (T j).pl, f) := by
  unfold stp
  rw [if_neg h, hl]
  rfl
theorem stp_sign {T : Nat → TT} {n i j : Nat} {s s' : PS} (h : (T i).k ≠ 0) (hl : lnx T s i = LR.ok s' j) (h9 : (T j).k ≠ 59) : stp T n s i = some (-1 - (T j).pl, 1) := by
  unfold stp
  rw [if_neg h, hl]
  exact if_neg h9
theorem lnum_1 {T : Nat → TT} {j : Nat} {lo hi : Int} {k : Int → LR} (h : (T j).k ≠ 3) : lnum T j lo hi k = LR.bad 1 j := if_pos h
theorem lnum_2 {T : Nat → TT} {j : Nat} {lo hi : Int} {k : Int → LR} (h : (T j).k = 3) (h2 : (T j).v < lo ∨ hi < (T j).v) : lnum T j lo hi k = LR.bad 2 j := (if_neg (fun e => e h)).trans (if_pos h2)
theorem lnum_o {T : Nat → TT} {j : Nat} {lo hi : Int} {k : Int → LR} (h : (T j).k = 3) (h2 : lo ≤ (T j).v) (h3 : (T j).v ≤ hi) : lnum T j lo hi k = k (T j).v := (if_neg (fun e => e h)).trans (if_neg (by omega))
theorem lnew_1 {T : Nat → TT} {s : PS} {j : Nat} {k : Int → LR} (h : (T j).k ≠ 2) : lnew T s j k = LR.bad 1 j := if_pos h
theorem lnew_3 {T : Nat → TT} {s : PS} {j : Nat} {k : Int → LR} (h : (T j).k = 2) (h2 : 0 ≤ fnd s.nm 0 (s.h 0) (T j).v ∨ 0 ≤ fnd s.nm 6 (s.h 1) (T j).v) : lnew T s j k = LR.bad 3 j := (if_neg (fun e => e h)).trans (if_pos h2)
theorem lnew_o {T : Nat → TT} {s : PS} {j : Nat} {k : Int → LR} (h : (T j).k = 2) (h2 : ¬ (0 ≤ fnd s.nm 0 (s.h 0) (T j).v ∨ 0 ≤ fnd s.nm 6 (s.h 1) (T j).v)) : lnew T s j k = k (T j).v := (if_neg (fun e => e h)).trans (if_neg h2)
theorem lold_1 {T : Nat → TT} {s : PS} {o j : Nat} {n : Int} {k : Int → LR} (h : (T j).k ≠ 2) : lold T s o n j k = LR.bad 1 j := if_pos h
theorem lold_3 {T : Nat → TT} {s : PS} {o j : Nat} {n : Int} {k : Int → LR} (h : (T j).k = 2) (h2 : fnd s.nm o n (T j).v < 0) : lold T s o n j k = LR.bad 3 j := (if_neg (fun e => e h)).trans (if_pos h2)
theorem lold_o {T : Nat → TT} {s : PS} {o j : Nat} {n : Int} {k : Int → LR} (h : (T j).k = 2) (h2 : 0 ≤ fnd s.nm o n (T j).v) : lold T s o n j k = k (fnd s.nm o n (T j).v) := (if_neg (fun e => e h)).trans (if_neg (by omega))
theorem ups_or {f : Nat → Bool} {x i : Nat} : ups f x true i = (f i || decide (i = x)) := by
  unfold ups
  by_cases c : i = x
  · rw [if_pos c, decide_eq_true c, Bool.or_true]
  · rw [if_neg c, decide_eq_false c, Bool.or_false]
theorem lnx_load {T : Nat → TT} {s : PS} {i : Nat} (h : (T i).k = 64) : lnx T s i = lnLoad T s i := if_pos h
theorem lnx_good {T : Nat → TT} {s : PS} {i : Nat} (h : (T i).k = 65) : lnx T s i = lnGood T s i := by
  unfold lnx
  rw [if_neg (by omega), if_pos h]
theorem lnx_man {T : Nat → TT} {s : PS} {i : Nat} (h : (T i).k = 70) : lnx T s i = lnMan T s i := by
  unfold lnx
  rw [if_neg (by omega), if_neg (by omega), if_pos h]
theorem lnx_miss {T : Nat → TT} {s : PS} {i : Nat} (h : (T i).k = 71) : lnx T s i = lnMiss T s i := by
  unfold lnx
  rw [if_neg (by omega), if_neg (by omega), if_neg (by omega), if_pos h]
theorem lnx_amt {T : Nat → TT} {s : PS} {i : Nat} (h : 66 ≤ (T i).k ∧ (T i).k ≤ 69) : lnx T s i = lnAmt T s i ((T i).k - 66).toNat := by
  unfold lnx
  rw [if_neg (by omega), if_neg (by omega), if_neg (by omega), if_neg (by omega), if_pos h]
theorem lnx_bad {T : Nat → TT} {s : PS} {i : Nat} (h : (T i).k < 64 ∨ 71 < (T i).k) : lnx T s i = LR.bad 1 i := by
  unfold lnx
  rw [if_neg (by omega), if_neg (by omega), if_neg (by omega), if_neg (by omega), if_neg (by omega)]
theorem lb_or {A : Int64} {y : Int32} {i j : Nat} (hy : y.toInt = (i : Int)) (hi : i < 48) (hj : j < 48) : lb (A ||| ((1 : Int64) <<< (y.toInt64 &&& 63))) j = (lb A j || decide (j = i)) := by
  have e : y = Int32.ofNat i := Int32.toInt_inj.mp (by rw [hy, Int32.toInt_ofNat_of_lt (by omega)])
  have tab : ∀ i, i < 48 → ∀ j, j < 48 → ((1 : Int64) <<< ((Int32.ofNat i).toInt64 &&& 63)).toBitVec.getLsbD j = decide (j = i) := by decide +kernel
  unfold lb
  rw [Int64.toBitVec_or, BitVec.getLsbD_or, e, tab i hi j hj]
theorem lb_and {A : Int64} {y : Int32} {i : Nat} (hy : y.toInt = (i : Int)) (hi : i < 48) : (A &&& ((1 : Int64) <<< (y.toInt64 &&& 63))) = 0 ↔ lb A i = false := by
  have e : y = Int32.ofNat i := Int32.toInt_inj.mp (by rw [hy, Int32.toInt_ofNat_of_lt (by omega)])
  have tab : ∀ i, i < 48 → ∀ j, j < 64 → ((1 : Int64) <<< ((Int32.ofNat i).toInt64 &&& 63)).toBitVec.getLsbD j = decide (j = i) := by decide +kernel
  unfold lb
  constructor
  · intro h
    have h1 : (A &&& ((1 : Int64) <<< (y.toInt64 &&& 63))).toBitVec.getLsbD i = (0 : Int64).toBitVec.getLsbD i := by rw [h]
    rw [Int64.toBitVec_and, BitVec.getLsbD_and, e, tab i hi i (by omega), decide_eq_true rfl, Bool.and_true] at h1
    rw [h1]
    exact BitVec.getLsbD_zero
  · intro h
    apply Int64.toBitVec_inj.mp
    apply BitVec.eq_of_getLsbD_eq
    intro j hj
    rw [Int64.toBitVec_and, BitVec.getLsbD_and, e, tab i hi j hj]
    show _ = (0#64).getLsbD j
    rw [BitVec.getLsbD_zero]
    by_cases c : j = i
    · rw [c, h, Bool.false_and]
    · rw [decide_eq_false c, Bool.and_false]
theorem bs_alen {T : Nat → Option ab_A} {i j : Nat} {lo : List (Option Value)} {st : List Value} {u : Nat × Nat} {hp : ab_H} {Q : ab_O → Prop} {t : Nat → Nat} {a g k : Nat} (hT : T i = some (ab_nx j ab_alen)) (H : sf_h t hp) (hR : bs_R t hp a g) (hg : 100 ≤ g) (hk : (sf_A g).2.1 = k) (h4 : (sf_A g).1 < 4) (h2 : (sf_A g).1 ≠ 2) (hb : k < 2147483648) (h : ∀ z : Int32, z.toInt = (k : Int) → Ev T j (lo, .int z :: st, u, hp) Q) : Ev T i (lo, .ref a :: st, u, hp) Q := by
  obtain ⟨f, e1, e2⟩ := sf_arr H hR.1 hR.2 hg h4 h2
  rw [hk] at e1
  refine Ev.alen hT hR.1 e1 (by omega) (h _ ?_)
  exact Int32.toInt_ofNat_of_lt hb
theorem bs_putR {T : Nat → Option ab_A} {i j : Nat} {lo : List (Option Value)} {st : List Value} {u : Nat × Nat} {hp : ab_H} {Q : ab_O → Prop} {t : Nat → Nat} {W : List (Nat × Nat × Nat)} {a g k ci b g1 : Nat} (hT : T i = some (ab_nx j (ab_putf ci k 2))) (hci : ci = sf_o g) (H : sf_h t hp) (hR : bs_R t hp a g) (hg : g < 100) (hk : (sf_C g)[k]? = some (1, (g1 : Int), 0)) (hW : sf_cv W g k k = true) (hs : (decide (g ≠ 5) || decide (2 ≤ k)) = true) (hm : (sf_mk W || decide (g ≠ 11) || (decide (k ≠ 4) && decide (k ≠ 11))) = true) (hb : bs_R t hp b g1)
    (h : ∀ hp', sf_h t hp' → sf_fr W t hp t hp' → sf_rr hp' a k = some b → (∀ c q, c ≠ a ∨ q ≠ k → sf_rr hp' c q = sf_rr hp c q) → (∀ c q, sf_rd hp' c q = sf_rd hp c q) → (∀ c q, sf_rl hp' c q = sf_rl hp c q) → Ev T j (lo, st, u, hp') Q) : Ev T i (lo, .ref b :: .ref a :: st, u, hp) Q := by
  subst hci
  obtain ⟨fs, v, e1, e2, e3⟩ := sf_get H hR.1 hR.2 hg hk
  have hilt : k < fs.length := (List.getElem?_eq_some_iff.mp e2).1
  simp only [Bool.or_eq_true, Bool.and_eq_true, decide_eq_true_eq] at hs hm
  obtain ⟨cv1, cv2⟩ := sf_cv_ok hW
  have hvl : ∃ c : Nat, v = .ref c := by
    cases v with
    | ref z => exact ⟨z, rfl⟩
    | int z => exact absurd (show (1 : Nat) = 0 from e3.1) (by decide)
    | long w' => exact absurd (show (1 : Nat) = 2 from e3) (by decide)
    | null => exact absurd (show (0 : Int) = 1 from e3.2) (by decide)
    | _ => exact e3.elim
  obtain ⟨c, rfl⟩ := hvl
  have hr : ∀ x q, sf_rd (ab_up hp a (.inr (sf_o g, fs.set k (.ref b)))) x q = sf_rd hp x q := by
    intro x q
    by_cases e : x = a
    · subst e
      rw [sf_rd_up_obj]
      unfold sf_rd
      rw [e1]
      dsimp only
      by_cases e : q = k
      · subst e
        rw [List.getElem?_set_self hilt, e2]
        rfl
      · rw [List.getElem?_set_ne (Ne.symm e)]
    · exact sf_rd_up_ne e
  have hrl : ∀ x q, sf_rl (ab_up hp a (.inr (sf_o g, fs.set k (.ref b)))) x q = sf_rl hp x q := by
    intro x q
    by_cases e : x = a
    · subst e
      unfold sf_rl
      rw [ab_up_eq, e1]
      dsimp only
      by_cases e : q = k
      · subst e
        rw [List.getElem?_set_self hilt, e2]
      · rw [List.getElem?_set_ne (Ne.symm e)]
    · exact sf_rl_up_ne e
  have hrr : ∀ x q, x ≠ a ∨ q ≠ k → sf_rr (ab_up hp a (.inr (sf_o g, fs.set k (.ref b)))) x q = sf_rr hp x q := by
    intro x q hq
    by_cases e : x = a
    · subst e
      unfold sf_rr
      rw [ab_up_eq, e1]
      dsimp only
      rw [List.getElem?_set_ne (by rcases hq with h | h; exact absurd rfl h; exact Ne.symm h)]
    · exact sf_rr_up_ne e
  have hrn : sf_rr (ab_up hp a (.inr (sf_o g, fs.set k (.ref b)))) a k = some b := by
    unfold sf_rr
    rw [ab_up_eq]
    dsimp only
    rw [List.getElem?_set_self hilt]
  have sp : sf_sp (t a) k = false := by
    rw [hR.2]
    unfold sf_sp
    rw [decide_eq_false (show ¬ g = 103 by omega), decide_eq_false (show ¬ g = 104 by omega), decide_eq_false (show ¬ g = 106 by omega), decide_eq_false (show ¬ g = 107 by omega), decide_eq_false (show ¬ g = 145 by omega), decide_eq_false (show ¬ g = 132 by omega)]
    rfl
  refine Ev.putf hT hR.1 e1 hilt rfl (h _ (sf_put H hR.1 hR.2 e1 hk ⟨rfl, hb.1, by show (t b : Int) = (g1 : Int); rw [hb.2]⟩ (sf_I_up H (i0 := k) (i1 := k) sp (fun q _ => hr a q) (fun h5 => ⟨hrr a 0 (Or.inr (by have := hR.2.symm.trans h5; omega)), hrr a 1 (Or.inr (by have := hR.2.symm.trans h5; omega))⟩))) (sf_fr_up (i0 := k) (i1 := k) (by rw [hR.2]; exact cv1) cv2 (fun q _ => hr a q) ?_) hrn hrr hr hrl)
  rcases hm with (h | h) | h
  · exact Or.inl h
  · exact Or.inr (Or.inl fun e => h (by rw [← hR.2, e]; exact (H.2.2.1 11 69 rfl).2))
  · exact Or.inr (Or.inr ⟨by omega, by omega⟩)
theorem s0_h {i : Nat} (h : i ≠ 2) : s0.h i = 0 := if_neg h
theorem rr_ne {t : Nat → Nat} {hp : ab_H} {a : Nat} (H : sf_h t hp) (hR : bs_R t hp a 7) : rrD hp a 0 ≠ a ∧ rrD hp a 1 ≠ a ∧ rrD hp a 2 ≠ a ∧ rrD hp a 3 ≠ a ∧ rrD hp a 4 ≠ a ∧ rrD hp a 5 ≠ a ∧ rrD hp a 6 ≠ a :=
  ⟨bs_nq (rr_sort H hR (k := 0) (g := 116) rfl).1 hR (by decide), bs_nq (rr_sort H hR (k := 1) (g := 117) rfl).1 hR (by decide), bs_nq (rr_sort H hR (k := 2) (g := 118) rfl).1 hR (by decide), bs_nq (rr_sort H hR (k := 3) (g := 119) rfl).1 hR (by decide), bs_nq (rr_sort H hR (k := 4) (g := 120) rfl).1 hR (by decide), bs_nq (rr_sort H hR (k := 5) (g := 121) rfl).1 hR (by decide), bs_nq (rr_sort H hR (k := 6) (g := 122) rfl).1 hR (by decide)⟩
theorem SC_load {t : Nat → Nat} {hp hp' : ab_H} {a : Nat} {s : PS} {v : Int} (H : sf_h t hp) (hR : bs_R t hp a 7) (h : SC hp a s) (rr : ∀ k, sf_rr hp' a k = sf_rr hp a k) (rl : ∀ b q, sf_rl hp' b q = sf_rl hp b q) (rd : ∀ b q, b ≠ a ∨ (q ≠ 7 ∧ q ≠ 11) → sf_rd hp' b q = sf_rd hp b q) (e7 : sf_rd hp' a 7 = some v) (e11 : sf_rd hp' a 11 = some 1) : SC hp' a (ups s.h 2 v, s.nm, true, s.tl) := by
  have er : ∀ k, rrD hp' a k = rrD hp a k := fun k => by unfold rrD; rw [rr]
  obtain ⟨n0, n1, n2, n3, n4, n5, n6⟩ := rr_ne H hR
  obtain ⟨A, hA, hB⟩ := h.tl
  exact ⟨e7, (rd a 8 (Or.inr (by decide))).trans h.goods, (rd a 9 (Or.inr (by decide))).trans h.men, (rd a 10 (Or.inr (by decide))).trans h.miss, e11, ⟨A, (rl _ _).trans hA, hB⟩, fun g hg => by rw [er, rl]; exact h.gn g hg, fun g hg => by rw [er, rl]; exact h.mn g hg, fun g hg => by rw [er, rd _ _ (Or.inl n2)]; exact (h.fs g hg).trans (congrArg some (ups_ne (by omega)).symm), fun i hi => by rw [er, rd _ _ (Or.inl n3)]; exact (h.am i hi).trans (congrArg some (ups_ne (by omega)).symm), fun g hg => by rw [er, rd _ _ (Or.inl n4)]; exact (h.m4 g hg).trans (congrArg some (ups_ne (by omega)).symm), fun g hg => by rw [er, rd _ _ (Or.inl n5)]; exact (h.m5 g hg).trans (congrArg some (ups_ne (by omega)).symm), fun g hg => by rw [er, rd _ _ (Or.inl n6)]; exact (h.m6 g hg).trans (congrArg some (ups_ne (by omega)).symm), h.lg, h.lm⟩
theorem SC_good {t : Nat → Nat} {hp hp' : ab_H} {a : Nat} {s : PS} {v : Int} {w : Int64} (H : sf_h t hp) (hR : bs_R t hp a 7) (h : SC hp a s) (h0 : 0 ≤ s.h 0) (h6 : s.h 0 ≤ 5) (hw : w.toInt = c32 7 v) (hv : LW 7 v) (rr : ∀ k, sf_rr hp' a k = sf_rr hp a k) (l1 : sf_rl hp' (rrD hp a 0) (s.h 0).toNat = some w) (rl : ∀ b q, b ≠ rrD hp a 0 ∨ q ≠ (s.h 0).toNat → sf_rl hp' b q = sf_rl hp b q) (rd : ∀ b q, b ≠ a ∨ q ≠ 8 → sf_rd hp' b q = sf_rd hp b q) (e8 : sf_rd hp' a 8 = some (s.h 0 + 1)) : SC hp' a (ups s.h 0 (s.h 0 + 1), ups s.nm (s.h 0).toNat v, s.ld, s.tl) := by
  have er : ∀ k, rrD hp' a k = rrD hp a k := fun k => by unfold rrD; rw [rr]
  obtain ⟨n0, n1, n2, n3, n4, n5, n6⟩ := rr_ne H hR
  have n01 : rrD hp a 1 ≠ rrD hp a 0 := bs_nq (rr_sort H hR (k := 1) (g := 117) rfl).1 (rr_sort H hR (k := 0) (g := 116) rfl).1 (by decide)
  obtain ⟨A, hA, hB⟩ := h.tl
  obtain ⟨v8, f8, l8, u8⟩ := bs_fld (k := 8) H hR (by decide) rfl
  have e80 : v8 = s.h 0 := Option.some.inj (f8.symm.trans h.goods)
  exact ⟨(rd a 7 (Or.inr (by decide))).trans h.load, e8, (rd a 9 (Or.inr (by decide))).trans h.men, (rd a 10 (Or.inr (by decide))).trans h.miss, (rd a 11 (Or.inr (by decide))).trans h.ld, ⟨A, (rl _ _ (Or.inl (Ne.symm n0))).trans hA, hB⟩,
    fun g hg => by
      have hg' : (g : Int) < s.h 0 + 1 := hg
      rw [er]
      by_cases c : g = (s.h 0).toNat
      · rw [c]
        exact ⟨w, l1, by show _ = c32 7 (ups s.nm (s.h 0).toNat v (s.h 0).toNat); rw [ups_eq]; exact hw⟩
      · rw [rl _ _ (Or.inr c)]
        show ∃ w : Int64, _ ∧ w.toInt = c32 7 (ups s.nm (s.h 0).toNat v g)
        rw [ups_ne c]
        exact h.gn g (by omega),
    fun g hg => by
      rw [er, rl _ _ (Or.inl n01)]
      show ∃ w : Int64, _ ∧ w.toInt = c32 7 (ups s.nm (s.h 0).toNat v (6 + g))
      rw [ups_ne (by omega)]
      exact h.mn g hg,
    fun g hg => by rw [er, rd _ _ (Or.inl n2)]; exact (h.fs g hg).trans (congrArg some (ups_ne (by omega)).symm), fun i hi => by rw [er, rd _ _ (Or.inl n3)]; exact (h.am i hi).trans (congrArg some (ups_ne (by omega)).symm), fun g hg => by rw [er, rd _ _ (Or.inl n4)]; exact (h.m4 g hg).trans (congrArg some (ups_ne (by omega)).symm), fun g hg => by rw [er, rd _ _ (Or.inl n5)]; exact (h.m5 g hg).trans (congrArg some (ups_ne (by omega)).symm), fun g hg => by rw [er, rd _ _ (Or.inl n6)]; exact (h.m6 g hg).trans (congrArg some (ups_ne (by omega)).symm),
    fun g hg => by
      have hg' : (g : Int) < s.h 0 + 1 := hg
      show LW 7 (ups s.nm (s.h 0).toNat v g)
      by_cases c : g = (s.h 0).toNat
      · rw [c, ups_eq]
        exact hv
      · rw [ups_ne c]
        exact h.lg g (by omega),
    fun g hg => by
      show LW 7 (ups s.nm (s.h 0).toNat v (6 + g))
      rw [ups_ne (by omega)]
      exact h.lm g hg⟩
theorem SC_man {t : Nat → Nat} {hp hp' : ab_H} {a : Nat} {s : PS} {v d : Int} {w : Int64} (H : sf_h t hp) (hR : bs_R t hp a 7) (h : SC hp a s) (h7 : s.h 1 ≤ 7) (hw : w.toInt = c32 7 v) (hv : LW 7 v) (rr : ∀ k, sf_rr hp' a k = sf_rr hp a k) (l1 : sf_rl hp' (rrD hp a 1) (s.h 1).toNat = some w) (rl : ∀ b q, b ≠ rrD hp a 1 ∨ q ≠ (s.h 1).toNat → sf_rl hp' b q = sf_rl hp b q) (rd : ∀ b q, (b ≠ a ∨ q ≠ 9) → (b ≠ rrD hp a 2 ∨ q ≠ (s.h 1).toNat) → sf_rd hp' b q = sf_rd hp b q) (e9 : sf_rd hp' a 9 = some (s.h 1 + 1)) (e2 : sf_rd hp' (rrD hp a 2) (s.h 1).toNat = some d) : SC hp' a (ups (ups s.h (52 + (s.h 1).toNat) d) 1 (s.h 1 + 1), ups s.nm (6 + (s.h 1).toNat) v, s.ld, s.tl) := by
  have er : ∀ k, rrD hp' a k = rrD hp a k := fun k => by unfold rrD; rw [rr]
  obtain ⟨n0, n1, n2, n3, n4, n5, n6⟩ := rr_ne H hR
  have R := fun (k g : Nat) (hk : (sf_C 7)[k]? = some (1, (g : Int), 0)) => (rr_sort H hR hk).1
  have n01 : rrD hp a 0 ≠ rrD hp a 1 := bs_nq (R 0 116 rfl) (R 1 117 rfl) (by decide)
  have n32 : rrD hp a 3 ≠ rrD hp a 2 := bs_nq (R 3 119 rfl) (R 2 118 rfl) (by decide)
  have n42 : rrD hp a 4 ≠ rrD hp a 2 := bs_nq (R 4 120 rfl) (R 2 118 rfl) (by decide)
  have n52 : rrD hp a 5 ≠ rrD hp a 2 := bs_nq (R 5 121 rfl) (R 2 118 rfl) (by decide)
  have n62 : rrD hp a 6 ≠ rrD hp a 2 := bs_nq (R 6 122 rfl) (R 2 118 rfl) (by decide)
  obtain ⟨A, hA, hB⟩ := h.tl
  obtain ⟨v9, f9, l9, u9⟩ := bs_fld (k := 9) H hR (by decide) rfl
  have e90 : v9 = s.h 1 := Option.some.inj (f9.symm.trans h.men)
  obtain ⟨v8, f8, l8, u8⟩ := bs_fld (k := 8) H hR (by decide) rfl
  have e80 : v8 = s.h 0 := Option.some.inj (f8.symm.trans h.goods)
  obtain ⟨v3, f3, l3, u3⟩ := bs_fld (k := 10) H hR (by decide) rfl
  have e30 : v3 = s.h 3 := Option.some.inj (f3.symm.trans h.miss)
  have U : ∀ i, i ≠ 1 → i ≠ 52 + (s.h 1).toNat → ups (ups s.h (52 + (s.h 1).toNat) d) 1 (s.h 1 + 1) i = s.h i := fun i h1 h2 => (ups_ne h1).trans (ups_ne h2)
  exact ⟨(rd a 7 (Or.inr (by decide)) (Or.inl (Ne.symm n2))).trans (h.load.trans (congrArg some (U 2 (by decide) (by omega)).symm)), (rd a 8 (Or.inr (by decide)) (Or.inl (Ne.symm n2))).trans (h.goods.trans (congrArg some (U 0 (by decide) (by omega)).symm)), e9, (rd a 10 (Or.inr (by decide)) (Or.inl (Ne.symm n2))).trans (h.miss.trans (congrArg some (U 3 (by decide) (by omega)).symm)), (rd a 11 (Or.inr (by decide)) (Or.inl (Ne.symm n2))).trans h.ld, ⟨A, (rl _ _ (Or.inl (Ne.symm n1))).trans hA, hB⟩,
    fun g hg => by
      have hg' : (g : Int) < s.h 0 := (U 0 (by decide) (by omega)) ▸ hg
      rw [er, rl _ _ (Or.inl n01)]
      show ∃ w : Int64, _ ∧ w.toInt = c32 7 (ups s.nm (6 + (s.h 1).toNat) v g)
      rw [ups_ne (by omega)]
      exact h.gn g hg',
    fun g hg => by
      have hg' : (g : Int) < s.h 1 + 1 := hg
      rw [er]
      by_cases c : g = (s.h 1).toNat
      · rw [c]
        exact ⟨w, l1, by show _ = c32 7 (ups s.nm (6 + (s.h 1).toNat) v (6 + (s.h 1).toNat)); rw [ups_eq]; exact hw⟩
      · rw [rl _ _ (Or.inr c)]
        show ∃ w : Int64, _ ∧ w.toInt = c32 7 (ups s.nm (6 + (s.h 1).toNat) v (6 + g))
        rw [ups_ne (by omega)]
        exact h.mn g (by omega),
    fun g hg => by
      have hg' : (g : Int) < s.h 1 + 1 := hg
      rw [er]
      show _ = some (ups (ups s.h (52 + (s.h 1).toNat) d) 1 (s.h 1 + 1) (52 + g))
      rw [ups_ne (by omega)]
      by_cases c : g = (s.h 1).toNat
      · rw [c, ups_eq]
        exact e2
      · rw [ups_ne (by omega), rd _ _ (Or.inl n2) (Or.inr c)]
        exact h.fs g (by omega),
    fun i hi => by rw [er, rd _ _ (Or.inl n3) (Or.inl n32)]; exact (h.am i hi).trans (congrArg some (U _ (by omega) (by omega)).symm), fun g hg => by
      have hg' : (g : Int) < s.h 3 := (U 3 (by decide) (by omega)) ▸ hg
      rw [er, rd _ _ (Or.inl n4) (Or.inl n42)]; exact (h.m4 g hg').trans (congrArg some (U _ (by omega) (by omega)).symm), fun g hg => by
      have hg' : (g : Int) < s.h 3 := (U 3 (by decide) (by omega)) ▸ hg
      rw [er, rd _ _ (Or.inl n5) (Or.inl n52)]; exact (h.m5 g hg').trans (congrArg some (U _ (by omega) (by omega)).symm), fun g hg => by
      have hg' : (g : Int) < s.h 3 := (U 3 (by decide) (by omega)) ▸ hg
      rw [er, rd _ _ (Or.inl n6) (Or.inl n62)]; exact (h.m6 g hg').trans (congrArg some (U _ (by omega) (by omega)).symm),
    fun g hg => by
      have hg' : (g : Int) < s.h 0 := (U 0 (by decide) (by omega)) ▸ hg
      show LW 7 (ups s.nm (6 + (s.h 1).toNat) v g)
      rw [ups_ne (by omega)]
      exact h.lg g hg',
    fun g hg => by
      have hg' : (g : Int) < s.h 1 + 1 := hg
      show LW 7 (ups s.nm (6 + (s.h 1).toNat) v (6 + g))
      by_cases c : g = (s.h 1).toNat
      · rw [c, ups_eq]
        exact hv
      · rw [ups_ne (by omega)]
        exact h.lm g (by omega)⟩
theorem SC_amt {t : Nat → Nat} {hp hp' : ab_H} {a : Nat} {s : PS} {v : Int} {A' : Int64} {x : Nat} (H : sf_h t hp) (hR : bs_R t hp a 7) (h : SC hp a s) (hx : x < 48) (rr : ∀ k, sf_rr hp' a k = sf_rr hp a k) (l1 : sf_rl hp' a 12 = some A') (lt : ∀ i, i < 48 → lb A' i = ups s.tl x true i) (rl : ∀ b q, b ≠ a ∨ q ≠ 12 → sf_rl hp' b q = sf_rl hp b q) (rd : ∀ b q, (b ≠ rrD hp a 3 ∨ q ≠ x) → sf_rd hp' b q = sf_rd hp b q) (e3 : sf_rd hp' (rrD hp a 3) x = some v) : SC hp' a (ups s.h (4 + x) v, s.nm, s.ld, ups s.tl x true) := by
  have er : ∀ k, rrD hp' a k = rrD hp a k := fun k => by unfold rrD; rw [rr]
  obtain ⟨n0, n1, n2, n3, n4, n5, n6⟩ := rr_ne H hR
  have R := fun (k g : Nat) (hk : (sf_C 7)[k]? = some (1, (g : Int), 0)) => (rr_sort H hR hk).1
  have m23 : rrD hp a 2 ≠ rrD hp a 3 := bs_nq (R 2 118 rfl) (R 3 119 rfl) (by decide)
  have m43 : rrD hp a 4 ≠ rrD hp a 3 := bs_nq (R 4 120 rfl) (R 3 119 rfl) (by decide)
  have m53 : rrD hp a 5 ≠ rrD hp a 3 := bs_nq (R 5 121 rfl) (R 3 119 rfl) (by decide)
  have m63 : rrD hp a 6 ≠ rrD hp a 3 := bs_nq (R 6 122 rfl) (R 3 119 rfl) (by decide)
  have na : a ≠ rrD hp a 3 := Ne.symm n3
  have U : ∀ i, i ≠ 4 + x → ups s.h (4 + x) v i = s.h i := fun i h1 => ups_ne h1
  have g0 : ∀ {g : Nat}, (g : Int) < ups s.h (4 + x) v 0 → (g : Int) < s.h 0 := fun hg => (U 0 (by omega)) ▸ hg
  have g1 : ∀ {g : Nat}, (g : Int) < ups s.h (4 + x) v 1 → (g : Int) < s.h 1 := fun hg => (U 1 (by omega)) ▸ hg
  have g3 : ∀ {g : Nat}, (g : Int) < ups s.h (4 + x) v 3 → (g : Int) < s.h 3 := fun hg => (U 3 (by omega)) ▸ hg
  exact ⟨(rd a 7 (Or.inl na)).trans (h.load.trans (congrArg some (U 2 (by omega)).symm)), (rd a 8 (Or.inl na)).trans (h.goods.trans (congrArg some (U 0 (by omega)).symm)), (rd a 9 (Or.inl na)).trans (h.men.trans (congrArg some (U 1 (by omega)).symm)), (rd a 10 (Or.inl na)).trans (h.miss.trans (congrArg some (U 3 (by omega)).symm)), (rd a 11 (Or.inl na)).trans h.ld, ⟨A', l1, lt⟩, fun g hg => by rw [er, rl _ _ (Or.inl n0)]; exact h.gn g (g0 hg), fun g hg => by rw [er, rl _ _ (Or.inl n1)]; exact h.mn g (g1 hg), fun g hg => by rw [er, rd _ _ (Or.inl m23)]; exact (h.fs g (g1 hg)).trans (congrArg some (U _ (by omega)).symm),
    fun i hi => by
      rw [er]
      show _ = some (ups s.h (4 + x) v (4 + i))
      by_cases c : i = x
      · rw [c, ups_eq]
        exact e3
      · rw [ups_ne (by omega), rd _ _ (Or.inr c)]
        exact h.am i hi,
    fun g hg => by rw [er, rd _ _ (Or.inl m43)]; exact (h.m4 g (g3 hg)).trans (congrArg some (U _ (by omega)).symm), fun g hg => by rw [er, rd _ _ (Or.inl m53)]; exact (h.m5 g (g3 hg)).trans (congrArg some (U _ (by omega)).symm), fun g hg => by rw [er, rd _ _ (Or.inl m63)]; exact (h.m6 g (g3 hg)).trans (congrArg some (U _ (by omega)).symm), fun g hg => h.lg g (g0 hg), fun g hg => h.lm g (g1 hg)⟩
theorem SC_miss {t : Nat → Nat} {hp hp' : ab_H} {a : Nat} {s : PS} {v q d : Int} (H : sf_h t hp) (hR : bs_R t hp a 7) (h : SC hp a s) (h19 : s.h 3 ≤ 19) (rr : ∀ k, sf_rr hp' a k = sf_rr hp a k) (rl : ∀ b q, sf_rl hp' b q = sf_rl hp b q) (rd : ∀ b i, (b ≠ a ∨ i ≠ 10) → (b ≠ rrD hp a 4 ∨ i ≠ (s.h 3).toNat) → (b ≠ rrD hp a 5 ∨ i ≠ (s.h 3).toNat) → (b ≠ rrD hp a 6 ∨ i ≠ (s.h 3).toNat) → sf_rd hp' b i = sf_rd hp b i) (e10 : sf_rd hp' a 10 = some (s.h 3 + 1)) (e4 : sf_rd hp' (rrD hp a 4) (s.h 3).toNat = some v) (e5 : sf_rd hp' (rrD hp a 5) (s.h 3).toNat = some q) (e6 : sf_rd hp' (rrD hp a 6) (s.h 3).toNat = some d) : SC hp' a (ups (ups (ups (ups s.h (60 + (s.h 3).toNat) v) (80 + (s.h 3).toNat) q) (100 + (s.h 3).toNat) d) 3 (s.h 3 + 1), s.nm, s.ld, s.tl) := by
  have er : ∀ k, rrD hp' a k = rrD hp a k := fun k => by unfold rrD; rw [rr]
  obtain ⟨n0, n1, n2, n3, n4, n5, n6⟩ := rr_ne H hR
  have R := fun (k g : Nat) (hk : (sf_C 7)[k]? = some (1, (g : Int), 0)) => (rr_sort H hR hk).1
  have m24 : rrD hp a 2 ≠ rrD hp a 4 := bs_nq (R 2 118 rfl) (R 4 120 rfl) (by decide)
  have m25 : rrD hp a 2 ≠ rrD hp a 5 := bs_nq (R 2 118 rfl) (R 5 121 rfl) (by decide)
  have m26 : rrD hp a 2 ≠ rrD hp a 6 := bs_nq (R 2 118 rfl) (R 6 122 rfl) (by decide)
  have m34 : rrD hp a 3 ≠ rrD hp a 4 := bs_nq (R 3 119 rfl) (R 4 120 rfl) (by decide)
  have m35 : rrD hp a 3 ≠ rrD hp a 5 := bs_nq (R 3 119 rfl) (R 5 121 rfl) (by decide)
  have m36 : rrD hp a 3 ≠ rrD hp a 6 := bs_nq (R 3 119 rfl) (R 6 122 rfl) (by decide)
  have m45 : rrD hp a 4 ≠ rrD hp a 5 := bs_nq (R 4 120 rfl) (R 5 121 rfl) (by decide)
  have m46 : rrD hp a 4 ≠ rrD hp a 6 := bs_nq (R 4 120 rfl) (R 6 122 rfl) (by decide)
  have m56 : rrD hp a 5 ≠ rrD hp a 6 := bs_nq (R 5 121 rfl) (R 6 122 rfl) (by decide)
  obtain ⟨A, hA, hB⟩ := h.tl
  obtain ⟨v3, f3, l3, u3⟩ := bs_fld (k := 10) H hR (by decide) rfl
  have e30 : v3 = s.h 3 := Option.some.inj (f3.symm.trans h.miss)
  obtain ⟨v9, f9, l9, u9⟩ := bs_fld (k := 9) H hR (by decide) rfl
  have e90 : v9 = s.h 1 := Option.some.inj (f9.symm.trans h.men)
  have U : ∀ i, i ≠ 3 → i ≠ 60 + (s.h 3).toNat → i ≠ 80 + (s.h 3).toNat → i ≠ 100 + (s.h 3).toNat → ups (ups (ups (ups s.h (60 + (s.h 3).toNat) v) (80 + (s.h 3).toNat) q) (100 + (s.h 3).toNat) d) 3 (s.h 3 + 1) i = s.h i := fun i h1 h2 h3 h4 => (ups_ne h1).trans ((ups_ne h4).trans ((ups_ne h3).trans (ups_ne h2)))
  have g0 : ∀ {g : Nat}, (g : Int) < ups (ups (ups (ups s.h (60 + (s.h 3).toNat) v) (80 + (s.h 3).toNat) q) (100 + (s.h 3).toNat) d) 3 (s.h 3 + 1) 0 → (g : Int) < s.h 0 := fun hg => (U 0 (by omega) (by omega) (by omega) (by omega)) ▸ hg
  have g1 : ∀ {g : Nat}, (g : Int) < ups (ups (ups (ups s.h (60 + (s.h 3).toNat) v) (80 + (s.h 3).toNat) q) (100 + (s.h 3).toNat) d) 3 (s.h 3 + 1) 1 → (g : Int) < s.h 1 := fun hg => (U 1 (by omega) (by omega) (by omega) (by omega)) ▸ hg
  have ra : ∀ i, i ≠ 10 → sf_rd hp' a i = sf_rd hp a i := fun i hi => rd a i (Or.inr hi) (Or.inl (Ne.symm n4)) (Or.inl (Ne.symm n5)) (Or.inl (Ne.symm n6))
  exact ⟨(ra 7 (by decide)).trans (h.load.trans (congrArg some (U 2 (by omega) (by omega) (by omega) (by omega)).symm)), (ra 8 (by decide)).trans (h.goods.trans (congrArg some (U 0 (by omega) (by omega) (by omega) (by omega)).symm)), (ra 9 (by decide)).trans (h.men.trans (congrArg some (U 1 (by omega) (by omega) (by omega) (by omega)).symm)), e10, (ra 11 (by decide)).trans h.ld, ⟨A, (rl _ _).trans hA, hB⟩, fun g hg => by rw [er, rl]; exact h.gn g (g0 hg), fun g hg => by rw [er, rl]; exact h.mn g (g1 hg), fun g hg => by rw [er, rd _ _ (Or.inl n2) (Or.inl m24) (Or.inl m25) (Or.inl m26)]; have := g1 hg; exact (h.fs g (g1 hg)).trans (congrArg some (U _ (by omega) (by omega) (by omega) (by omega)).symm), fun i hi => by rw [er, rd _ _ (Or.inl n3) (Or.inl m34) (Or.inl m35) (Or.inl m36)]; exact (h.am i hi).trans (congrArg some (U _ (by omega) (by omega) (by omega) (by omega)).symm),
    fun g hg => by
      have hg' : (g : Int) < s.h 3 + 1 := hg
      rw [er]
      show _ = some (ups (ups (ups (ups s.h (60 + (s.h 3).toNat) v) (80 + (s.h 3).toNat) q) (100 + (s.h 3).toNat) d) 3 (s.h 3 + 1) (60 + g))
      rw [ups_ne (by omega), ups_ne (by omega), ups_ne (by omega)]
      by_cases c : g = (s.h 3).toNat
      · rw [c, ups_eq]
        exact e4
      · rw [ups_ne (by omega), rd _ _ (Or.inl n4) (Or.inr c) (Or.inl m45) (Or.inl m46)]
        exact h.m4 g (by omega),
    fun g hg => by
      have hg' : (g : Int) < s.h 3 + 1 := hg
      rw [er]
      show _ = some (ups (ups (ups (ups s.h (60 + (s.h 3).toNat) v) (80 + (s.h 3).toNat) q) (100 + (s.h 3).toNat) d) 3 (s.h 3 + 1) (80 + g))
      rw [ups_ne (by omega), ups_ne (by omega)]
      by_cases c : g = (s.h 3).toNat
      · rw [c, ups_eq]
        exact e5
      · rw [ups_ne (by omega), ups_ne (by omega), rd _ _ (Or.inl n5) (Or.inl (Ne.symm m45)) (Or.inr c) (Or.inl m56)]
        exact h.m5 g (by omega),
    fun g hg => by
      have hg' : (g : Int) < s.h 3 + 1 := hg
      rw [er]
      show _ = some (ups (ups (ups (ups s.h (60 + (s.h 3).toNat) v) (80 + (s.h 3).toNat) q) (100 + (s.h 3).toNat) d) 3 (s.h 3 + 1) (100 + g))
      rw [ups_ne (by omega)]
      by_cases c : g = (s.h 3).toNat
      · rw [c, ups_eq]
        exact e6
      · rw [ups_ne (by omega), ups_ne (by omega), ups_ne (by omega), rd _ _ (Or.inl n6) (Or.inl (Ne.symm m46)) (Or.inl (Ne.symm m56)) (Or.inr c)]
        exact h.m6 g (by omega),
    fun g hg => h.lg g (g0 hg), fun g hg => h.lm g (g1 hg)⟩
end
