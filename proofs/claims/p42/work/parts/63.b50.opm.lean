/-! ===== what the calls answer, by the model ===== -/
/-- a number from 0 to n - 1 -/
def nd (n : Nat) (x : Int32) : Option Nat := if 0 ≤ x.toInt ∧ x.toInt < n then some x.toInt.toNat else none
theorem nd_some {n k : Nat} {x : Int32} (h : nd n x = some k) : k < n ∧ x = Int32.ofNat k := by
  unfold nd at h
  split at h
  · rename_i c
    obtain rfl := Option.some.inj h
    refine ⟨by omega, Int32.toInt_inj.mp ?_⟩
    have := Int32.toInt_lt x
    rw [i_toInt (by omega)]
    omega
  · cases h
theorem nd_of {n k : Nat} (h : k < n) (hn : n < 2147483648) : nd n (Int32.ofNat k) = some k := by
  unfold nd
  rw [i_toInt (by omega), if_pos (by omega)]
  rfl
theorem nd_t {n : Nat} {x : Int32} (h : (nd n x).isSome = true) : ∃ k, nd n x = some k ∧ k < n ∧ x = Int32.ofNat k := by
  obtain ⟨k, hk⟩ := Option.isSome_iff_exists.mp h
  exact ⟨k, hk, nd_some hk⟩
theorem nd_f {n : Nat} {x : Int32} (h : (nd n x).isSome = false) : nd n x = none := by
  cases e : nd n x with
  | none => rfl
  | some k =>
    rw [e] at h
    cases h
theorem nd_le {n : Nat} {x : Int32} (hn : n < 2147483648) : (decide (0 ≤ x) && decide (x < Int32.ofNat n)) = (nd n x).isSome := by
  unfold nd
  have e1 : (0 ≤ x) ↔ 0 ≤ x.toInt := by
    rw [Int32.le_iff_toInt_le]
    rfl
  have e2 : (x < Int32.ofNat n) ↔ x.toInt < n := by rw [Int32.lt_iff_toInt_lt, i_toInt hn]
  by_cases h1 : 0 ≤ x.toInt
  · rw [decide_eq_true (e1.mpr h1)]
    by_cases h2 : x.toInt < n
    · rw [decide_eq_true (e2.mpr h2), if_pos ⟨h1, h2⟩]
      rfl
    · rw [decide_eq_false (fun c => h2 (e2.mp c)), if_neg (fun c => h2 c.2)]
      rfl
  · rw [decide_eq_false (fun c => h1 (e1.mp c)), if_neg (fun c => h1 c.1)]
    rfl
theorem nd_b {n : Nat} {x : Int32} (hn : n < 2147483648) : (!decide (x < 0) && !decide (Int32.ofNat n ≤ x)) = (nd n x).isSome := by
  rw [← nd_le hn]
  congr 1
  · by_cases h : x < 0
    · rw [decide_eq_true h, decide_eq_false (Int32.not_le.mpr h)]
      rfl
    · rw [decide_eq_false h, decide_eq_true (Int32.not_lt.mp h)]
      rfl
  · by_cases h : Int32.ofNat n ≤ x
    · rw [decide_eq_true h, decide_eq_false (Int32.not_lt.mpr h)]
      rfl
    · rw [decide_eq_false h, decide_eq_true (Int32.not_le.mp h)]
      rfl
theorem nd_in {n : Nat} {x : Int32} (hn : n < 2147483648) : (decide (0 ≤ x) && decide (x ≤ Int32.ofNat n - 1)) = (nd n x).isSome := by
  rw [← nd_le hn]
  congr 1
  have e : (x ≤ Int32.ofNat n - 1) ↔ (x < Int32.ofNat n) := by
    rw [Int32.le_iff_toInt_le, Int32.lt_iff_toInt_lt, i_subI (by rw [i_toInt hn]; show _ ≤ (n : Int) - 1; omega) (by rw [i_toInt hn]; show (n : Int) - 1 ≤ _; omega), i_toInt hn]
    show x.toInt ≤ (n : Int) - 1 ↔ _
    omega
  by_cases h : x < Int32.ofNat n
  · rw [decide_eq_true h, decide_eq_true (e.mpr h)]
  · rw [decide_eq_false h, decide_eq_false (fun c => h (e.mp c))]
theorem nd_2 {x : Int32} : (decide (x = 0) || decide (x = 1)) = (nd 2 x).isSome := by
  by_cases h0 : x = 0
  · subst h0
    rfl
  · by_cases h1 : x = 1
    · subst h1
      rfl
    · rw [decide_eq_false h0, decide_eq_false h1]
      cases e : nd 2 x with
      | none => rfl
      | some k =>
        obtain ⟨a, b⟩ := nd_some e
        have : k = 0 ∨ k = 1 := by omega
        rcases this with rfl | rfl
        · exact absurd b h0
        · exact absurd b h1
theorem nd_tab {ts : List Nat} {d n : Nat} {x : Int32} (h : nd n x = none) (hn : ts.length ≤ n) : cond (decide (x.toInt < 0)) d ((ts[(x.toInt - 0).toNat]?).getD d) = d := by
  by_cases c : x.toInt < 0
  · rw [decide_eq_true c]
    rfl
  · rw [decide_eq_false c]
    have c2 : (n : Int) ≤ x.toInt := by
      unfold nd at h
      split at h
      · cases h
      · omega
    show (ts[(x.toInt - 0).toNat]?).getD d = d
    rw [List.getElem?_eq_none_iff.mpr (by omega)]
    rfl
theorem nd_8 (x : Int32) : x = 0 ∨ x = 1 ∨ x = 2 ∨ x = 3 ∨ x = 4 ∨ x = 5 ∨ x = 6 ∨ x = 7 ∨ nd 8 x = none := by
  cases e : nd 8 x with
  | none => simp
  | some k =>
    obtain ⟨a, rfl⟩ := nd_some e
    match k, a with
    | 0, _ => exact Or.inl rfl
    | 1, _ => exact Or.inr (Or.inl rfl)
    | 2, _ => exact Or.inr (Or.inr (Or.inl rfl))
    | 3, _ => exact Or.inr (Or.inr (Or.inr (Or.inl rfl)))
    | 4, _ => exact Or.inr (Or.inr (Or.inr (Or.inr (Or.inl rfl))))
    | 5, _ => exact Or.inr (Or.inr (Or.inr (Or.inr (Or.inr (Or.inl rfl)))))
    | 6, _ => exact Or.inr (Or.inr (Or.inr (Or.inr (Or.inr (Or.inr (Or.inl rfl))))))
    | 7, _ => exact Or.inr (Or.inr (Or.inr (Or.inr (Or.inr (Or.inr (Or.inr (Or.inl rfl)))))))
    | k + 8, h => exact absurd h (by omega)
theorem nd_7 (x : Int32) : x = 0 ∨ x = 1 ∨ x = 2 ∨ x = 3 ∨ x = 4 ∨ x = 5 ∨ x = 6 ∨ nd 7 x = none := by
  cases e : nd 7 x with
  | none => simp
  | some k =>
    obtain ⟨a, rfl⟩ := nd_some e
    match k, a with
    | 0, _ => exact Or.inl rfl
    | 1, _ => exact Or.inr (Or.inl rfl)
    | 2, _ => exact Or.inr (Or.inr (Or.inl rfl))
    | 3, _ => exact Or.inr (Or.inr (Or.inr (Or.inl rfl)))
    | 4, _ => exact Or.inr (Or.inr (Or.inr (Or.inr (Or.inl rfl))))
    | 5, _ => exact Or.inr (Or.inr (Or.inr (Or.inr (Or.inr (Or.inl rfl)))))
    | 6, _ => exact Or.inr (Or.inr (Or.inr (Or.inr (Or.inr (Or.inr (Or.inl rfl))))))
    | k + 7, h => exact absurd h (by omega)
theorem nd_5 (x : Int32) : x = 0 ∨ x = 1 ∨ x = 2 ∨ x = 3 ∨ x = 4 ∨ nd 5 x = none := by
  cases e : nd 5 x with
  | none => simp
  | some k =>
    obtain ⟨a, rfl⟩ := nd_some e
    match k, a with
    | 0, _ => exact Or.inl rfl
    | 1, _ => exact Or.inr (Or.inl rfl)
    | 2, _ => exact Or.inr (Or.inr (Or.inl rfl))
    | 3, _ => exact Or.inr (Or.inr (Or.inr (Or.inl rfl)))
    | 4, _ => exact Or.inr (Or.inr (Or.inr (Or.inr (Or.inl rfl))))
    | k + 5, h => exact absurd h (by omega)
/-- a GOOD on a SHORE, or NONE -/
def aGS (T : St) (x y : Int32) (f : Nat → Nat → Int32) : Int32 := match nd (t_g T) x with
  | none => -1
  | some g => match nd 2 y with
    | none => -1
    | some s => f g s
theorem aGS_t {T : St} {x y : Int32} {f : Nat → Nat → Int32} {g s : Nat} (h1 : nd (t_g T) x = some g) (h2 : nd 2 y = some s) : aGS T x y f = f g s := by
  unfold aGS
  rw [h1]
  dsimp only
  rw [h2]
theorem aGS_f {T : St} {x y : Int32} {f : Nat → Nat → Int32} (h : ((nd (t_g T) x).isSome && (nd 2 y).isSome) = false) : aGS T x y f = -1 := by
  unfold aGS
  cases e1 : nd (t_g T) x with
  | none => rfl
  | some g =>
    rw [e1] at h
    cases e2 : nd 2 y with
    | none => rfl
    | some s =>
      rw [e2] at h
      cases h
theorem gs_t {T : St} {x y : Int32} (h : ((nd (t_g T) x).isSome && (nd 2 y).isSome) = true) : ∃ g s, nd (t_g T) x = some g ∧ nd 2 y = some s ∧ g < t_g T ∧ s < 2 ∧ x = Int32.ofNat g ∧ y = Int32.ofNat s := by
  rw [Bool.and_eq_true] at h
  obtain ⟨g, a, b, c⟩ := nd_t h.1
  obtain ⟨s, a', b', c'⟩ := nd_t h.2
  exact ⟨g, s, a, a', b, b', c, c'⟩
def a_good (T : St) (S : Sh) (x y w : Int32) : Int32 := aGS T x y fun g s => match nd 8 w with
  | none => -1
  | some k => match k with
    | 0 => h_s S (2 * g + s)
    | 1 => h_h S (2 * g + s)
    | 2 => t_a T (1 * 12 + (2 * g + s))
    | 3 => t_a T (2 * 12 + (2 * g + s))
    | 4 => t_a T (3 * 12 + (2 * g + s))
    | 5 => m_lack T S (2 * g + s)
    | 6 => b2i (m_false T S (2 * g + s))
    | _ => h_u S (2 * g + s)
def a_crossed (T : St) (S : Sh) (x y : Int32) : Int32 := aGS T x y fun g s => h_c S (2 * g + s)
/-- two who live and are unlike -/
def liv2 (T : St) (S : Sh) (x y : Int32) : Option (Nat × Nat) := match nd (t_m T) x with
  | none => none
  | some m => match nd (t_m T) y with
    | none => none
    | some o => if ¬ m = o ∧ m_alive S m = true ∧ m_alive S o = true then some (m, o) else none
def a_apart (T : St) (S : Sh) (x y : Int32) : Int32 := match liv2 T S x y with
  | none => -1
  | some q => m_apart S q.1 q.2
def a_now (T : St) (S : Sh) (w : Int32) : Int32 := match nd 7 w with
  | none => -1
  | some k => match k with
    | 0 => Int32.ofNat (h_d S)
    | 1 => Int32.ofNat (m_from S)
    | 2 => m_men T S 0
    | 3 => m_men T S 1
    | 4 => h_i S
    | 5 => h_r S
    | _ => m_sum (h_u S) 12
def a_lacks (T : St) (S : Sh) (y : Int32) : Int32 := match nd 2 y with
  | none => -1
  | some s => m_bits (fun g => !decide (m_lack T S (2 * g + s) ≤ 0)) id (t_g T)
def a_falses (T : St) (S : Sh) (y : Int32) : Int32 := match nd 2 y with
  | none => -1
  | some s => m_bits (fun g => m_false T S (2 * g + s)) id (t_g T)
/-- the first of the greatest above 0: how great, which -/
def m_top (f : Nat → Int32) : Nat → Int32 × Int32
  | 0 => (0, -1)
  | k + 1 => if f k ≤ (m_top f k).1 then m_top f k else (f k, Int32.ofNat k)
def a_hoarded (T : St) (S : Sh) (y : Int32) : Int32 := match nd 2 y with
  | none => -1
  | some s => (m_top (fun g => h_h S (2 * g + s)) (t_g T)).2
def jbc1 (x : Int32) : Int32 := x - ((x.toUInt32 >>> ((1 : Int32).toUInt32 &&& Int32.toUInt32 31)).toInt32 &&& 1431655765)
def jbc2 (x : Int32) : Int32 := (x &&& 858993459) + ((x.toUInt32 >>> ((2 : Int32).toUInt32 &&& Int32.toUInt32 31)).toInt32 &&& 858993459)
def jbc3 (x : Int32) : Int32 := (x + (x.toUInt32 >>> ((4 : Int32).toUInt32 &&& Int32.toUInt32 31)).toInt32) &&& 252645135
def jbc4 (x : Int32) : Int32 := x + (x.toUInt32 >>> ((8 : Int32).toUInt32 &&& Int32.toUInt32 31)).toInt32
def jbc5 (x : Int32) : Int32 := x + (x.toUInt32 >>> ((16 : Int32).toUInt32 &&& Int32.toUInt32 31)).toInt32
def jbc (x : Int32) : Int32 := jbc5 (jbc4 (jbc3 (jbc2 (jbc1 x)))) &&& 63
/-- the lowest bit taken away, n times at most: how often -/
def rbits : Nat → Int32 → Int32
  | 0, _ => 0
  | n + 1, x => if x = 0 then 0 else rbits n (x &&& (x - 1)) + 1
def a_dearest (T : St) (S : Sh) : Int32 := (m_top (fun m => jbc (m_missers T S m)) (t_m T)).2
def a_rats (T : St) (S : Sh) : Int32 := m_bits (fun m => m_alive S m && !m_could T S m (t_n T)) id (t_m T)
def a_going (T : St) (S : Sh) : Int32 := m_board T S
def a_goes (T : St) (S : Sh) (x : Int32) : Int32 := match nd (t_g T) x with
  | none => -1
  | some g => m_fr T S g
/-- the class's own rows for trying; the reference's -/
def CDR (F F' : FW) : Prop := FX (fun q => (7 ≤ q ∧ q ≤ 9) ∨ (20 ≤ q ∧ q ≤ 35) ∨ q = 40 ∨ q = 43) F F'
def RDR (F F' : FW) : Prop := FX (fun q => q = 69 ∨ q = 71 ∨ q = 78 ∨ q = 79) F F' ∧ (∀ k, F'.1 71 k = F.1 71 k) ∧ ∀ k, k ≠ 0 → k ≠ 22 → k ≠ 29 → F'.1 69 k = F.1 69 k
theorem RDR.rf {F : FW} : RDR F F := ⟨FX.rf, fun _ => rfl, fun _ _ _ _ => rfl⟩
theorem RDR.tr {F G H : FW} (a : RDR F G) (b : RDR G H) : RDR F H := ⟨a.1.tr b.1, fun k => (b.2.1 k).trans (a.2.1 k), fun k h1 h2 h3 => (b.2.2 k h1 h2 h3).trans (a.2.2 k h1 h2 h3)⟩
theorem RDR.fp {F G : FW} {k : Nat} {v : Int32} (h : RDR F G) (c : k = 0 ∨ k = 22 ∨ k = 29) : RDR F (fp G 69 k v) := ⟨h.1.fp (Or.inl rfl), fun j => (fp_ne (Or.inl (by decide))).trans (h.2.1 j), fun j h1 h2 h3 => (fp_ne (Or.inr (by omega))).trans (h.2.2 j h1 h2 h3)⟩
theorem RDR.T {F G : FW} {T : St} (h : RDR F G) (t : XT F T) : XT G T := t.of fun k _ => h.2.1 k
theorem RDR.S {F G : FW} {m : Nat} {S : Sh} (h : RDR F G) (hm : m ≤ 8) (t : XS F m S) : XS G m S := t.of hm fun k _ _ => h.2.1 k
theorem RDR.G {F G : FW} (h : RDR F G) (g : GW F) : GW G := g.fx h.1
theorem GW.o12 {F : FW} (h : GW F) : O7 F 12 := fun j hj => match j, hj with
  | 0, _ => h.at (a := 12) (k := 0) (b := 13) (by decide)
  | 1, _ => h.at (a := 12) (k := 1) (b := 14) (by decide)
  | 2, _ => h.at (a := 12) (k := 2) (b := 15) (by decide)
  | 3, _ => h.at (a := 12) (k := 3) (b := 16) (by decide)
  | 4, _ => h.at (a := 12) (k := 4) (b := 17) (by decide)
  | 5, _ => h.at (a := 12) (k := 5) (b := 18) (by decide)
  | 6, _ => h.at (a := 12) (k := 6) (b := 19) (by decide)
  | j + 7, h => absurd h (by omega)
theorem GW.o20 {F : FW} (h : GW F) : O7 F 20 := fun j hj => match j, hj with
  | 0, _ => h.at (a := 20) (k := 0) (b := 21) (by decide)
  | 1, _ => h.at (a := 20) (k := 1) (b := 22) (by decide)
  | 2, _ => h.at (a := 20) (k := 2) (b := 23) (by decide)
  | 3, _ => h.at (a := 20) (k := 3) (b := 24) (by decide)
  | 4, _ => h.at (a := 20) (k := 4) (b := 25) (by decide)
  | 5, _ => h.at (a := 20) (k := 5) (b := 26) (by decide)
  | 6, _ => h.at (a := 20) (k := 6) (b := 27) (by decide)
  | j + 7, h => absurd h (by omega)
theorem GW.o28 {F : FW} (h : GW F) : O7 F 28 := fun j hj => match j, hj with
  | 0, _ => h.at (a := 28) (k := 0) (b := 29) (by decide)
  | 1, _ => h.at (a := 28) (k := 1) (b := 30) (by decide)
  | 2, _ => h.at (a := 28) (k := 2) (b := 31) (by decide)
  | 3, _ => h.at (a := 28) (k := 3) (b := 32) (by decide)
  | 4, _ => h.at (a := 28) (k := 4) (b := 33) (by decide)
  | 5, _ => h.at (a := 28) (k := 5) (b := 34) (by decide)
  | 6, _ => h.at (a := 28) (k := 6) (b := 35) (by decide)
  | j + 7, h => absurd h (by omega)
theorem liv2_s {T : St} {S : Sh} {x y : Int32} {q : Nat × Nat} (h : liv2 T S x y = some q) : q.1 < t_m T ∧ q.2 < t_m T ∧ ¬ q.1 = q.2 ∧ m_alive S q.1 = true ∧ m_alive S q.2 = true ∧ x = Int32.ofNat q.1 ∧ y = Int32.ofNat q.2 := by
  unfold liv2 at h
  split at h
  · cases h
  · rename_i m hm
    split at h
    · cases h
    · rename_i o ho
      split at h
      · rename_i c
        obtain rfl := Option.some.inj h
        exact ⟨(nd_some hm).1, (nd_some ho).1, c.1, c.2.1, c.2.2, (nd_some hm).2, (nd_some ho).2⟩
      · cases h
theorem liv2_n {T : St} {S : Sh} {x y : Int32} (h : (liv2 T S x y).isSome = false) : liv2 T S x y = none := by
  cases e : liv2 T S x y with
  | none => rfl
  | some q =>
    rw [e] at h
    cases h
def m_falser (w x y : Int32) : Bool := !decide (m_lackr w x ≤ 0) && decide (m_lackr w x ≤ y)
/-- what is hoarded stays small -/
def HB (S : Sh) : Prop := ∀ k, k < 12 → 0 ≤ (h_h S k).toInt ∧ (h_s S k).toInt + (h_h S k).toInt ≤ 250 + 290 * (h_d S : Int)
theorem m_false_eq {T : St} {S : Sh} (hT : TBB T) (hS : SB S) (hH : HB S) (hd : h_d S ≤ 400) {k : Nat} (hk : k < 12) : m_false T S k = m_falser (t_a T (1 * 12 + k)) (h_s S k) (h_h S k) := by
  have h1 := hT.2.2 (1 * 12 + k) (by omega)
  have h2 := hS k hk
  have h4 := hH k hk
  have h3 := i_subI (a := t_a T (1 * 12 + k)) (b := h_s S k) (by omega) (by omega)
  have h5 := i_addI (a := h_s S k) (b := h_h S k) (by omega) (by omega)
  unfold m_false m_falser
  rw [lackr_eq, Bool.eq_iff_iff, Bool.and_eq_true, Bool.and_eq_true, Bool.not_eq_true', Bool.not_eq_true', Bool.not_eq_true', decide_eq_false_iff_not, decide_eq_false_iff_not, decide_eq_false_iff_not, decide_eq_true_eq, Int32.le_iff_toInt_le, Int32.lt_iff_toInt_lt, Int32.le_iff_toInt_le, Int32.le_iff_toInt_le, h5, i_0]
  rcases mx_c 0 (t_a T (1 * 12 + k) - h_s S k) with ⟨a, e⟩ | ⟨a, e⟩ <;> rw [e] <;> rw [i_0] at a <;> (try rw [i_0]) <;> omega
theorem fr_r {T : St} {S : Sh} (hT : TBB T) (hS : SB S) {g : Nat} (hg : g < 6) : (m_fr T S g).toInt ≤ 40 := by
  have ih := pg_b hT hS g (by omega)
  have hr := room_b (S := S) hT
  have b6 := m_from_lt S
  have h1 := i_subI (a := m_room T S) (b := m_pg T S g) (by omega) (by omega)
  have h3 := lack_b hT hS (k := 2 * g + (1 - m_from S)) (by omega)
  have h2 := moved_b (s := h_s S (2 * g + m_from S)) (l := m_lack T S (2 * g + (1 - m_from S))) (r := m_room T S - m_pg T S g) (hS _ (by omega)).1 h3.1 (by omega)
  unfold m_fr
  omega
theorem cS_40 {T : St} {S : Sh} (hT : TBB T) (hS : SB S) {g j : Nat} (hg : g ≤ 6) (hj : j < 12) : (m_cS T S g j).toInt ≤ (h_s S j).toInt + 40 := by
  have b6 := m_from_lt S
  have hb := hS j hj
  by_cases c : 2 * g ≤ j
  · rw [cS_ge c]
    omega
  · have hf := fr_b hT hS (g := j / 2) (by omega)
    have hf4 := fr_r hT hS (g := j / 2) (by omega)
    by_cases d : j = 2 * (j / 2) + m_from S
    · have e := cS_1 (T := T) (S := S) (k := j / 2) (g := g) (by omega)
      rw [← d] at e hf
      rw [e, i_subI (by omega) (by omega)]
      omega
    · have d2 : j = 2 * (j / 2) + (1 - m_from S) := by omega
      have e := cS_2 (T := T) (S := S) (k := j / 2) (g := g) (by omega)
      rw [← d2] at e hf
      have hf2 := hf.2.2
      rw [e, i_addI (by omega) (by omega)]
      omega
theorem HB_day {T : St} {S : Sh} (hT : TBB T) (hS : SB S) (hg : t_g T ≤ 6) (hH : HB S) : HB (m_day T S) := by
  intro k hk
  have h1 := hH k hk
  have h2 := cS_40 hT hS (g := t_g T) (j := k) hg hk
  have h3 := SB_carry hT hS hg k hk
  refine ⟨h1.1, ?_⟩
  show (m_eS T (m_carry T S) (2 * t_g T) k).toInt + (h_h S k).toInt ≤ 250 + 290 * ((h_d S + 1 : Nat) : Int)
  have h4 : (m_eS T (m_carry T S) (2 * t_g T) k).toInt ≤ (m_cS T S (t_g T) k).toInt + 250 := by
    by_cases c : 2 * t_g T ≤ k
    · rw [eS_ge c]
      show (m_cS T S (t_g T) k).toInt ≤ _
      omega
    · rw [eS_lt (by omega)]
      have h5 := left_b hT hk h3.1 h3.2
      have a := hT.2.2 (36 + k) (by omega)
      have b := hT.2.2 (24 + k) (by omega)
      have h3' : 0 ≤ (m_cS T S (t_g T) k).toInt ∧ (m_cS T S (t_g T) k).toInt ≤ 999 := h3
      have e1 : h_s (m_carry T S) k = m_cS T S (t_g T) k := rfl
      rw [e1] at h5 ⊢
      have c2 := i_addI (a := m_cS T S (t_g T) k) (b := t_a T (36 + k)) (by omega) (by omega)
      have d : (ab_min 999 (m_cS T S (t_g T) k + t_a T (36 + k))).toInt ≤ (m_cS T S (t_g T) k).toInt + (t_a T (36 + k)).toInt := by
        rcases mn_c 999 (m_cS T S (t_g T) k + t_a T (36 + k)) with ⟨q, e⟩ | ⟨q, e⟩ <;> rw [e] <;> rw [i_999] at q <;> (try rw [i_999]) <;> omega
      rcases mx_c 0 (m_left T k (m_cS T S (t_g T) k)) with ⟨q, e⟩ | ⟨q, e⟩ <;> rw [e] <;> rw [i_0] at q <;> (try rw [i_0]) <;> omega
  have e2 : ((h_d S + 1 : Nat) : Int) = (h_d S : Int) + 1 := by omega
  rw [e2]
  omega
theorem HB_days {T : St} {S : Sh} (hT : TBB T) (hS : SB S) (hg : t_g T ≤ 6) (hH : HB S) : ∀ n, HB (m_days T S n)
  | 0 => hH
  | n + 1 => by
    by_cases h : h_d (m_days T S n) < 400
    · rw [m_days_s h]
      exact HB_day hT (SB_days hT hS hg n) hg (HB_days hT hS hg hH n)
    · rw [show m_days T S (n + 1) = m_days T S n from if_neg h]
      exact HB_days hT hS hg hH n
def bk (k : Nat) : Nat := (Int32.ofNat k &&& (Int32.ofNat k - 1)).toInt.toNat
set_option maxRecDepth 100000 in
theorem bk_all : ∀ k, k < 256 → ¬ k = 0 → Int32.ofNat k &&& (Int32.ofNat k - 1) = Int32.ofNat (bk k) ∧ bk k < k := by decide +kernel
theorem bk_ok (k : Nat) (h : k < 256) (h0 : ¬ k = 0) : Int32.ofNat k &&& (Int32.ofNat k - 1) = Int32.ofNat (bk k) ∧ bk k < k := bk_all k h h0
set_option maxRecDepth 100000 in
theorem jbc_all : ∀ k, k < 256 → jbc (Int32.ofNat k) = rbits 257 (Int32.ofNat k) := by decide +kernel
theorem jbc_rb (k : Nat) (h : k < 256) : jbc (Int32.ofNat k) = rbits 257 (Int32.ofNat k) := jbc_all k h
theorem rb_0 {n k : Nat} (h : k = 0) : rbits n (Int32.ofNat k) = 0 := by
  subst h
  cases n with
  | zero => rfl
  | succ n => exact if_pos rfl
theorem rb_step {n k v : Nat} {b : Int32} (hn : k < n) (hk : k < 256) (he : rbits 257 (Int32.ofNat v) = rbits n (Int32.ofNat k) + b) (h0 : ¬ k = 0) : bk k < n - 1 ∧ bk k < 256 ∧ rbits 257 (Int32.ofNat v) = rbits (n - 1) (Int32.ofNat (bk k)) + (b + 1) := by
  obtain ⟨a, c⟩ := bk_ok k hk h0
  refine ⟨by omega, by omega, ?_⟩
  rw [he]
  obtain ⟨m, rfl⟩ : ∃ m, n = m + 1 := ⟨n - 1, by omega⟩
  have e : rbits (m + 1) (Int32.ofNat k) = rbits m (Int32.ofNat k &&& (Int32.ofNat k - 1)) + 1 := if_neg (fun q => h0 ((i_eq (a := k) (b := 0) (by omega) (by omega)).mp q))
  rw [e, a]
  show rbits m (Int32.ofNat (bk k)) + 1 + b = rbits m (Int32.ofNat (bk k)) + (b + 1)
  rw [Int32.add_assoc, Int32.add_comm 1 b]
theorem small_bits {f : Nat → Bool} {g : Nat → Nat} {n : Nat} (hg : ∀ k, k < n → g k < 8) : ∃ v, v < 256 ∧ m_bits f g n = Int32.ofNat v := by
  refine ⟨(m_bits f g n).toBitVec.toNat, ?_, ?_⟩
  · refine Nat.lt_pow_two_of_testBit (n := 8) _ fun i hi => ?_
    cases e : (m_bits f g n).toBitVec.toNat.testBit i with
    | false => rfl
    | true =>
      have h : btb (m_bits f g n) i = true := e
      obtain ⟨k, h1, h2, h3⟩ := (bt_bits (fun k hk => by have := hg k hk; omega)).mp h
      have := hg k h1
      omega
  · refine Int32.toBitVec_inj.mp ?_
    show _ = BitVec.ofNat 32 _
    rw [BitVec.ofNat_toNat, BitVec.setWidth_eq]
theorem missers_small {T : St} {S : Sh} (hT : TW T) (m : Nat) : ∃ v, v < 256 ∧ m_missers T S m = Int32.ofNat v := small_bits fun k hk => by
  have h1 := (hT.2.2.2.1 k hk).1
  have h2 := hT.2.1
  omega
/-- men are dead or on a shore -/
def AB (T : St) (S : Sh) : Prop := ∀ k, k < t_m T → h_a S k = -1 ∨ h_a S k = 0 ∨ h_a S k = 1
theorem rat_clr {b : Int32} {m j : Nat} (hm : m < 32) (hj : j < 32) : btb (b &&& (1 <<< (Int32.ofNat m &&& 31) ^^^ (-1))) j = (btb b j && !decide (m = j)) := by
  rw [bt_and]
  congr 1
  unfold btb
  rw [Int32.toBitVec_xor, sh_bv m hm, BitVec.getLsbD_xor, BitVec.getLsbD_twoPow]
  have h1 : ((-1 : Int32).toBitVec).getLsbD j = true := by
    show (BitVec.allOnes 32).getLsbD j = true
    rw [BitVec.getLsbD_allOnes]
    exact decide_eq_true hj
  rw [h1]
  by_cases h : m = j
  · subst h
    simp [hm]
  · simp [h]
theorem rats_eq {T : St} {S : Sh} {b : Int32} (hA : AB T S) (h8 : t_m T ≤ 8) (h : ∀ j, j < 32 → btb b j = (btb (m_men T S 0 ||| m_men T S 1) j && !m_could T S j (t_n T))) : b = a_rats T S := by
  refine bt_ext fun j hj => ?_
  rw [h j hj, bt_or]
  unfold a_rats m_men
  have k1 : ∀ k, k < t_m T → id k < 32 := fun k hk => by show k < 32; omega
  rw [Bool.eq_iff_iff, Bool.and_eq_true, Bool.or_eq_true, bt_bits k1, bt_bits k1, bt_bits k1]
  constructor
  · rintro ⟨⟨k, a, c, rfl⟩ | ⟨k, a, c, rfl⟩, d⟩
    · refine ⟨k, a, ?_, rfl⟩
      have c' := of_decide_eq_true c
      unfold m_alive
      rw [c']
      have d' : (!m_could T S k (t_n T)) = true := d
      rw [d']
      decide
    · refine ⟨k, a, ?_, rfl⟩
      have c' := of_decide_eq_true c
      unfold m_alive
      rw [c']
      have d' : (!m_could T S k (t_n T)) = true := d
      rw [d']
      decide
  · rintro ⟨k, a, c, rfl⟩
    have c' := Bool.and_eq_true .. ▸ c
    refine ⟨?_, c'.2⟩
    have al := c'.1
    rcases hA k a with e | e | e
    · unfold m_alive at al
      rw [e] at al
      exact absurd al (by decide)
    · exact Or.inl ⟨k, a, decide_eq_true e, rfl⟩
    · exact Or.inr ⟨k, a, decide_eq_true e, rfl⟩
theorem pm_0 {T : St} {S : Sh} (h : 400 ≤ h_d S) : ∀ k, m_pm T S k = (0, 0)
  | 0 => rfl
  | k + 1 => by
    have ih := pm_0 (T := T) h k
    have er : m_room T S = 0 := if_neg (by omega)
    rw [m_pm_f (Or.inl (by rw [ih, er]; decide)), ih]
theorem board_0 {T : St} {S : Sh} (h : 400 ≤ h_d S) : m_board T S = 0 := by
  unfold m_board
  rw [pm_0 h]
