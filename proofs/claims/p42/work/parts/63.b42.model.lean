/-! ===== THE MODEL: what is told (St), what is so (Sh), and how they lie in the heap ===== -/
/-- goods, men, misses, load, amounts, who misses, whom, from how many days on, first shores -/
abbrev St : Type := Nat × Nat × Nat × Int32 × (Nat → Int32) × (Nat → Nat) × (Nat → Nat) × (Nat → Int32) × (Nat → Int32)
def t_g (T : St) : Nat := T.1
def t_m (T : St) : Nat := T.2.1
def t_n (T : St) : Nat := T.2.2.1
def t_l (T : St) : Int32 := T.2.2.2.1
def t_a (T : St) : Nat → Int32 := T.2.2.2.2.1
def t_r (T : St) : Nat → Nat := T.2.2.2.2.2.1
def t_d (T : St) : Nat → Nat := T.2.2.2.2.2.2.1
def t_dd (T : St) : Nat → Int32 := T.2.2.2.2.2.2.2.1
def t_fs (T : St) : Nat → Int32 := T.2.2.2.2.2.2.2.2
/-- it can be told: few enough; men that are -/
def TW (T : St) : Prop := t_g T ≤ 6 ∧ t_m T ≤ 8 ∧ t_n T ≤ 20 ∧ (∀ i, i < t_n T → t_r T i < t_m T ∧ t_d T i < t_m T) ∧ ∀ i j, i < t_n T → j < t_n T → t_r T i = t_r T j → t_d T i = t_d T j → i = j
/-- stocks, hoards, hunger, what came, shores (-1: dead), trips, days apart, the day, empty trips, room used -/
abbrev Sh : Type := (Nat → Int32) × (Nat → Int32) × (Nat → Int32) × (Nat → Int32) × (Nat → Int32) × (Nat → Int32) × (Nat → Int32) × Nat × Int32 × Int32
def h_s (S : Sh) : Nat → Int32 := S.1
def h_h (S : Sh) : Nat → Int32 := S.2.1
def h_u (S : Sh) : Nat → Int32 := S.2.2.1
def h_c (S : Sh) : Nat → Int32 := S.2.2.2.1
def h_a (S : Sh) : Nat → Int32 := S.2.2.2.2.1
def h_t (S : Sh) : Nat → Int32 := S.2.2.2.2.2.1
def h_p (S : Sh) : Nat → Int32 := S.2.2.2.2.2.2.1
def h_d (S : Sh) : Nat := S.2.2.2.2.2.2.2.1
def h_i (S : Sh) : Int32 := S.2.2.2.2.2.2.2.2.1
def h_r (S : Sh) : Int32 := S.2.2.2.2.2.2.2.2.2
/-- nothing but ints and longs at places of P changed -/
def FX (P : Nat → Prop) (F G : FW) : Prop := (∀ a k, ¬ P a → G.1 a k = F.1 a k) ∧ (∀ a k, ¬ P a → G.2.2.1 a k = F.2.2.1 a k) ∧ G.2.1 = F.2.1 ∧ G.2.2.2 = F.2.2.2
theorem FX.rf {P : Nat → Prop} {F : FW} : FX P F F := ⟨fun _ _ _ => rfl, fun _ _ _ => rfl, rfl, rfl⟩
theorem FX.tr {P : Nat → Prop} {F G H : FW} (a : FX P F G) (b : FX P G H) : FX P F H := ⟨fun q k h => (b.1 q k h).trans (a.1 q k h), fun q k h => (b.2.1 q k h).trans (a.2.1 q k h), b.2.2.1.trans a.2.2.1, b.2.2.2.trans a.2.2.2⟩
theorem FX.wd {P P' : Nat → Prop} {F G : FW} (a : FX P F G) (h : ∀ q, P q → P' q) : FX P' F G := ⟨fun q k c => a.1 q k (fun x => c (h q x)), fun q k c => a.2.1 q k (fun x => c (h q x)), a.2.2⟩
theorem FX.fp {P : Nat → Prop} {F G : FW} {a k : Nat} {x : Int32} (h : FX P F G) (ha : P a) : FX P F (fp G a k x) := ⟨fun q j c => (fp_ne (Or.inl (fun e : q = a => c (by rw [e]; exact ha)))).trans (h.1 q j c), h.2.1, h.2.2⟩
theorem FX.fcp {P : Nat → Prop} {F G : FW} {a b sp dp n : Nat} (h : FX P F G) (hb : P b) : FX P F (fcp G a b sp dp n) := ⟨fun q j c => (if_neg (fun e : q = b ∧ dp ≤ j ∧ j < dp + n => c (by rw [e.1]; exact hb))).trans (h.1 q j c), fun q j c => (if_neg (fun e : q = b ∧ dp ≤ j ∧ j < dp + n => c (by rw [e.1]; exact hb))).trans (h.2.1 q j c), h.2.2⟩
theorem FX.O7 {P : Nat → Prop} {F G : FW} {p : Nat} (h : FX P F G) (o : O7 F p) : O7 G p := fun j hj => by
  rw [h.2.2.1]
  exact o j hj
theorem fcp_0 {F : FW} {a b n j : Nat} (h : j < n) : (fcp F a b 0 0 n).1 b j = F.1 a j := by
  rw [fcp_in ⟨Nat.zero_le _, by omega⟩, show 0 + (j - 0) = j by omega]
/-- references that stay -/
def wires : List (Nat × Nat × Nat) := [(0, 0, 1), (0, 1, 3), (0, 2, 7), (0, 3, 10), (0, 4, 12), (0, 5, 20), (0, 6, 28), (0, 7, 36), (0, 8, 40), (0, 9, 41), (0, 10, 42), (0, 11, 43), (0, 12, 44), (1, 0, 2), (3, 0, 4), (3, 1, 5), (3, 2, 6), (7, 0, 8), (7, 1, 9), (10, 0, 11),
  (12, 0, 13), (12, 1, 14), (12, 2, 15), (12, 3, 16), (12, 4, 17), (12, 5, 18), (12, 6, 19), (20, 0, 21), (20, 1, 22), (20, 2, 23), (20, 3, 24), (20, 4, 25), (20, 5, 26), (20, 6, 27), (28, 0, 29), (28, 1, 30), (28, 2, 31), (28, 3, 32), (28, 4, 33), (28, 5, 34), (28, 6, 35),
  (36, 0, 37), (36, 1, 38), (36, 2, 39), (45, 0, 46), (45, 1, 47), (45, 2, 48), (45, 3, 49), (45, 4, 50), (45, 5, 51), (45, 6, 52), (53, 0, 54), (53, 1, 55), (53, 2, 56), (53, 3, 57), (53, 4, 58), (53, 5, 59), (53, 6, 60), (61, 0, 62), (61, 1, 63), (61, 2, 64), (65, 0, 66), (65, 1, 67), (65, 2, 68),
  (69, 1, 70), (69, 6, 71), (69, 7, 72), (69, 8, 73), (69, 9, 74), (69, 10, 75), (69, 21, 76), (69, 23, 77), (69, 24, 78), (69, 26, 79), (69, 27, 80), (69, 31, 81), (69, 33, 82), (69, 39, 83), (69, 40, 84), (69, 41, 85), (69, 42, 86)]
def GW (F : FW) : Prop := ∀ x ∈ wires, F.2.1 x.1 x.2.1 = .ref x.2.2
theorem GW.at {F : FW} (h : GW F) {a k b : Nat} (m : (a, k, b) ∈ wires) : F.2.1 a k = .ref b := h _ m
theorem GW.fx {P : Nat → Prop} {F G : FW} (h : GW F) (x : FX P F G) : GW G := fun q m => by
  rw [x.2.2.1]
  exact h q m
/-- an array's first n elements are f's -/
def AR (F : FW) (a n : Nat) (f : Nat → Int32) : Prop := ∀ j, j < n → F.1 a j = f j
def up1 (f : Nat → Int32) (i : Nat) (v : Int32) : Nat → Int32 := fun j => if j = i then v else f j
theorem up1_eq {f : Nat → Int32} {i : Nat} {v : Int32} : up1 f i v i = v := if_pos rfl
theorem up1_ne {f : Nat → Int32} {i j : Nat} {v : Int32} (h : j ≠ i) : up1 f i v j = f j := if_neg h
theorem fp_at {F : FW} {a k j : Nat} {x : Int32} : (fp F a k x).1 a j = if j = k then x else F.1 a j := by
  unfold fp
  by_cases h : j = k
  · simp [h]
  · simp [h]
theorem AR.up {F : FW} {a n i : Nat} {f : Nat → Int32} {v : Int32} (h : AR F a n f) : AR (fp F a i v) a n (up1 f i v) := fun j hj => by
  rw [fp_at, h j hj]
  rfl
theorem AR.ne {F : FW} {a b n i : Nat} {f : Nat → Int32} {v : Int32} (h : AR F a n f) (c : a ≠ b) : AR (fp F b i v) a n f := fun j hj => (fp_ne (Or.inl c)).trans (h j hj)
theorem AR.ext {F : FW} {a n : Nat} {f : Nat → Int32} {v : Int32} (h : AR F a n f) (e : v = f n) : AR (fp F a n v) a (n + 1) f := fun j hj => by
  rw [fp_at]
  by_cases c : j = n
  · rw [if_pos c, e, c]
  · rw [if_neg c, h j (by omega)]
theorem AR.cp {F : FW} {a b n m : Nat} {f : Nat → Int32} (h : AR F a n f) (c : n ≤ m) : AR (fcp F a b 0 0 m) b n f := fun j hj => (fcp_0 (by omega)).trans (h j hj)
theorem AR.cn {F : FW} {a b p n m sp dp : Nat} {f : Nat → Int32} (h : AR F p n f) (c : p ≠ b) : AR (fcp F a b sp dp m) p n f := fun j hj => (fcp_ne c).trans (h j hj)
theorem AR.z {F : FW} {a : Nat} {f : Nat → Int32} : AR F a 0 f := fun j hj => absurd hj (Nat.not_lt_zero j)
theorem AR.le {F : FW} {a n m : Nat} {f : Nat → Int32} (h : AR F a n f) (c : m ≤ n) : AR F a m f := fun j hj => h j (Nat.lt_of_lt_of_le hj c)
theorem AR.fx {P : Nat → Prop} {F G : FW} {a n : Nat} {f : Nat → Int32} (h : AR F a n f) (x : FX P F G) (c : ¬ P a) : AR G a n f := fun j hj => (x.1 a j c).trans (h j hj)
theorem AR.eq {F : FW} {a n : Nat} {f g : Nat → Int32} (h : AR F a n f) (e : f = g) : AR F a n g := e ▸ h
/-- a Strait at t -/
def TR (F : FW) (t : Nat) (T : St) : Prop := O7 F t ∧ TW T ∧ F.1 t 7 = t_l T ∧ F.1 t 8 = Int32.ofNat (t_g T) ∧ F.1 t 9 = Int32.ofNat (t_m T) ∧ F.1 t 10 = Int32.ofNat (t_n T) ∧ AR F (t + 4) 48 (t_a T) ∧ AR F (t + 5) (t_n T) (fun k => Int32.ofNat (t_r T k)) ∧ AR F (t + 6) (t_n T) (fun k => Int32.ofNat (t_d T k)) ∧ AR F (t + 7) (t_n T) (t_dd T) ∧ AR F (t + 3) (t_m T) (t_fs T)
/-- Shores at p; m MEN -/
def SHR (F : FW) (p m : Nat) (S : Sh) : Prop := O7 F p ∧ h_d S ≤ 400 ∧ AR F (p + 1) 12 (h_s S) ∧ AR F (p + 2) 12 (h_h S) ∧ AR F (p + 3) 12 (h_u S) ∧ AR F (p + 4) 12 (h_c S) ∧ AR F (p + 5) m (h_a S) ∧ AR F (p + 6) m (h_t S) ∧ AR F (p + 7) 64 (h_p S) ∧ F.1 p 7 = Int32.ofNat (h_d S) ∧ F.1 p 8 = h_i S ∧ F.1 p 9 = h_r S
section TRS
variable {F : FW} {q0 p0 n0 : Nat} {T : St} {S : Sh}
theorem TR.o (h : TR F q0 T) : O7 F q0 := h.1
theorem TR.w (h : TR F q0 T) : TW T := h.2.1
theorem TR.gb (h : TR F q0 T) : t_g T ≤ 6 := h.2.1.1
theorem TR.mb (h : TR F q0 T) : t_m T ≤ 8 := h.2.1.2.1
theorem TR.nb (h : TR F q0 T) : t_n T ≤ 20 := h.2.1.2.2.1
theorem TR.rb (h : TR F q0 T) {i : Nat} (hi : i < t_n T) : t_r T i < t_m T := (h.2.1.2.2.2.1 i hi).1
theorem TR.db (h : TR F q0 T) {i : Nat} (hi : i < t_n T) : t_d T i < t_m T := (h.2.1.2.2.2.1 i hi).2
theorem TR.l (h : TR F q0 T) : F.1 q0 7 = t_l T := h.2.2.1
theorem TR.g (h : TR F q0 T) : F.1 q0 8 = Int32.ofNat (t_g T) := h.2.2.2.1
theorem TR.m (h : TR F q0 T) : F.1 q0 9 = Int32.ofNat (t_m T) := h.2.2.2.2.1
theorem TR.n (h : TR F q0 T) : F.1 q0 10 = Int32.ofNat (t_n T) := h.2.2.2.2.2.1
theorem TR.a (h : TR F q0 T) : AR F (q0 + 4) 48 (t_a T) := h.2.2.2.2.2.2.1
theorem TR.r (h : TR F q0 T) : AR F (q0 + 5) (t_n T) (fun k => Int32.ofNat (t_r T k)) := h.2.2.2.2.2.2.2.1
theorem TR.d (h : TR F q0 T) : AR F (q0 + 6) (t_n T) (fun k => Int32.ofNat (t_d T k)) := h.2.2.2.2.2.2.2.2.1
theorem TR.dd (h : TR F q0 T) : AR F (q0 + 7) (t_n T) (t_dd T) := h.2.2.2.2.2.2.2.2.2.1
theorem TR.f (h : TR F q0 T) : AR F (q0 + 3) (t_m T) (t_fs T) := h.2.2.2.2.2.2.2.2.2.2
theorem TR.fx {P : Nat → Prop} {G : FW} (h : TR F q0 T) (x : FX P F G) (c : ∀ a, q0 ≤ a → a ≤ q0 + 7 → ¬ P a) : TR G q0 T :=
  ⟨x.O7 h.o, h.w, (x.1 _ _ (c _ (by omega) (by omega))).trans h.l, (x.1 _ _ (c _ (by omega) (by omega))).trans h.g, (x.1 _ _ (c _ (by omega) (by omega))).trans h.m, (x.1 _ _ (c _ (by omega) (by omega))).trans h.n,
   h.a.fx x (c _ (by omega) (by omega)), h.r.fx x (c _ (by omega) (by omega)), h.d.fx x (c _ (by omega) (by omega)), h.dd.fx x (c _ (by omega) (by omega)), h.f.fx x (c _ (by omega) (by omega))⟩
theorem SHR.o (h : SHR F p0 n0 S) : O7 F p0 := h.1
theorem SHR.db (h : SHR F p0 n0 S) : h_d S ≤ 400 := h.2.1
theorem SHR.s (h : SHR F p0 n0 S) : AR F (p0 + 1) 12 (h_s S) := h.2.2.1
theorem SHR.h (h : SHR F p0 n0 S) : AR F (p0 + 2) 12 (h_h S) := h.2.2.2.1
theorem SHR.u (h : SHR F p0 n0 S) : AR F (p0 + 3) 12 (h_u S) := h.2.2.2.2.1
theorem SHR.c (h : SHR F p0 n0 S) : AR F (p0 + 4) 12 (h_c S) := h.2.2.2.2.2.1
theorem SHR.a (h : SHR F p0 n0 S) : AR F (p0 + 5) n0 (h_a S) := h.2.2.2.2.2.2.1
theorem SHR.t (h : SHR F p0 n0 S) : AR F (p0 + 6) n0 (h_t S) := h.2.2.2.2.2.2.2.1
theorem SHR.p (h : SHR F p0 n0 S) : AR F (p0 + 7) 64 (h_p S) := h.2.2.2.2.2.2.2.2.1
theorem SHR.d (h : SHR F p0 n0 S) : F.1 p0 7 = Int32.ofNat (h_d S) := h.2.2.2.2.2.2.2.2.2.1
theorem SHR.i (h : SHR F p0 n0 S) : F.1 p0 8 = h_i S := h.2.2.2.2.2.2.2.2.2.2.1
theorem SHR.r (h : SHR F p0 n0 S) : F.1 p0 9 = h_r S := h.2.2.2.2.2.2.2.2.2.2.2
theorem SHR.fx {P : Nat → Prop} {G : FW} (h : SHR F p0 n0 S) (x : FX P F G) (c : ∀ a, p0 ≤ a → a ≤ p0 + 7 → ¬ P a) : SHR G p0 n0 S :=
  ⟨x.O7 h.o, h.db, h.s.fx x (c _ (by omega) (by omega)), h.h.fx x (c _ (by omega) (by omega)), h.u.fx x (c _ (by omega) (by omega)), h.c.fx x (c _ (by omega) (by omega)), h.a.fx x (c _ (by omega) (by omega)), h.t.fx x (c _ (by omega) (by omega)), h.p.fx x (c _ (by omega) (by omega)),
   (x.1 _ _ (c _ (by omega) (by omega))).trans h.d, (x.1 _ _ (c _ (by omega) (by omega))).trans h.i, (x.1 _ _ (c _ (by omega) (by omega))).trans h.r⟩
end TRS
/-! ===== a DAY ===== -/
def m_lack (T : St) (S : Sh) (k : Nat) : Int32 := ab_max 0 (t_a T (1 * 12 + k) - h_s S k)
def m_false (T : St) (S : Sh) (k : Nat) : Bool := !decide (t_a T (1 * 12 + k) ≤ h_s S k) && !decide (h_s S k + h_h S k < t_a T (1 * 12 + k))
def m_left (T : St) (k : Nat) (x : Int32) : Int32 := ab_min 999 (x + t_a T (36 + k)) - t_a T (24 + k)
def m_apart (S : Sh) (m o : Nat) : Int32 := if o < m then h_p S (m * 8 + o) else h_p S (o * 8 + m)
def m_alive (S : Sh) (m : Nat) : Bool := !decide (h_a S m = -1)
def m_felt (T : St) (S : Sh) (k : Nat) : Bool := m_alive S (t_r T k) && m_alive S (t_d T k) && !decide (h_a S (t_r T k) = h_a S (t_d T k)) && !decide (m_apart S (t_r T k) (t_d T k) < t_dd T k)
/-- bits of those k below n of which f says so, at g k -/
def m_bits (f : Nat → Bool) (g : Nat → Nat) : Nat → Int32
  | 0 => 0
  | k + 1 => cond (f k) (m_bits f g k ||| 1 <<< (Int32.ofNat (g k) &&& 31)) (m_bits f g k)
def m_missed (T : St) (S : Sh) : Int32 := m_bits (m_felt T S) (t_d T) (t_n T)
def m_missers (T : St) (S : Sh) (m : Nat) : Int32 := m_bits (fun k => decide (t_d T k = m) && m_felt T S k) (t_r T) (t_n T)
def m_misses (T : St) (S : Sh) (m : Nat) : Int32 := m_bits (fun k => decide (t_r T k = m) && m_felt T S k) (t_d T) (t_n T)
def m_could (T : St) (S : Sh) (m : Nat) : Nat → Bool
  | 0 => false
  | k + 1 => m_could T S m k || (decide (t_d T k = m) && m_alive S (t_r T k))
def m_men (T : St) (S : Sh) (x : Int32) : Int32 := m_bits (fun m => decide (h_a S m = x)) id (t_m T)
def m_sum (f : Nat → Int32) : Nat → Int32
  | 0 => 0
  | k + 1 => m_sum f k + f k
def m_room (T : St) (S : Sh) : Int32 := if h_d S < 400 then t_l T else 0
def m_from (S : Sh) : Nat := h_d S % 2
def m_bit (b : Int32) (m : Nat) : Bool := !decide (b &&& 1 <<< (Int32.ofNat m &&& 31) = 0)
/-- who goes over, and the room that they take -/
def m_pm (T : St) (S : Sh) : Nat → Int32 × Int32
  | 0 => (0, 0)
  | m + 1 => if ¬ m_room T S - (m_pm T S m).2 < 2 ∧ h_a S m = Int32.ofNat (m_from S) ∧ m_bit (m_missed T S) m = true then ((m_pm T S m).1 ||| 1 <<< (Int32.ofNat m &&& 31), (m_pm T S m).2 + 2) else m_pm T S m
def m_moved (s l r : Int32) : Int32 := ab_max 0 (ab_min s (ab_min l r))
/-- the room that is used when it is a GOOD's turn -/
def m_pg (T : St) (S : Sh) : Nat → Int32
  | 0 => (m_pm T S (t_m T)).2
  | g + 1 => m_pg T S g + m_moved (h_s S (2 * g + m_from S)) (m_lack T S (2 * g + (1 - m_from S))) (m_room T S - m_pg T S g)
def m_fr (T : St) (S : Sh) (g : Nat) : Int32 := m_moved (h_s S (2 * g + m_from S)) (m_lack T S (2 * g + (1 - m_from S))) (m_room T S - m_pg T S g)
def m_board (T : St) (S : Sh) : Int32 := (m_pm T S (t_m T)).1
/-- what the men's way over does; the goods' -/
def m_cA (T : St) (S : Sh) : Nat → Nat → Int32
  | 0 => h_a S
  | k + 1 => if m_bit (m_board T S) k = true then up1 (m_cA T S k) k (Int32.ofNat (1 - m_from S)) else m_cA T S k
def m_cT (T : St) (S : Sh) : Nat → Nat → Int32
  | 0 => h_t S
  | k + 1 => if m_bit (m_board T S) k = true then up1 (m_cT T S k) k (m_cT T S k k + 1) else m_cT T S k
def m_cS (T : St) (S : Sh) : Nat → Nat → Int32
  | 0 => h_s S
  | g + 1 => up1 (up1 (m_cS T S g) (2 * g + m_from S) (m_cS T S g (2 * g + m_from S) - m_fr T S g)) (2 * g + (1 - m_from S)) (m_cS T S g (2 * g + (1 - m_from S)) + m_fr T S g)
def m_cC (T : St) (S : Sh) : Nat → Nat → Int32
  | 0 => h_c S
  | g + 1 => up1 (m_cC T S g) (2 * g + (1 - m_from S)) (m_cC T S g (2 * g + (1 - m_from S)) + m_fr T S g)
def m_carry (T : St) (S : Sh) : Sh :=
  (m_cS T S (t_g T), h_h S, h_u S, m_cC T S (t_g T), m_cA T S (t_m T), m_cT T S (t_m T), h_p S, h_d S, if m_pg T S (t_g T) = 0 then h_i S + 1 else h_i S, h_r S + m_pg T S (t_g T))
def m_eS (T : St) (S : Sh) : Nat → Nat → Int32
  | 0 => h_s S
  | k + 1 => up1 (m_eS T S k) k (ab_max 0 (m_left T k (m_eS T S k k)))
def m_eU (T : St) (S : Sh) : Nat → Nat → Int32
  | 0 => h_u S
  | k + 1 => if m_left T k (m_eS T S k k) < 0 then up1 (m_eU T S k) k (m_eU T S k k - m_left T k (m_eS T S k k)) else m_eU T S k
def m_eat (T : St) (S : Sh) : Sh := (m_eS T S (2 * t_g T), h_h S, m_eU T S (2 * t_g T), S.2.2.2)
def m_cI (S : Sh) (f : Nat → Int32) (m : Nat) : Nat → Nat → Int32
  | 0 => f
  | o + 1 => up1 (m_cI S f m o) (m * 8 + o) (if h_a S m = h_a S o then 0 else m_cI S f m o (m * 8 + o) + 1)
def m_cP (S : Sh) : Nat → Nat → Int32
  | 0 => h_p S
  | m + 1 => m_cI S (m_cP S m) m m
def m_count (T : St) (S : Sh) : Sh := (h_s S, h_h S, h_u S, h_c S, h_a S, h_t S, m_cP S (t_m T), S.2.2.2.2.2.2.2)
def m_tick (S : Sh) : Sh := (h_s S, h_h S, h_u S, h_c S, h_a S, h_t S, h_p S, h_d S + 1, h_i S, h_r S)
def m_day (T : St) (S : Sh) : Sh := m_tick (m_count T (m_eat T (m_carry T S)))
/-- n DAYS go by, as long as there are some left -/
def m_days (T : St) (S : Sh) : Nat → Sh
  | 0 => S
  | n + 1 => if h_d (m_days T S n) < 400 then m_day T (m_days T S n) else m_days T S n
theorem b2_t {b : Bool} (h : b = true) : some (Value.int 1) = some (Value.int (b2i b)) := by rw [h]; rfl
theorem b2_f {b : Bool} (h : b = false) : some (Value.int 0) = some (Value.int (b2i b)) := by rw [h]; rfl
theorem i_rem2 {a : Nat} (h : a < 2147483648) : Int32.ofNat a - Int32.ofNat a / 2 * 2 = Int32.ofNat (a % 2) := by
  have e : (Int32.ofNat a).toInt = a := i_toInt h
  rw [← Int32.toInt_inj, i_toInt (by omega), Int32.toInt_sub, Int32.toInt_mul, Int32.toInt_div, e, show (2 : Int32).toInt = 2 from rfl]
  have h1 : ((a : Int).tdiv 2) = ((a / 2 : Nat) : Int) := by
    rw [Int.tdiv_eq_ediv_of_nonneg (by omega)]
    omega
  have h2 : Int.bmod ((a : Int).tdiv 2) (2 ^ 32) = ((a / 2 : Nat) : Int) := by
    rw [h1]
    exact Int.bmod_eq_of_le (by omega) (by omega)
  rw [h2]
  have h3 : Int.bmod (((a / 2 : Nat) : Int) * 2) (2 ^ 32) = ((a / 2 : Nat) : Int) * 2 := Int.bmod_eq_of_le (by omega) (by omega)
  rw [h3]
  have h4 : (a : Int) - ((a / 2 : Nat) : Int) * 2 = ((a % 2 : Nat) : Int) := by omega
  rw [h4]
  exact Int.bmod_eq_of_le (by omega) (by omega)
theorem i_1m {a : Nat} (h : a ≤ 1) : (1 : Int32) - Int32.ofNat a = Int32.ofNat (1 - a) := by
  have : a = 0 ∨ a = 1 := by omega
  rcases this with rfl | rfl <;> rfl
theorem b2z {b : Bool} : b2i b = 0 ↔ b = false := by cases b <;> decide
theorem b2n {b : Bool} : ¬ b2i b = 0 ↔ b = true := by cases b <;> decide
theorem m_bits_t {f : Nat → Bool} {g : Nat → Nat} {k : Nat} (h : f k = true) : m_bits f g (k + 1) = m_bits f g k ||| 1 <<< (Int32.ofNat (g k) &&& 31) := by
  show cond (f k) _ _ = _
  rw [h]
  rfl
theorem m_bits_f {f : Nat → Bool} {g : Nat → Nat} {k : Nat} (h : f k = false) : m_bits f g (k + 1) = m_bits f g k := by
  show cond (f k) _ _ = _
  rw [h]
  rfl
theorem m_pm_t {T : St} {S : Sh} {m : Nat} (h1 : ¬ m_room T S - (m_pm T S m).2 < 2) (h2 : h_a S m = Int32.ofNat (m_from S)) (h3 : m_bit (m_missed T S) m = true) : m_pm T S (m + 1) = ((m_pm T S m).1 ||| 1 <<< (Int32.ofNat m &&& 31), (m_pm T S m).2 + 2) := if_pos ⟨h1, h2, h3⟩
theorem m_pm_f {T : St} {S : Sh} {m : Nat} (h : m_room T S - (m_pm T S m).2 < 2 ∨ ¬ h_a S m = Int32.ofNat (m_from S) ∨ m_bit (m_missed T S) m = false) : m_pm T S (m + 1) = m_pm T S m := if_neg (fun c => by
  rcases h with h | h | h
  · exact c.1 h
  · exact h c.2.1
  · rw [c.2.2] at h
    cases h)
theorem m_pm_x {T : St} {S : Sh} {m : Nat} (h : m_room T S - (m_pm T S m).2 < 2) : ∀ k, m_pm T S (m + k) = m_pm T S m
  | 0 => rfl
  | k + 1 => by
    have e := m_pm_x h k
    rw [show m + (k + 1) = m + k + 1 from rfl, m_pm_f (Or.inl (by rw [e]; exact h)), e]
theorem m_pm_e {T : St} {S : Sh} {m : Nat} (hm : m ≤ t_m T) (h : t_m T ≤ m ∨ m_room T S - (m_pm T S m).2 < 2) : m_pm T S (t_m T) = m_pm T S m := by
  rcases h with h | h
  · rw [show t_m T = m by omega]
  · have e := m_pm_x h (t_m T - m)
    rw [show m + (t_m T - m) = t_m T by omega] at e
    exact e
theorem m_could_t {T : St} {S : Sh} {m k n : Nat} (hk : k < n) (h : (decide (t_d T k = m) && m_alive S (t_r T k)) = true) : m_could T S m n = true := by
  induction n with
  | zero => omega
  | succ n ih =>
    show (m_could T S m n || _) = true
    by_cases e : k = n
    · subst e
      rw [h, Bool.or_true]
    · rw [ih (by omega), Bool.true_or]
/-- what a plan says -/
def PLN (F : FW) (T : St) (S : Sh) : Prop := F.1 7 2 = m_board T S ∧ F.1 7 3 = m_pg T S (t_g T) ∧ AR F 8 (t_g T) (m_fr T S) ∧ AR F 9 (t_g T) (fun g => m_room T S - m_pg T S g)
theorem PLN.fx {P : Nat → Prop} {F G : FW} {T : St} {S : Sh} (h : PLN F T S) (x : FX P F G) (c : ∀ a, 7 ≤ a → a ≤ 9 → ¬ P a) : PLN G T S :=
  ⟨(x.1 _ _ (c _ (by omega) (by omega))).trans h.1, (x.1 _ _ (c _ (by omega) (by omega))).trans h.2.1, h.2.2.1.fx x (c _ (by omega) (by omega)), h.2.2.2.fx x (c _ (by omega) (by omega))⟩
theorem m_from_lt (S : Sh) : m_from S < 2 := Nat.mod_lt _ (by decide)
theorem m_days_s {T : St} {S : Sh} {n : Nat} (h : h_d (m_days T S n) < 400) : m_days T S (n + 1) = m_day T (m_days T S n) := if_pos h
theorem m_days_x {T : St} {S : Sh} {n : Nat} (h : ¬ h_d (m_days T S n) < 400) : ∀ k, m_days T S (n + k) = m_days T S n
  | 0 => rfl
  | k + 1 => by
    have e := m_days_x h k
    show (if h_d (m_days T S (n + k)) < 400 then _ else m_days T S (n + k)) = _
    rw [e, if_neg h]
theorem m_days_e {T : St} {S : Sh} {k n : Nat} (hk : k ≤ n) (h : ¬ h_d (m_days T S k) < 400) : m_days T S n = m_days T S k := by
  have e := m_days_x h (n - k)
  rw [show k + (n - k) = n by omega] at e
  exact e
