/-! ===== THE MODEL in the reference: all of it in one array, at 71 ===== -/
def AX (F : FW) (o n : Nat) (f : Nat → Int32) : Prop := ∀ j, j < n → F.1 71 (o + j) = f j
theorem AX.up {F : FW} {o n i : Nat} {f : Nat → Int32} {v : Int32} (h : AX F o n f) : AX (fp F 71 (o + i) v) o n (up1 f i v) := fun j hj => by
  rw [fp_at, h j hj]
  unfold up1
  by_cases c : j = i
  · rw [if_pos c, if_pos (by omega)]
  · rw [if_neg c, if_neg (by omega)]
theorem AX.ne {F : FW} {o n i : Nat} {f : Nat → Int32} {v : Int32} (h : AX F o n f) (c : i < o ∨ o + n ≤ i) : AX (fp F 71 i v) o n f := fun j hj => (fp_ne (Or.inr (by omega))).trans (h j hj)
theorem AX.no {F : FW} {o n i a : Nat} {f : Nat → Int32} {v : Int32} (h : AX F o n f) (c : a ≠ 71) : AX (fp F a i v) o n f := fun j hj => (fp_ne (Or.inl (fun e => c e.symm))).trans (h j hj)
theorem AX.eq {F : FW} {o n : Nat} {f g : Nat → Int32} (h : AX F o n f) (e : f = g) : AX F o n g := e ▸ h
theorem AX.le {F : FW} {o n m : Nat} {f : Nat → Int32} (h : AX F o n f) (c : m ≤ n) : AX F o m f := fun j hj => h j (Nat.lt_of_lt_of_le hj c)
/-- is a bit there? -/
def xbit (b : Int32) (m : Nat) : Bool := decide ((b >>> (Int32.ofNat m &&& 31)) &&& 1 = 1)
/-- a Strait in the first 120 -/
def XT (F : FW) (T : St) : Prop := TW T ∧ F.1 71 0 = Int32.ofNat (t_g T) ∧ F.1 71 1 = Int32.ofNat (t_m T) ∧ F.1 71 2 = t_l T ∧ F.1 71 3 = Int32.ofNat (t_n T) ∧ AX F 4 12 (fun k => t_a T (0 * 12 + k)) ∧ AX F 16 12 (fun k => t_a T (1 * 12 + k)) ∧ AX F 28 12 (fun k => t_a T (24 + k)) ∧ AX F 40 12 (fun k => t_a T (36 + k)) ∧
  AX F 60 (t_n T) (fun k => Int32.ofNat (t_r T k)) ∧ AX F 80 (t_n T) (fun k => Int32.ofNat (t_d T k)) ∧ AX F 100 (t_n T) (t_dd T) ∧ AX F 52 (t_m T) (t_fs T)
/-- Shores from 120 on -/
def XS (F : FW) (m : Nat) (S : Sh) : Prop := h_d S ≤ 400 ∧ F.1 71 120 = Int32.ofNat (h_d S) ∧ F.1 71 121 = h_i S ∧ F.1 71 122 = h_r S ∧ F.1 71 123 = m_sum (h_u S) 12 ∧ AX F 124 12 (h_s S) ∧ AX F 136 12 (h_h S) ∧ AX F 148 12 (h_u S) ∧ AX F 160 12 (h_c S) ∧
  (∀ k, k < m → xbit (F.1 71 180) k = !m_alive S k) ∧ (∀ k, k < m → m_alive S k = true → F.1 71 (172 + k) = h_a S k) ∧ AX F 181 m (h_t S) ∧ ∀ k j, k < m → j < m → k ≠ j → m_alive S k = true → m_alive S j = true → F.1 71 (189 + 8 * k + j) = m_apart S k j
section XTS
variable {F : FW} {n0 : Nat} {T : St} {S : Sh}
theorem XT.w (h : XT F T) : TW T := h.1
theorem XT.gb (h : XT F T) : t_g T ≤ 6 := h.1.1
theorem XT.mb (h : XT F T) : t_m T ≤ 8 := h.1.2.1
theorem XT.nb (h : XT F T) : t_n T ≤ 20 := h.1.2.2.1
theorem XT.rb (h : XT F T) {i : Nat} (hi : i < t_n T) : t_r T i < t_m T := (h.1.2.2.2.1 i hi).1
theorem XT.db (h : XT F T) {i : Nat} (hi : i < t_n T) : t_d T i < t_m T := (h.1.2.2.2.1 i hi).2
theorem XT.g (h : XT F T) : F.1 71 0 = Int32.ofNat (t_g T) := h.2.1
theorem XT.m (h : XT F T) : F.1 71 1 = Int32.ofNat (t_m T) := h.2.2.1
theorem XT.l (h : XT F T) : F.1 71 2 = t_l T := h.2.2.2.1
theorem XT.n (h : XT F T) : F.1 71 3 = Int32.ofNat (t_n T) := h.2.2.2.2.1
theorem XT.s (h : XT F T) : AX F 4 12 (fun k => t_a T (0 * 12 + k)) := h.2.2.2.2.2.1
theorem XT.wa (h : XT F T) : AX F 16 12 (fun k => t_a T (1 * 12 + k)) := h.2.2.2.2.2.2.1
theorem XT.e (h : XT F T) : AX F 28 12 (fun k => t_a T (24 + k)) := h.2.2.2.2.2.2.2.1
theorem XT.k (h : XT F T) : AX F 40 12 (fun k => t_a T (36 + k)) := h.2.2.2.2.2.2.2.2.1
theorem XT.r (h : XT F T) : AX F 60 (t_n T) (fun k => Int32.ofNat (t_r T k)) := h.2.2.2.2.2.2.2.2.2.1
theorem XT.d (h : XT F T) : AX F 80 (t_n T) (fun k => Int32.ofNat (t_d T k)) := h.2.2.2.2.2.2.2.2.2.2.1
theorem XT.dd (h : XT F T) : AX F 100 (t_n T) (t_dd T) := h.2.2.2.2.2.2.2.2.2.2.2.1
theorem XT.f (h : XT F T) : AX F 52 (t_m T) (t_fs T) := h.2.2.2.2.2.2.2.2.2.2.2.2
theorem XS.db (h : XS F n0 S) : h_d S ≤ 400 := h.1
theorem XS.d (h : XS F n0 S) : F.1 71 120 = Int32.ofNat (h_d S) := h.2.1
theorem XS.i (h : XS F n0 S) : F.1 71 121 = h_i S := h.2.2.1
theorem XS.r (h : XS F n0 S) : F.1 71 122 = h_r S := h.2.2.2.1
theorem XS.st (h : XS F n0 S) : F.1 71 123 = m_sum (h_u S) 12 := h.2.2.2.2.1
theorem XS.s (h : XS F n0 S) : AX F 124 12 (h_s S) := h.2.2.2.2.2.1
theorem XS.h (h : XS F n0 S) : AX F 136 12 (h_h S) := h.2.2.2.2.2.2.1
theorem XS.u (h : XS F n0 S) : AX F 148 12 (h_u S) := h.2.2.2.2.2.2.2.1
theorem XS.c (h : XS F n0 S) : AX F 160 12 (h_c S) := h.2.2.2.2.2.2.2.2.1
theorem XS.de (h : XS F n0 S) {k : Nat} (hk : k < n0) : xbit (F.1 71 180) k = !m_alive S k := h.2.2.2.2.2.2.2.2.2.1 k hk
theorem XS.a (h : XS F n0 S) {k : Nat} (hk : k < n0) (l : m_alive S k = true) : F.1 71 (172 + k) = h_a S k := h.2.2.2.2.2.2.2.2.2.2.1 k hk l
theorem XS.t (h : XS F n0 S) : AX F 181 n0 (h_t S) := h.2.2.2.2.2.2.2.2.2.2.2.1
theorem XS.p (h : XS F n0 S) {k j : Nat} (hk : k < n0) (hj : j < n0) (c : k ≠ j) (a : m_alive S k = true) (b : m_alive S j = true) : F.1 71 (189 + 8 * k + j) = m_apart S k j := h.2.2.2.2.2.2.2.2.2.2.2.2 k j hk hj c a b
theorem XT.of {G : FW} (h : XT F T) (x : ∀ k, k < 120 → G.1 71 k = F.1 71 k) : XT G T := by
  have b1 := h.mb
  have b2 := h.nb
  exact ⟨h.w, (x _ (by omega)).trans h.g, (x _ (by omega)).trans h.m, (x _ (by omega)).trans h.l, (x _ (by omega)).trans h.n, fun j hj => (x _ (by omega)).trans (h.s j hj), fun j hj => (x _ (by omega)).trans (h.wa j hj), fun j hj => (x _ (by omega)).trans (h.e j hj), fun j hj => (x _ (by omega)).trans (h.k j hj),
    fun j hj => (x _ (by omega)).trans (h.r j hj), fun j hj => (x _ (by omega)).trans (h.d j hj), fun j hj => (x _ (by omega)).trans (h.dd j hj), fun j hj => (x _ (by omega)).trans (h.f j hj)⟩
theorem XS.of {G : FW} (h : XS F n0 S) (hm : n0 ≤ 8) (x : ∀ k, 120 ≤ k → k < 253 → G.1 71 k = F.1 71 k) : XS G n0 S := by
  refine ⟨h.db, (x _ (by omega) (by omega)).trans h.d, (x _ (by omega) (by omega)).trans h.i, (x _ (by omega) (by omega)).trans h.r, (x _ (by omega) (by omega)).trans h.st, fun j hj => (x _ (by omega) (by omega)).trans (h.s j hj), fun j hj => (x _ (by omega) (by omega)).trans (h.h j hj), fun j hj => (x _ (by omega) (by omega)).trans (h.u j hj), fun j hj => (x _ (by omega) (by omega)).trans (h.c j hj),
    fun k hk => ?_, fun k hk l => (x _ (by omega) (by omega)).trans (h.a hk l), fun j hj => (x _ (by omega) (by omega)).trans (h.t j hj), fun k j hk hj c a b => (x _ (by omega) (by omega)).trans (h.p hk hj c a b)⟩
  rw [x _ (by omega) (by omega)]
  exact h.de hk
end XTS
/-- the reference's own cells that a DAY writes -/
def RX (F G : FW) : Prop := FX (fun q => q = 69 ∨ q = 71) F G ∧ (∀ k, k ≠ 22 → G.1 69 k = F.1 69 k) ∧ ∀ k, k < 120 ∨ 253 ≤ k → G.1 71 k = F.1 71 k
theorem RX.rf {F : FW} : RX F F := ⟨FX.rf, fun _ _ => rfl, fun _ _ => rfl⟩
theorem RX.tr {F G H : FW} (a : RX F G) (b : RX G H) : RX F H := ⟨a.1.tr b.1, fun k h => (b.2.1 k h).trans (a.2.1 k h), fun k h => (b.2.2 k h).trans (a.2.2 k h)⟩
theorem RX.s {F G : FW} {k : Nat} {v : Int32} (h : RX F G) (a : 120 ≤ k) (b : k < 253) : RX F (fp G 71 k v) := ⟨h.1.fp (Or.inr rfl), fun j hj => (fp_ne (Or.inl (by decide))).trans (h.2.1 j hj), fun j hj => (fp_ne (Or.inr (by omega))).trans (h.2.2 j hj)⟩
theorem RX.r {F G : FW} {v : Int32} (h : RX F G) : RX F (fp G 69 22 v) := ⟨h.1.fp (Or.inl rfl), fun j hj => (fp_ne (Or.inr hj)).trans (h.2.1 j hj), fun j hj => (fp_ne (Or.inl (by decide))).trans (h.2.2 j hj)⟩
theorem RX.T {F G : FW} {T : St} (h : RX F G) (t : XT F T) : XT G T := t.of fun k hk => h.2.2 k (Or.inl hk)
theorem RX.G {F G : FW} (h : RX F G) (g : GW F) : GW G := g.fx h.1
theorem fp_fp {F : FW} {a k : Nat} {x y : Int32} : fp (fp F a k x) a k y = fp F a k y := Prod.ext (funext fun p => funext fun j => by
  show (if p = a ∧ j = k then y else if p = a ∧ j = k then x else F.1 p j) = if p = a ∧ j = k then y else F.1 p j
  by_cases h : p = a ∧ j = k
  · rw [if_pos h, if_pos h]
  · rw [if_neg h, if_neg h, if_neg h]) rfl
theorem XT.fx {P : Nat → Prop} {F G : FW} {T : St} (h : XT F T) (x : FX P F G) (c : ¬ P 71) : XT G T := h.of fun k _ => x.1 71 k c
theorem XS.fx {P : Nat → Prop} {F G : FW} {m : Nat} {S : Sh} (h : XS F m S) (hm : m ≤ 8) (x : FX P F G) (c : ¬ P 71) : XS G m S := h.of hm fun k _ _ => x.1 71 k c
/-- who is dead, and where the others are -/
def XD (F : FW) (m : Nat) (S : Sh) : Prop := (∀ k, k < m → xbit (F.1 71 180) k = !m_alive S k) ∧ ∀ k, k < m → m_alive S k = true → F.1 71 (172 + k) = h_a S k
theorem XS.xd {F : FW} {m : Nat} {S : Sh} (h : XS F m S) : XD F m S := ⟨fun _ hk => h.de hk, fun _ hk l => h.a hk l⟩
theorem XD.de {F : FW} {m k : Nat} {S : Sh} (h : XD F m S) (hk : k < m) : xbit (F.1 71 180) k = !m_alive S k := h.1 k hk
theorem XD.a {F : FW} {m k : Nat} {S : Sh} (h : XD F m S) (hk : k < m) (l : m_alive S k = true) : F.1 71 (172 + k) = h_a S k := h.2 k hk l
theorem XD.fx {P : Nat → Prop} {F G : FW} {m : Nat} {S : Sh} (h : XD F m S) (x : FX P F G) (c : ¬ P 71) : XD G m S := ⟨fun k hk => by
  rw [x.1 71 180 c]
  exact h.1 k hk, fun k hk l => (x.1 71 _ c).trans (h.2 k hk l)⟩
def m_unl (S : Sh) (m o : Nat) : Bool := m_alive S m && m_alive S o && !decide (h_a S m = h_a S o)
/-- the first of the misses that is told of these two -/
def m_first (T : St) (m o : Nat) : Nat → Option Nat
  | 0 => none
  | k + 1 => match m_first T m o k with
    | some i => some i
    | none => if t_r T k = m ∧ t_d T k = o then some k else none
def m_does (T : St) (S : Sh) (m o : Nat) : Bool := m_unl S m o && match m_first T m o (t_n T) with
  | none => false
  | some i => !decide (m_apart S m o < t_dd T i)
theorem m_first_n {T : St} {m o k : Nat} (h : m_first T m o k = none) (c : ¬ (t_r T k = m ∧ t_d T k = o)) : m_first T m o (k + 1) = none := by
  unfold m_first
  rw [h]
  exact if_neg c
theorem m_first_s {T : St} {m o k : Nat} (h : m_first T m o k = none) (c1 : t_r T k = m) (c2 : t_d T k = o) : ∀ j, m_first T m o (k + 1 + j) = some k
  | 0 => by
    show m_first T m o (k + 1) = some k
    unfold m_first
    rw [h]
    exact if_pos ⟨c1, c2⟩
  | j + 1 => by
    have ih := m_first_s h c1 c2 j
    show m_first T m o (k + 1 + j + 1) = some k
    unfold m_first
    rw [ih]
theorem m_first_e {T : St} {m o k n : Nat} (h : m_first T m o k = none) (c1 : t_r T k = m) (c2 : t_d T k = o) (hk : k < n) : m_first T m o n = some k := by
  have e := m_first_s h c1 c2 (n - (k + 1))
  rw [show k + 1 + (n - (k + 1)) = n by omega] at e
  exact e
theorem i_or0 (b : Int32) : b ||| 0 = b := Int32.or_zero
theorem i_ss (a b c : Int32) : a - b - c = a - (b + c) := by
  rw [Int32.sub_eq_add_neg, Int32.sub_eq_add_neg, Int32.sub_eq_add_neg, Int32.neg_add, Int32.add_assoc, Int32.sub_eq_add_neg]
def m_less (a b : Int32) : Int32 := if b ≤ a then b else a
theorem m_alive_n {S : Sh} {m : Nat} (h : m_alive S m = false) : h_a S m = -1 := by
  unfold m_alive at h
  simpa using h
theorem m_dead_from {S : Sh} {m : Nat} (h : m_alive S m = false) : ¬ h_a S m = Int32.ofNat (m_from S) := by
  rw [m_alive_n h]
  have := m_from_lt S
  have h2 : m_from S = 0 ∨ m_from S = 1 := by omega
  rcases h2 with e | e <;> rw [e] <;> decide
def m_lackr (w s : Int32) : Int32 := if w - s ≤ 0 then 0 else w - s
theorem AX.of {F G : FW} {o n : Nat} {f : Nat → Int32} (h : AX F o n f) (x : ∀ k, o ≤ k → k < o + n → G.1 71 k = F.1 71 k) : AX G o n f := fun j hj => (x _ (by omega) (by omega)).trans (h j hj)
theorem ifq {p q : Prop} [Decidable p] [Decidable q] {a b : Int32} (h : p ↔ q) : (if p then a else b) = if q then a else b := by
  by_cases c : p
  · rw [if_pos c, if_pos (h.mp c)]
  · rw [if_neg c, if_neg (fun e => c (h.mpr e))]
