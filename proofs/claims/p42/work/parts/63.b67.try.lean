/-! ===== the reference tries: what was so is kept apart, and laid back ===== -/
def RT (F G : FW) : Prop := FX (fun q => q = 69 ∨ q = 71 ∨ q = 78 ∨ q = 79) F G ∧ (∀ k, k < 133 → G.1 78 k = F.1 71 (120 + k)) ∧ (∀ k, k < 120 ∨ 253 ≤ k → G.1 71 k = F.1 71 k) ∧ ∀ k, k ≠ 0 → k ≠ 22 → k ≠ 29 → G.1 69 k = F.1 69 k
theorem RT.of {F F1 G : FW} (r : RDR F F1) (x : FX (fun q => q = 78) F1 G) (a : ∀ k, k < 133 → G.1 78 k = F1.1 71 (120 + k)) : RT F G :=
  ⟨r.1.tr (x.wd fun q (c : q = 78) => Or.inr (Or.inr (Or.inl c))), fun k hk => (a k hk).trans (r.2.1 _), fun k _ => (x.1 71 k (by decide)).trans (r.2.1 k), fun k h1 h2 h3 => (x.1 69 k (by decide)).trans (r.2.2 k h1 h2 h3)⟩
theorem RT.ofS {F F1 G : FW} {m : Nat} {S : Sh} (r : RDR F F1) (x : FX (fun q => q = 78) F1 G) (hm : m ≤ 8) (hS : XS F m S) : XS G m S := (r.S hm hS).fx hm x (by decide)
theorem RT.rx {F G K : FW} (h : RT F G) (x : RX G K) : RT F K :=
  ⟨h.1.tr (x.1.wd fun q (c : q = 69 ∨ q = 71) => c.elim Or.inl (fun e => Or.inr (Or.inl e))), fun k hk => (x.1.1 78 k (by decide)).trans (h.2.1 k hk), fun k hk => (x.2.2 k hk).trans (h.2.2.1 k hk), fun k h1 h2 h3 => (x.2.1 k h2).trans (h.2.2.2 k h1 h2 h3)⟩
theorem RT.sd {F G : FW} {k : Nat} {v : Int32} (h : RT F G) (c : k = 0 ∨ k = 22 ∨ k = 29) : RT F (fp G 69 k v) :=
  ⟨h.1.fp (Or.inl rfl), fun j hj => (fp_ne (Or.inl (by decide))).trans (h.2.1 j hj), fun j hj => (fp_ne (Or.inl (by decide))).trans (h.2.2.1 j hj), fun j h1 h2 h3 => (fp_ne (Or.inr (by omega))).trans (h.2.2.2 j h1 h2 h3)⟩
theorem RT.st {F G : FW} {k : Nat} {v : Int32} (h : RT F G) (a : 120 ≤ k) (b : k < 253) : RT F (fp G 71 k v) :=
  ⟨h.1.fp (Or.inr (Or.inl rfl)), fun j hj => (fp_ne (Or.inl (by decide))).trans (h.2.1 j hj), fun j hj => (fp_ne (Or.inr (by omega))).trans (h.2.2.1 j hj), fun j h1 h2 h3 => (fp_ne (Or.inl (by decide))).trans (h.2.2.2 j h1 h2 h3)⟩
theorem RT.T {F G : FW} {T : St} (h : RT F G) (t : XT F T) : XT G T := t.of fun k hk => h.2.2.1 k (Or.inl hk)
theorem RT.G {F G : FW} (h : RT F G) (g : GW F) : GW G := g.fx h.1
/-- laid back: all is as it was -/
theorem RT.bk {F G K : FW} (h : RT F G) (x : FX (fun q => q = 71) G K) (a : ∀ k, k < 133 → K.1 71 (120 + k) = G.1 78 k) (b : ∀ k, k < 120 ∨ 253 ≤ k → K.1 71 k = G.1 71 k) : RDR F K :=
  ⟨h.1.tr (x.wd fun q (c : q = 71) => Or.inr (Or.inl c)), fun k => by
    rcases Classical.em (k < 120 ∨ 253 ≤ k) with c | c
    · exact (b k c).trans (h.2.2.1 k c)
    · have e := (a (k - 120) (by omega)).trans (h.2.1 (k - 120) (by omega))
      rw [show 120 + (k - 120) = k by omega] at e
      exact e, fun k h1 h2 h3 => (x.1 69 k (by decide)).trans (h.2.2.2 k h1 h2 h3)⟩
theorem RT.bkT {F G K : FW} (h : RT F G) (x : FX (fun q => q = 71) G K) (a : ∀ k, k < 133 → K.1 71 (120 + k) = G.1 78 k) (b : ∀ k, k < 120 ∨ 253 ≤ k → K.1 71 k = G.1 71 k) : RT F K :=
  ⟨(h.bk x a b).1, fun k hk => (x.1 78 k (by decide)).trans (h.2.1 k hk), fun k _ => (h.bk x a b).2.1 k, (h.bk x a b).2.2⟩
theorem XS.die {F : FW} {m k : Nat} {S : Sh} (h : XS F m S) (hm : m ≤ 8) (hk : k < m) : XS (fp F 71 180 (F.1 71 180 ||| 1 <<< (Int32.ofNat k &&& 31))) m (m_do 3 S k 0) := by
  have n : ∀ j, j ≠ 180 → (fp F 71 180 (F.1 71 180 ||| 1 <<< (Int32.ofNat k &&& 31))).1 71 j = F.1 71 j := fun j hj => fp_ne (Or.inr hj)
  have l : ∀ j, m_alive (m_do 3 S k 0) j = true → j ≠ k ∧ m_alive S j = true := fun j e => by
    rw [alive_do3, Bool.and_eq_true, Bool.not_eq_true', decide_eq_false_iff_not] at e
    exact ⟨fun q => e.2 q.symm, e.1⟩
  refine ⟨h.db, (n _ (by decide)).trans h.d, (n _ (by decide)).trans h.i, (n _ (by decide)).trans h.r, (n _ (by decide)).trans h.st, fun j hj => (n _ (by omega)).trans (h.s j hj), fun j hj => (n _ (by omega)).trans (h.h j hj), fun j hj => (n _ (by omega)).trans (h.u j hj), fun j hj => (n _ (by omega)).trans (h.c j hj),
    fun j hj => ?_, fun j hj e => ?_, fun j hj => (n _ (by omega)).trans (h.t j hj), fun i j hi hj c a b => ?_⟩
  · rw [fp_eq, xbit_or (by omega) (by omega), h.de hj, alive_do3]
    cases m_alive S j <;> cases decide (k = j) <;> rfl
  · obtain ⟨q1, q2⟩ := l j e
    rw [n _ (by omega), h.a hj q2]
    exact (up1_ne q1).symm
  · exact (n _ (by omega)).trans (h.p hi hj c (l i a).2 (l j b).2)
theorem XS.dead {F : FW} {m k : Nat} {S : Sh} (h : XS F m S) (hm : m ≤ 8) (hk : k < m) (d : m_alive S k = false) : XS (fp F 71 180 (F.1 71 180 ||| 1 <<< (Int32.ofNat k &&& 31))) m S := by
  have n : ∀ j, j ≠ 180 → (fp F 71 180 (F.1 71 180 ||| 1 <<< (Int32.ofNat k &&& 31))).1 71 j = F.1 71 j := fun j hj => fp_ne (Or.inr hj)
  refine ⟨h.db, (n _ (by decide)).trans h.d, (n _ (by decide)).trans h.i, (n _ (by decide)).trans h.r, (n _ (by decide)).trans h.st, fun j hj => (n _ (by omega)).trans (h.s j hj), fun j hj => (n _ (by omega)).trans (h.h j hj), fun j hj => (n _ (by omega)).trans (h.u j hj), fun j hj => (n _ (by omega)).trans (h.c j hj),
    fun j hj => ?_, fun j hj e => (n _ (by omega)).trans (h.a hj e), fun j hj => (n _ (by omega)).trans (h.t j hj), fun i j hi hj c a b => (n _ (by omega)).trans (h.p hi hj c a b)⟩
  rw [fp_eq, xbit_or (by omega) (by omega), h.de hj]
  by_cases e : k = j
  · subst e
    rw [d]
    rfl
  · rw [decide_eq_false e, Bool.or_false]
theorem XS.die3 {F : FW} {m k : Nat} {S : Sh} (h : XS F m S) (hm : m ≤ 8) (hk : k < m) : XS (fp F 71 180 (F.1 71 180 ||| 1 <<< (Int32.ofNat k &&& 31))) m (m_try 3 S k 0) := by
  unfold m_try
  by_cases c : m_alive S k = true
  · have e : m_why 3 S k 0 = 0 := if_pos c
    rw [if_pos e]
    exact h.die hm hk
  · have e : m_why 3 S k 0 = 1 := if_neg c
    rw [if_neg (by rw [e]; decide)]
    exact h.dead hm hk (by simpa using c)
/-- stock and hoard of one slot anew -/
theorem XS.two {F : FW} {m k : Nat} {S : Sh} {v w : Int32} (h : XS F m S) (hm : m ≤ 8) (hk : k < 12) : XS (fp (fp F 71 (124 + k) v) 71 (136 + k) w) m (up1 (h_s S) k v, up1 (h_h S) k w, S.2.2) := by
  have n : ∀ j, (j < 124 ∨ 148 ≤ j) → (fp (fp F 71 (124 + k) v) 71 (136 + k) w).1 71 j = F.1 71 j := fun j hj => (fp_ne (Or.inr (by omega))).trans (fp_ne (Or.inr (by omega)))
  refine ⟨h.db, (n _ (by omega)).trans h.d, (n _ (by omega)).trans h.i, (n _ (by omega)).trans h.r, (n _ (by omega)).trans h.st, h.s.up.ne (by omega), (h.h.ne (by omega)).up, fun j hj => (n _ (by omega)).trans (h.u j hj), fun j hj => (n _ (by omega)).trans (h.c j hj),
    fun j hj => ?_, fun j hj e => (n _ (by omega)).trans (h.a hj e), fun j hj => (n _ (by omega)).trans (h.t j hj), fun i j hi hj c a b => (n _ (by omega)).trans (h.p hi hj c a b)⟩
  rw [n _ (by omega)]
  exact h.de hj
theorem XS.one {F : FW} {m k : Nat} {S : Sh} {v : Int32} (h : XS F m S) (hm : m ≤ 8) (hk : k < 12) : XS (fp F 71 (124 + k) v) m (up1 (h_s S) k v, S.2) := by
  have n : ∀ j, (j < 124 ∨ 136 ≤ j) → (fp F 71 (124 + k) v).1 71 j = F.1 71 j := fun j hj => fp_ne (Or.inr (by omega))
  refine ⟨h.db, (n _ (by omega)).trans h.d, (n _ (by omega)).trans h.i, (n _ (by omega)).trans h.r, (n _ (by omega)).trans h.st, h.s.up, fun j hj => (n _ (by omega)).trans (h.h j hj), fun j hj => (n _ (by omega)).trans (h.u j hj), fun j hj => (n _ (by omega)).trans (h.c j hj),
    fun j hj => ?_, fun j hj e => (n _ (by omega)).trans (h.a hj e), fun j hj => (n _ (by omega)).trans (h.t j hj), fun i j hi hj c a b => (n _ (by omega)).trans (h.p hi hj c a b)⟩
  rw [n _ (by omega)]
  exact h.de hj
/-- the reference's own cells, what is kept of the past among them -/
def RKX (F G : FW) : Prop := FX (fun q => q = 69 ∨ q = 71 ∨ q = 77 ∨ q = 78) F G ∧ (∀ k, k ≠ 0 → k ≠ 22 → k ≠ 25 → k ≠ 29 → G.1 69 k = F.1 69 k) ∧ ∀ k, k < 120 ∨ 253 ≤ k → G.1 71 k = F.1 71 k
theorem RKX.rf {F : FW} : RKX F F := ⟨FX.rf, fun _ _ _ _ _ => rfl, fun _ _ => rfl⟩
theorem RKX.tr {F G H : FW} (a : RKX F G) (b : RKX G H) : RKX F H := ⟨a.1.tr b.1, fun k h1 h2 h3 h4 => (b.2.1 k h1 h2 h3 h4).trans (a.2.1 k h1 h2 h3 h4), fun k h => (b.2.2 k h).trans (a.2.2 k h)⟩
theorem RKX.rx {F G K : FW} (h : RKX F G) (x : RX G K) : RKX F K := ⟨h.1.tr (x.1.wd fun q (c : q = 69 ∨ q = 71) => c.elim Or.inl (fun e => Or.inr (Or.inl e))), fun k h1 h2 h3 h4 => (x.2.1 k h2).trans (h.2.1 k h1 h2 h3 h4), fun k hk => (x.2.2 k hk).trans (h.2.2 k hk)⟩
theorem RKX.st {F G : FW} {k : Nat} {v : Int32} (h : RKX F G) (a : 120 ≤ k) (b : k < 253) : RKX F (fp G 71 k v) := ⟨h.1.fp (Or.inr (Or.inl rfl)), fun j h1 h2 h3 h4 => (fp_ne (Or.inl (by decide))).trans (h.2.1 j h1 h2 h3 h4), fun j hj => (fp_ne (Or.inr (by omega))).trans (h.2.2 j hj)⟩
theorem RKX.fp {F G : FW} {k : Nat} {v : Int32} (h : RKX F G) (c : k = 0 ∨ k = 22 ∨ k = 25 ∨ k = 29) : RKX F (fp G 69 k v) := ⟨h.1.fp (Or.inl rfl), fun j h1 h2 h3 h4 => (fp_ne (Or.inr (by omega))).trans (h.2.1 j h1 h2 h3 h4), fun j hj => (fp_ne (Or.inl (by decide))).trans (h.2.2 j hj)⟩
theorem RKX.T {F G : FW} {T : St} (h : RKX F G) (t : XT F T) : XT G T := t.of fun k hk => h.2.2 k (Or.inl hk)
theorem RKX.G {F G : FW} (h : RKX F G) (g : GW F) : GW G := g.fx h.1
