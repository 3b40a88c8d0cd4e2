/-! ===== what the reference's looking calls want of the model ===== -/
theorem fr_eq0 {T : St} {S : Sh} (hT : TBB T) (hS : SB S) {g k : Nat} (hk : k = g) (hD : h_d S < 400) (hg : g < 6) : m_less (t_l T - m_pg T S k) (m_less (h_s S (2 * g + m_from S)) (m_lackr (t_a T (1 * 12 + (2 * g + (1 - m_from S)))) (h_s S (2 * g + (1 - m_from S))))) = m_fr T S g := by
  subst hk
  have e := fr_eq hT hS hD hg
  rw [cS_ge (by omega), cS_ge (by omega)] at e
  exact e
theorem fr_400 {T : St} {S : Sh} (hT : TBB T) (hS : SB S) {g : Nat} (hg : g < 6) (h : 400 ≤ h_d S) : m_fr T S g = 0 := by
  have b6 := m_from_lt S
  have er : m_room T S = 0 := if_neg (by omega)
  have p := pg_b hT hS g (by omega)
  rw [er, i_0] at p
  have h1 := i_subI (a := m_room T S) (b := m_pg T S g) (by rw [er, i_0]; omega) (by rw [er, i_0]; omega)
  have h2 := moved_b (s := h_s S (2 * g + m_from S)) (l := m_lack T S (2 * g + (1 - m_from S))) (r := m_room T S - m_pg T S g) (hS _ (by omega)).1 (lack_b hT hS (by omega)).1 (by rw [h1, er, i_0]; omega)
  rw [h1, er, i_0] at h2
  refine Int32.toInt_inj.mp ?_
  rw [i_0]
  show (m_moved _ _ _).toInt = 0
  rw [er]
  omega
theorem meet_f {T : St} {S : Sh} {m o k : Nat} (a1 : m_alive S m = true) (a2 : m_alive S o = true) (h8 : t_m T ≤ 8) (h : m_unl (m_days T S k) m o = true) : pMeet T S m o k = false := by
  unfold m_unl at h
  rw [alive_days h8, alive_days h8, a1, a2] at h
  unfold pMeet
  simpa using h
theorem meet_t {T : St} {S : Sh} {m o k : Nat} (a1 : m_alive S m = true) (a2 : m_alive S o = true) (h8 : t_m T ≤ 8) (h : m_unl (m_days T S k) m o = false) : pMeet T S m o k = true := by
  unfold m_unl at h
  rw [alive_days h8, alive_days h8, a1, a2] at h
  unfold pMeet
  simpa using h
/-! tries with prices -/
def RDP (F G : FW) : Prop := FX (fun q => q = 69 ∨ q = 71 ∨ q = 78 ∨ q = 80) F G ∧ (∀ k, G.1 71 k = F.1 71 k) ∧ ∀ k, k ≠ 0 → k ≠ 22 → k ≠ 28 → G.1 69 k = F.1 69 k
theorem RDP.rf {F : FW} : RDP F F := ⟨FX.rf, fun _ => rfl, fun _ _ _ _ => rfl⟩
theorem RDP.pr {F G : FW} {k : Nat} {v : Int32} (h : RDP F G) : RDP F (fp G 80 k v) := ⟨h.1.fp (Or.inr (Or.inr (Or.inr rfl))), fun j => (fp_ne (Or.inl (by decide))).trans (h.2.1 j), fun j h1 h2 h3 => (fp_ne (Or.inl (by decide))).trans (h.2.2 j h1 h2 h3)⟩
theorem RDP.fp {F G : FW} {k : Nat} {v : Int32} (h : RDP F G) (c : k = 0 ∨ k = 22 ∨ k = 28) : RDP F (fp G 69 k v) := ⟨h.1.fp (Or.inl rfl), fun j => (fp_ne (Or.inl (by decide))).trans (h.2.1 j), fun j h1 h2 h3 => (fp_ne (Or.inr (by omega))).trans (h.2.2 j h1 h2 h3)⟩
theorem RDP.T {F G : FW} {T : St} (h : RDP F G) (t : XT F T) : XT G T := t.of fun k _ => h.2.1 k
theorem RDP.S {F G : FW} {m : Nat} {S : Sh} (h : RDP F G) (hm : m ≤ 8) (t : XS F m S) : XS G m S := t.of hm fun k _ _ => h.2.1 k
theorem RDP.G {F G : FW} (h : RDP F G) (g : GW F) : GW G := g.fx h.1
def RTP (F G : FW) : Prop := FX (fun q => q = 69 ∨ q = 71 ∨ q = 78 ∨ q = 80) F G ∧ (∀ k, k < 133 → G.1 78 k = F.1 71 (120 + k)) ∧ (∀ k, k < 120 ∨ 253 ≤ k → G.1 71 k = F.1 71 k) ∧ ∀ k, k ≠ 0 → k ≠ 22 → k ≠ 28 → G.1 69 k = F.1 69 k
theorem RTP.of {F F1 G : FW} (r : RDP F F1) (x : FX (fun q => q = 78) F1 G) (a : ∀ k, k < 133 → G.1 78 k = F1.1 71 (120 + k)) : RTP F G :=
  ⟨r.1.tr (x.wd fun q (c : q = 78) => Or.inr (Or.inr (Or.inl c))), fun k hk => (a k hk).trans (r.2.1 _), fun k _ => (x.1 71 k (by decide)).trans (r.2.1 k), fun k h1 h2 h3 => (x.1 69 k (by decide)).trans (r.2.2 k h1 h2 h3)⟩
theorem RTP.ofS {F F1 G : FW} {m : Nat} {S : Sh} (r : RDP F F1) (x : FX (fun q => q = 78) F1 G) (hm : m ≤ 8) (hS : XS F m S) : XS G m S := (r.S hm hS).fx hm x (by decide)
theorem RTP.rx {F G K : FW} (h : RTP F G) (x : RX G K) : RTP F K :=
  ⟨h.1.tr (x.1.wd fun q (c : q = 69 ∨ q = 71) => c.elim Or.inl (fun e => Or.inr (Or.inl e))), fun k hk => (x.1.1 78 k (by decide)).trans (h.2.1 k hk), fun k hk => (x.2.2 k hk).trans (h.2.2.1 k hk), fun k h1 h2 h3 => (x.2.1 k h2).trans (h.2.2.2 k h1 h2 h3)⟩
theorem RTP.pr {F G : FW} {k : Nat} {v : Int32} (h : RTP F G) : RTP F (fp G 80 k v) :=
  ⟨h.1.fp (Or.inr (Or.inr (Or.inr rfl))), fun j hj => (fp_ne (Or.inl (by decide))).trans (h.2.1 j hj), fun j hj => (fp_ne (Or.inl (by decide))).trans (h.2.2.1 j hj), fun j h1 h2 h3 => (fp_ne (Or.inl (by decide))).trans (h.2.2.2 j h1 h2 h3)⟩
theorem RTP.T {F G : FW} {T : St} (h : RTP F G) (t : XT F T) : XT G T := t.of fun k hk => h.2.2.1 k (Or.inl hk)
theorem RTP.G {F G : FW} (h : RTP F G) (g : GW F) : GW G := g.fx h.1
theorem RTP.bk {F G K : FW} (h : RTP F G) (x : FX (fun q => q = 71) G K) (a : ∀ k, k < 133 → K.1 71 (120 + k) = G.1 78 k) (b : ∀ k, k < 120 ∨ 253 ≤ k → K.1 71 k = G.1 71 k) : RDP F K :=
  ⟨h.1.tr (x.wd fun q (c : q = 71) => Or.inr (Or.inl c)), fun k => by
    rcases Classical.em (k < 120 ∨ 253 ≤ k) with c | c
    · exact (b k c).trans (h.2.2.1 k c)
    · have e := (a (k - 120) (by omega)).trans (h.2.1 (k - 120) (by omega))
      rw [show 120 + (k - 120) = k by omega] at e
      exact e, fun k h1 h2 h3 => (x.1 69 k (by decide)).trans (h.2.2.2 k h1 h2 h3)⟩
theorem XS.up80 {F : FW} {m k : Nat} {S : Sh} {v : Int32} (h : XS F m S) (hm : m ≤ 8) : XS (fp F 80 k v) m S := h.of hm fun j _ _ => fp_ne (Or.inl (by decide))
theorem GW.fpp {F : FW} {a k : Nat} {v : Int32} (h : GW F) : GW (fp F a k v) := fun q m => h q m
theorem XT.up80 {F : FW} {k : Nat} {T : St} {v : Int32} (h : XT F T) : XT (fp F 80 k v) T := h.of fun j _ => fp_ne (Or.inl (by decide))
theorem i_ne1 (a : Int32) : ¬ a + 1 = a := fun h => by
  have e : a + 1 - a = a - a := by rw [h]
  rw [Int32.sub_self, Int32.add_comm, Int32.sub_eq_add_neg, Int32.add_assoc, Int32.add_right_neg, Int32.add_zero] at e
  exact absurd e (by decide)
theorem i_ne2 (a : Int32) : ¬ a - 1 = a := fun h => by
  have e : a - 1 + 1 = a + 1 := by rw [h]
  rw [Int32.sub_add_cancel] at e
  exact i_ne1 a e.symm
/-! seeds: what the reference's drawing writes -/
def RXS (F G : FW) : Prop := FX (fun q => q = 69 ∨ q = 71) F G ∧ (∀ k, k ≠ 22 → k ≠ 29 → G.1 69 k = F.1 69 k) ∧ ∀ k, k < 120 ∨ 253 ≤ k → G.1 71 k = F.1 71 k
theorem RXS.rf {F : FW} : RXS F F := ⟨FX.rf, fun _ _ _ => rfl, fun _ _ => rfl⟩
theorem RXS.tr {F G H : FW} (a : RXS F G) (b : RXS G H) : RXS F H := ⟨a.1.tr b.1, fun k h1 h2 => (b.2.1 k h1 h2).trans (a.2.1 k h1 h2), fun k h => (b.2.2 k h).trans (a.2.2 k h)⟩
theorem RXS.rx {F G K : FW} (h : RXS F G) (x : RX G K) : RXS F K := ⟨h.1.tr x.1, fun k h1 h2 => (x.2.1 k h1).trans (h.2.1 k h1 h2), fun k hk => (x.2.2 k hk).trans (h.2.2 k hk)⟩
theorem RXS.sd {F G : FW} {k : Nat} {v : Int32} (h : RXS F G) (c : k = 22 ∨ k = 29) : RXS F (fp G 69 k v) := ⟨h.1.fp (Or.inl rfl), fun j h1 h2 => (fp_ne (Or.inr (by omega))).trans (h.2.1 j h1 h2), fun j hj => (fp_ne (Or.inl (by decide))).trans (h.2.2 j hj)⟩
theorem RXS.st {F G : FW} {k : Nat} {v : Int32} (h : RXS F G) (a : 120 ≤ k) (b : k < 253) : RXS F (fp G 71 k v) := ⟨h.1.fp (Or.inr rfl), fun j h1 h2 => (fp_ne (Or.inl (by decide))).trans (h.2.1 j h1 h2), fun j hj => (fp_ne (Or.inr (by omega))).trans (h.2.2 j hj)⟩
theorem RXS.T {F G : FW} {T : St} (h : RXS F G) (t : XT F T) : XT G T := t.of fun k hk => h.2.2 k (Or.inl hk)
theorem RXS.G {F G : FW} (h : RXS F G) (g : GW F) : GW G := g.fx h.1
theorem RT.rxs {F G K : FW} (h : RT F G) (x : RXS G K) : RT F K :=
  ⟨h.1.tr (x.1.wd fun q (c : q = 69 ∨ q = 71) => c.elim Or.inl (fun e => Or.inr (Or.inl e))), fun k hk => (x.1.1 78 k (by decide)).trans (h.2.1 k hk), fun k hk => (x.2.2 k hk).trans (h.2.2.1 k hk), fun k h1 h2 h3 => (x.2.1 k h2 h3).trans (h.2.2.2 k h1 h2 h3)⟩
theorem RKX.rxs {F G K : FW} (h : RKX F G) (x : RXS G K) : RKX F K := ⟨h.1.tr (x.1.wd fun q (c : q = 69 ∨ q = 71) => c.elim Or.inl (fun e => Or.inr (Or.inl e))), fun k h1 h2 h3 h4 => (x.2.1 k h2 h4).trans (h.2.1 k h1 h2 h3 h4), fun k hk => (x.2.2 k hk).trans (h.2.2 k hk)⟩
theorem XS.sd {F : FW} {m a k : Nat} {S : Sh} {v : Int32} (h : XS F m S) (hm : m ≤ 8) (ha : a ≠ 71) : XS (fp F a k v) m S := h.of hm fun j _ _ => fp_ne (Or.inl (fun e => ha e.symm))
theorem XT.sd {F : FW} {a k : Nat} {T : St} {v : Int32} (h : XT F T) (ha : a ≠ 71) : XT (fp F a k v) T := h.of fun j _ => fp_ne (Or.inl (fun e => ha e.symm))
theorem XS.do0 {F : FW} {m k : Nat} {S : Sh} {n : Int32} (h : XS F m S) (hm : m ≤ 8) (hk : k < 12) : XS (fp (fp F 71 (124 + k) (h_s S k - n)) 71 (136 + k) (h_h S k + n)) m (m_do 0 S k n) := by
  have e := h.two (v := h_s S k - n) (w := h_h S k + n) hm hk
  rw [← an_s] at e ⊢
  exact e
theorem XS.do1 {F : FW} {m k : Nat} {S : Sh} {n : Int32} (h : XS F m S) (hm : m ≤ 8) (hk : k < 12) : XS (fp (fp F 71 (124 + k) (h_s S k - -n)) 71 (136 + k) (h_h S k + -n)) m (m_do 1 S k n) := by
  have e := h.two (v := h_s S k + n) (w := h_h S k - n) hm hk
  rw [show h_s S k - -n = h_s S k + n from by rw [Int32.sub_eq_add_neg, Int32.neg_neg], an_s]
  exact e
theorem XS.do2 {F : FW} {m k : Nat} {S : Sh} {n : Int32} (h : XS F m S) (hm : m ≤ 8) (hk : k < 12) : XS (fp F 71 (124 + k) (h_s S k - n)) m (m_do 2 S k n) := by
  have e := h.one (v := h_s S k - n) hm hk
  rw [← an_s] at e ⊢
  exact e
theorem try_y {d : Nat} {S : Sh} {k : Nat} {n : Int32} (h : m_why d S k n = 0) : m_try d S k n = m_do d S k n := if_pos h
theorem try_n {d : Nat} {S : Sh} {k : Nat} {n : Int32} (h : ¬ m_why d S k n = 0) : m_try d S k n = S := if_neg h
theorem dDs_y {T : St} {S : Sh} {x : Int32} {d : Nat} (h : dr (m_nx x) 6 = d) (hd : d < 3) : m_dDs T S x = m_try d S (2 * dr (m_nx (m_nx x)) (t_g T) + dr (m_nx (m_nx (m_nx x))) 2) (Int32.ofNat (dr (m_nx (m_nx (m_nx (m_nx x)))) 20 + 1)) := by
  unfold m_dDs
  rw [h]
  exact if_pos hd
theorem dDx_y {T : St} {S : Sh} {x : Int32} (hd : dr (m_nx x) 6 < 3) : m_dDx T S x = m_nx (m_nx (m_nx (m_nx x))) := if_pos hd
theorem dDs_n {T : St} {S : Sh} {x : Int32} (hd : ¬ dr (m_nx x) 6 < 3) : m_dDs T S x = S := if_neg hd
theorem dDx_n {T : St} {S : Sh} {x : Int32} (hd : ¬ dr (m_nx x) 6 < 3) : m_dDx T S x = m_nx x := if_neg hd
theorem why0_1 {S : Sh} {k : Nat} {n : Int32} (h : ¬ m_why 0 S k n = 0) : m_why 0 S k n = 1 := by
  by_cases c : h_s S k < n
  · exact if_pos c
  · exact absurd (show m_why 0 S k n = 0 from if_neg c) h
theorem why_le {d : Nat} {S : Sh} {k : Nat} {n : Int32} (hd : d < 4) : m_why d S k n ≤ 0 ↔ m_why d S k n = 0 := by
  have h : m_why d S k n = 0 ∨ m_why d S k n = 1 ∨ m_why d S k n = 2 := by
    unfold m_why
    split
    · split
      · exact Or.inr (Or.inl rfl)
      · split
        · exact Or.inr (Or.inr rfl)
        · exact Or.inl rfl
    · split
      · exact Or.inl rfl
      · exact Or.inr (Or.inl rfl)
    · split
      · exact Or.inr (Or.inl rfl)
      · exact Or.inl rfl
  rcases h with e | e | e <;> rw [e] <;> decide
theorem why_pos {d : Nat} {S : Sh} {k : Nat} {n : Int32} : ¬ m_why d S k n < 0 := by
  unfold m_why
  split
  · split
    · decide
    · split <;> decide
  · split <;> decide
  · split <;> decide
/-! ===== what is kept of the past: the reference ===== -/
/-- row j of the array at 77 is Shores H j, laid as the array at 71 lays them from 120 on -/
def HSX (F : FW) (m n : Nat) (H : Nat → Sh) : Prop := F.1 69 25 = Int32.ofNat n ∧ n ≤ 8 ∧ ∀ j, j < n → XS (fcp F 77 71 (133 * j) 120 133) m (H j)
theorem HSX.get {F G : FW} {m n j : Nat} {H : Nat → Sh} (h : HSX F m n H) (hm : m ≤ 8) (hj : j < n) (x : ∀ k, 120 ≤ k → k < 253 → G.1 71 k = F.1 77 (133 * j + (k - 120))) : XS G m (H j) :=
  (h.2.2 j hj).of hm fun k h1 h2 => (x k h1 h2).trans (if_pos (show (71 = 71) ∧ 120 ≤ k ∧ k < 120 + 133 from ⟨rfl, h1, by omega⟩)).symm
theorem HSX.put {F : FW} {m j : Nat} {S : Sh} {K : FW} (hm : m ≤ 8) (hS : XS K m S) (x : ∀ i, i < 133 → F.1 77 (133 * j + i) = K.1 71 (120 + i)) : XS (fcp F 77 71 (133 * j) 120 133) m S :=
  hS.of hm fun k h1 h2 => (if_pos (show (71 = 71) ∧ 120 ≤ k ∧ k < 120 + 133 from ⟨rfl, h1, by omega⟩)).trans ((x (k - 120) (by omega)).trans (congrArg (K.1 71) (by omega)))
theorem HSX.row {F G : FW} {m i j : Nat} {S : Sh} (hm : m ≤ 8) (h : XS (fcp F 77 71 (133 * i) 120 133) m S) (x : ∀ k, k < 133 → G.1 77 (133 * j + k) = F.1 77 (133 * i + k)) : XS (fcp G 77 71 (133 * j) 120 133) m S :=
  h.of hm fun k h1 h2 => (if_pos (show (71 = 71) ∧ 120 ≤ k ∧ k < 120 + 133 from ⟨rfl, h1, by omega⟩)).trans ((x (k - 120) (by omega)).trans (if_pos (show (71 = 71) ∧ 120 ≤ k ∧ k < 120 + 133 from ⟨rfl, h1, by omega⟩)).symm)
theorem HSX.same {F G : FW} {m n : Nat} {H : Nat → Sh} (h : HSX F m n H) (hm : m ≤ 8) (e : G.1 69 25 = F.1 69 25) (x : ∀ k, G.1 77 k = F.1 77 k) : HSX G m n H :=
  ⟨e.trans h.1, h.2.1, fun j hj => HSX.row hm (h.2.2 j hj) fun k _ => x _⟩
def HKX (b : Bool) (F : FW) (m n : Nat) (H : Nat → Sh) (S : Sh) : Prop := if b then HSX F m (m_kn n) (m_kH n H S) else HSX F m n H
theorem HKX.t {b : Bool} {F : FW} {m n : Nat} {H : Nat → Sh} {S : Sh} (h : HSX F m (m_kn n) (m_kH n H S)) (e : b = true) : HKX b F m n H S := by
  rw [e]
  exact h
theorem HKX.f {b : Bool} {F : FW} {m n : Nat} {H : Nat → Sh} {S : Sh} (h : HSX F m n H) (e : b = false) : HKX b F m n H S := by
  rw [e]
  exact h
theorem m_fst_59 {T : St} {S : Sh} {r : Nat} (hr : 60 = r) (h : m_fst (pRest T S) r = none) : m_fst (pRest T S) 59 = none := by
  subst hr
  exact (m_fst_l h).1
theorem rounds_z {T : St} {S : Sh} {r : Nat} (h : m_fst (pRest T S) r = none) (c : pRest T S r = true) (hr : r < 60) : m_rounds T S = r + 1 := by
  by_cases e : r < 59
  · exact rounds_r h c e
  · have e2 : r = 59 := by omega
    subst e2
    exact rounds_60 h
theorem dXs_y {T : St} {S : Sh} {x : Int32} (h1 : dr (m_nx x) 90 = 0) (h2 : 0 < t_m T) : m_dXs T S x = m_try 3 S (dr (m_nx (m_nx x)) (t_m T)) 0 := if_pos ⟨h1, h2⟩
theorem dXx_y {T : St} {S : Sh} {x : Int32} (h1 : dr (m_nx x) 90 = 0) (h2 : 0 < t_m T) : m_dXx T S x = m_nx (m_nx x) := if_pos ⟨h1, h2⟩
theorem dXs_n {T : St} {S : Sh} {x : Int32} (h : ¬ (dr (m_nx x) 90 = 0 ∧ 0 < t_m T)) : m_dXs T S x = S := if_neg h
theorem dXx_n {T : St} {S : Sh} {x : Int32} (h : ¬ (dr (m_nx x) 90 = 0 ∧ 0 < t_m T)) : m_dXx T S x = m_nx x := if_neg h
theorem RDR.t78 {F F1 G : FW} (r : RDR F F1) (x : FX (fun q => q = 78) F1 G) : RDR F G := ⟨r.1.tr (x.wd fun q (c : q = 78) => Or.inr (Or.inr (Or.inl c))), fun k => (x.1 71 k (by decide)).trans (r.2.1 k), fun k h1 h2 h3 => (x.1 69 k (by decide)).trans (r.2.2 k h1 h2 h3)⟩
theorem XS.die3b {F : FW} {m k : Nat} {S : Sh} {b : Int32} (h : XS F m S) (hm : m ≤ 8) (hk : k < m) (hb : F.1 71 180 = b) : XS (fp F 71 180 (b ||| 1 <<< (Int32.ofNat k &&& 31))) m (m_try 3 S k 0) := by
  subst hb
  exact h.die3 hm hk
theorem whyh_1 {d : Nat} {S : Sh} {k : Nat} {n : Int32} (hd : d = 0 ∨ d = 2) (h : ¬ m_why d S k n ≤ 0) : m_why d S k n = 1 := by
  have e : m_why d S k n = if h_s S k < n then 1 else 0 := by
    rcases hd with rfl | rfl <;> rfl
  rw [e] at h ⊢
  by_cases c : h_s S k < n
  · exact if_pos c
  · rw [if_neg c] at h
    exact absurd (show (0 : Int32) ≤ 0 by decide) h
theorem RKX.kp {F F1 G : FW} (r : RKX F F1) (x : FX (fun q => q = 77 ∨ q = 69) F1 G) (a : ∀ j, G.1 71 j = F1.1 71 j) (b : ∀ j, j ≠ 25 → G.1 69 j = F1.1 69 j) : RKX F G :=
  ⟨r.1.tr (x.wd fun q (c : q = 77 ∨ q = 69) => c.elim (fun e => Or.inr (Or.inr (Or.inl e))) Or.inl), fun k h1 h2 h3 h4 => (b k h3).trans (r.2.1 k h1 h2 h3 h4), fun k hk => (a k).trans (r.2.2 k hk)⟩
theorem days_ge (T : St) (S : Sh) : ∀ k, h_d S ≤ h_d (m_days T S k)
  | 0 => Nat.le_refl _
  | k + 1 => by
    have ih := days_ge T S k
    by_cases c : h_d (m_days T S k) < 400
    · rw [m_days_s c]
      show h_d S ≤ h_d (m_days T S k) + 1
      omega
    · rw [show m_days T S (k + 1) = m_days T S k from if_neg c]
      exact ih
theorem days_400 {T : St} {S : Sh} {k : Nat} (h : ¬ h_d S < 400) : m_days T S k = S := m_days_e (k := 0) (Nat.zero_le _) h
theorem h_d_1 {T : St} {S : Sh} {x : Int32} : h_d (m_d1 T S x) = h_d S + 1 := by
  have e : ∀ B, h_d (m_day T B) = h_d B + 1 := fun _ => rfl
  unfold m_d1
  rw [e, h_d_drawX, h_d_drawD]
theorem drawn_ge (T : St) (S : Sh) (x : Int32) : ∀ k, h_d S ≤ h_d (m_drawn T (S, x) k).1
  | 0 => Nat.le_refl _
  | k + 1 => by
    have ih := drawn_ge T S x k
    by_cases c : h_d (m_drawn T (S, x) k).1 < 400
    · rw [drawn_1 c, h_d_1]
      exact Nat.le_succ_of_le ih
    · have e : m_drawn T (S, x) (k + 1) = m_drawn T (S, x) k := if_neg c
      rw [e]
      exact ih
