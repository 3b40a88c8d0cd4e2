-- 63.b68.pure3.lean.txt
section
/-! ===== what the reference's looking calls want of the model ===== -/
theorem fr_eq0 {T : St} {S : Sh} (hT : TBB T) (hS : SB S) {g k : Nat} (hk : k = g) (hD : h_d S < 400) (hg : g < 6) : m_less (t_l T - m_pg T S k) (m_less (h_s S (2 * g + m_from S)) (m_lackr (t_a T (1 * 12 + (2 * g + (1 - m_from S)))) (h_s S (2 * g + (1 - m_from S))))) = m_fr T S g := by
  subst hk
  have e := fr_eq hT hS hD hg
  rw [cS_ge (by omega), cS_ge (by omega)] at e
  exact e
theorem fr_400 {T : St} {S : Sh} (hT : TBB T) (hS : SB S) {g : Nat} (hg : g < 6) (h : 400 ≤ h_d S) : m_fr T S g = 0 := by
  have b6 := m_from_lt S
  have er : m_room T S = 0 := if_neg (by omega)
  have p := pg_b hT hS g (by omega)
  rw [er, i_0] at p
  have h1 := i_subI (a := m_room T S) (b := m_pg T S g) (by rw [er, i_0]; omega) (by rw [er, i_0]; omega)
  have h2 := moved_b (s := h_s S (2 * g + m_from S)) (l := m_lack T S (2 * g + (1 - m_from S))) (r := m_room T S - m_pg T S g) (hS _ (by omega)).1 (lack_b hT hS (by omega)).1 (by rw [h1, er, i_0]; omega)
  rw [h1, er, i_0] at h2
  refine Int32.toInt_inj.mp ?_
  rw [i_0]
  show (m_moved _ _ _).toInt = 0
  rw [er]
  omega
theorem meet_f {T : St} {S : Sh} {m o k : Nat} (a1 : m_alive S m = true) (a2 : m_alive S o = true) (h8 : t_m T ≤ 8) (h : m_unl (m_days T S k) m o = true) : pMeet T S m o k = false := by
  unfold m_unl at h
  rw [alive_days h8, alive_days h8, a1, a2] at h
  unfold pMeet
  simpa using h
theorem meet_t {T : St} {S : Sh} {m o k : Nat} (a1 : m_alive S m = true) (a2 : m_alive S o = true) (h8 : t_m T ≤ 8) (h : m_unl (m_days T S k) m o = false) : pMeet T S m o k = true := by
  unfold m_unl at h
  rw [alive_days h8, alive_days h8, a1, a2] at h
  unfold pMeet
  simpa using h
/-! tries with prices -/
def RDP (F G : FW) : Prop := FX (fun q => q = 69 ∨ q = 71 ∨ q = 78 ∨ q = 80) F G ∧ (∀ k, G.1 71 k = F.1 71 k) ∧ ∀ k, k ≠ 0 → k ≠ 22 → k ≠ 28 → G.1 69 k = F.1 69 k
theorem RDP.rf {F : FW} : RDP F F := ⟨FX.rf, fun _ => rfl, fun _ _ _ _ => rfl⟩
theorem RDP.pr {F G : FW} {k : Nat} {v : Int32} (h : RDP F G) : RDP F (fp G 80 k v) := ⟨h.1.fp (Or.inr (Or.inr (Or.inr rfl))), fun j => (fp_ne (Or.inl (by decide))).trans (h.2.1 j), fun j h1 h2 h3 => (fp_ne (Or.inl (by decide))).trans (h.2.2 j h1 h2 h3)⟩
theorem RDP.fp {F G : FW} {k : Nat} {v : Int32} (h : RDP F G) (c : k = 0 ∨ k = 22 ∨ k = 28) : RDP F (fp G 69 k v) := ⟨h.1.fp (Or.inl rfl), fun j => (fp_ne (Or.inl (by decide))).trans (h.2.1 j), fun j h1 h2 h3 => (fp_ne (Or.inr (by omega))).trans (h.2.2 j h1 h2 h3)⟩
theorem RDP.T {F G : FW} {T : St} (h : RDP F G) (t : XT F T) : XT G T := t.of fun k _ => h.2.1 k
theorem RDP.S {F G : FW} {m : Nat} {S : Sh} (h : RDP F G) (hm : m ≤ 8) (t : XS F m S) : XS G m S := t.of hm fun k _ _ => h.2.1 k
theorem RDP.G {F G : FW} (h : RDP F G) (g : GW F) : GW G := g.fx h.1
def RTP (F G : FW) : Prop := FX (fun q => q = 69 ∨ q = 71 ∨ q = 78 ∨ q = 80) F G ∧ (∀ k, k < 133 → G.1 78 k = F.1 71 (120 + k)) ∧ (∀ k, k < 120 ∨ 253 ≤ k → G.1 71 k = F.1 71 k) ∧ ∀ k, k ≠ 0 → k ≠ 22 → k ≠ 28 → G.1 69 k = F.1 69 k
theorem RTP.of {F F1 G : FW} (r : RDP F F1) (x : FX (fun q => q = 78) F1 G) (a : ∀ k, k < 133 → G.1 78 k = F1.1 71 (120 + k)) : RTP F G :=
  ⟨r.1.tr (x.wd fun q (c : q = 78) => Or.inr (Or.inr (Or.inl c))), fun k hk => (a k hk).trans (r.2.1 _), fun k _ => (x.1 71 k (by decide)).trans (r.2.1 k), fun k h1 h2 h3 => (x.1 69 k (by decide)).trans (r.2.2 k h1 h2 h3)⟩
theorem RTP.ofS {F F1 G : FW} {m : Nat} {S : Sh} (r : RDP F F1) (x : FX (fun q => q = 78) F1 G) (hm : m ≤ 8) (hS : XS F m S) : XS G m S := (r.S hm hS).fx hm x (by decide)
theorem RTP.rx {F G K : FW} (h : RTP F G) (x : RX G K) : RTP F K :=
  ⟨h.1.tr (x.1.wd fun q (c : q = 69 ∨ q = 71) => c.elim Or.inl (fun e => Or.inr (Or.inl e))), fun k hk => (x.1.1 78 k (by decide)).trans (h.2.1 k hk), fun k hk => (x.2.2 k hk).trans (h.2.2.1 k hk), fun k h1 h2 h3 => (x.2.1 k h2).trans (h.2.2.2 k h1 h2 h3)⟩
theorem RTP.pr {F G : FW} {k : Nat} {v : Int32} (h : RTP F G) : RTP F (fp G 80 k v) :=
  ⟨h.1.fp (Or.inr (Or.inr (Or.inr rfl))), fun j hj => (fp_ne (Or.inl (by decide))).trans (h.2.1 j hj), fun j hj => (fp_ne (Or.inl (by decide))).trans (h.2.2.1 j hj), fun j h1 h2 h3 => (fp_ne (Or.inl (by decide))).trans (h.2.2.2 j h1 h2 h3)⟩
theorem RTP.T {F G : FW} {T : St} (h : RTP F G) (t : XT F T) : XT G T := t.of fun k hk => h.2.2.1 k (Or.inl hk)
theorem RTP.G {F G : FW} (h : RTP F G) (g : GW F) : GW G := g.fx h.1
theorem RTP.bk {F G K : FW} (h : RTP F G) (x : FX (fun q => q = 71) G K) (a : ∀ k, k < 133 → K.1 71 (120 + k) = G.1 78 k) (b : ∀ k, k < 120 ∨ 253 ≤ k → K.1 71 k = G.1 71 k) : RDP F K :=
  ⟨h.1.tr (x.wd fun q (c : q = 71) => Or.inr (Or.inl c)), fun k => by
    rcases Classical.em (k < 120 ∨ 253 ≤ k) with c | c
    · exact (b k c).trans (h.2.2.1 k c)
    · have e := (a (k - 120) (by omega)).trans (h.2.1 (k - 120) (by omega))
      rw [show 120 + (k - 120) = k by omega] at e
      exact e, fun k h1 h2 h3 => (x.1 69 k (by decide)).trans (h.2.2.2 k h1 h2 h3)⟩
theorem XS.up80 {F : FW} {m k : Nat} {S : Sh} {v : Int32} (h : XS F m S) (hm : m ≤ 8) : XS (fp F 80 k v) m S := h.of hm fun j _ _ => fp_ne (Or.inl (by decide))
theorem GW.fpp {F : FW} {a k : Nat} {v : Int32} (h : GW F) : GW (fp F a k v) := fun q m => h q m
theorem XT.up80 {F : FW} {k : Nat} {T : St} {v : Int32} (h : XT F T) : XT (fp F 80 k v) T := h.of fun j _ => fp_ne (Or.inl (by decide))
theorem i_ne1 (a : Int32) : ¬ a + 1 = a := fun h => by
  have e : a + 1 - a = a - a := by rw [h]
  rw [Int32.sub_self, Int32.add_comm, Int32.sub_eq_add_neg, Int32.add_assoc, Int32.add_right_neg, Int32.add_zero] at e
  exact absurd e (by decide)
theorem i_ne2 (a : Int32) : ¬ a - 1 = a := fun h => by
  have e : a - 1 + 1 = a + 1 := by rw [h]
  rw [Int32.sub_add_cancel] at e
  exact i_ne1 a e.symm
/-! seeds: what the reference's drawing writes -/
def RXS (F G : FW) : Prop := FX (fun q => q = 69 ∨ q = 71) F G ∧ (∀ k, k ≠ 22 → k ≠ 29 → G.1 69 k = F.1 69 k) ∧ ∀ k, k < 120 ∨ 253 ≤ k → G.1 71 k = F.1 71 k
theorem RXS.rf {F : FW} : RXS F F := ⟨FX.rf, fun _ _ _ => rfl, fun _ _ => rfl⟩
theorem RXS.tr {F G H : FW} (a : RXS F G) (b : RXS G H) : RXS F H := ⟨a.1.tr b.1, fun k h1 h2 => (b.2.1 k h1 h2).trans (a.2.1 k h1 h2), fun k h => (b.2.2 k h).trans (a.2.2 k h)⟩
theorem RXS.rx {F G K : FW} (h : RXS F G) (x : RX G K) : RXS F K := ⟨h.1.tr x.1, fun k h1 h2 => (x.2.1 k h1).trans (h.2.1 k h1 h2), fun k hk => (x.2.2 k hk).trans (h.2.2 k hk)⟩
theorem RXS.sd {F G : FW} {k : Nat} {v : Int32} (h : RXS F G) (c : k = 22 ∨ k = 29) : RXS F (fp G 69 k v) := ⟨h.1.fp (Or.inl rfl), fun j h1 h2 => (fp_ne (Or.inr (by omega))).trans (h.2.1 j h1 h2), fun j hj => (fp_ne (Or.inl (by decide))).trans (h.2.2 j hj)⟩
theorem RXS.st {F G : FW} {k : Nat} {v : Int32} (h : RXS F G) (a : 120 ≤ k) (b : k < 253) : RXS F (fp G 71 k v) := ⟨h.1.fp (Or.inr rfl), fun j h1 h2 => (fp_ne (Or.inl (by decide))).trans (h.2.1 j h1 h2), fun j hj => (fp_ne (Or.inr (by omega))).trans (h.2.2 j hj)⟩
theorem RXS.T {F G : FW} {T : St} (h : RXS F G) (t : XT F T) : XT G T := t.of fun k hk => h.2.2 k (Or.inl hk)
theorem RXS.G {F G : FW} (h : RXS F G) (g : GW F) : GW G := g.fx h.1
theorem RT.rxs {F G K : FW} (h : RT F G) (x : RXS G K) : RT F K :=
  ⟨h.1.tr (x.1.wd fun q (c : q = 69 ∨ q = 71) => c.elim Or.inl (fun e => Or.inr (Or.inl e))), fun k hk => (x.1.1 78 k (by decide)).trans (h.2.1 k hk), fun k hk => (x.2.2 k hk).trans (h.2.2.1 k hk), fun k h1 h2 h3 => (x.2.1 k h2 h3).trans (h.2.2.2 k h1 h2 h3)⟩
theorem RKX.rxs {F G K : FW} (h : RKX F G) (x : RXS G K) : RKX F K := ⟨h.1.tr (x.1.wd fun q (c : q = 69 ∨ q = 71) => c.elim Or.inl (fun e => Or.inr (Or.inl e))), fun k h1 h2 h3 h4 => (x.2.1 k h2 h4).trans (h.2.1 k h1 h2 h3 h4), fun k hk => (x.2.2 k hk).trans (h.2.2 k hk)⟩
theorem XS.sd {F : FW} {m a k : Nat} {S : Sh} {v : Int32} (h : XS F m S) (hm : m ≤ 8) (ha : a ≠ 71) : XS (fp F a k v) m S := h.of hm fun j _ _ => fp_ne (Or.inl (fun e => ha e.symm))
theorem XT.sd {F : FW} {a k : Nat} {T : St} {v : Int32} (h : XT F T) (ha : a ≠ 71) : XT (fp F a k v) T := h.of fun j _ => fp_ne (Or.inl (fun e => ha e.symm))
theorem XS.do0 {F : FW} {m k : Nat} {S : Sh} {n : Int32} (h : XS F m S) (hm : m ≤ 8) (hk : k < 12) : XS (fp (fp F 71 (124 + k) (h_s S k - n)) 71 (136 + k) (h_h S k + n)) m (m_do 0 S k n) := by
  have e := h.two (v := h_s S k - n) (w := h_h S k + n) hm hk
  rw [← an_s] at e ⊢
  exact e
theorem XS.do1 {F : FW} {m k : Nat} {S : Sh} {n : Int32} (h : XS F m S) (hm : m ≤ 8) (hk : k < 12) : XS (fp (fp F 71 (124 + k) (h_s S k - -n)) 71 (136 + k) (h_h S k + -n)) m (m_do 1 S k n) := by
  have e := h.two (v := h_s S k + n) (w := h_h S k - n) hm hk
  rw [show h_s S k - -n = h_s S k + n from by rw [Int32.sub_eq_add_neg, Int32.neg_neg], an_s]
  exact e
theorem XS.do2 {F : FW} {m k : Nat} {S : Sh} {n : Int32} (h : XS F m S) (hm : m ≤ 8) (hk : k < 12) : XS (fp F 71 (124 + k) (h_s S k - n)) m (m_do 2 S k n) := by
  have e := h.one (v := h_s S k - n) hm hk
  rw [← an_s] at e ⊢
  exact e
theorem try_y {d : Nat} {S : Sh} {k : Nat} {n : Int32} (h : m_why d S k n = 0) : m_try d S k n = m_do d S k n := if_pos h
theorem try_n {d : Nat} {S : Sh} {k : Nat} {n : Int32} (h : ¬ m_why d S k n = 0) : m_try d S k n = S := if_neg h
theorem dDs_y {T : St} {S : Sh} {x : Int32} {d : Nat} (h : dr (m_nx x) 6 = d) (hd : d < 3) : m_dDs T S x = m_try d S (2 * dr (m_nx (m_nx x)) (t_g T) + dr (m_nx (m_nx (m_nx x))) 2) (Int32.ofNat (dr (m_nx (m_nx (m_nx (m_nx x)))) 20 + 1)) := by
  unfold m_dDs
  rw [h]
  exact if_pos hd
theorem dDx_y {T : St} {S : Sh} {x : Int32} (hd : dr (m_nx x) 6 < 3) : m_dDx T S x = m_nx (m_nx (m_nx (m_nx x))) := if_pos hd
theorem dDs_n {T : St} {S : Sh} {x : Int32} (hd : ¬ dr (m_nx x) 6 < 3) : m_dDs T S x = S := if_neg hd
theorem dDx_n {T : St} {S : Sh} {x : Int32} (hd : ¬ dr (m_nx x) 6 < 3) : m_dDx T S x = m_nx x := if_neg hd
theorem why_le {d : Nat} {S : Sh} {k : Nat} {n : Int32} (hd : d < 4) : m_why d S k n ≤ 0 ↔ m_why d S k n = 0 := by
  have h : m_why d S k n = 0 ∨ m_why d S k n = 1 ∨ m_why d S k n = 2 := by
    unfold m_why
    split
    · split
      · exact Or.inr (Or.inl rfl)
      · split
        · exact Or.inr (Or.inr rfl)
        · exact Or.inl rfl
    · split
      · exact Or.inl rfl
      · exact Or.inr (Or.inl rfl)
    · split
      · exact Or.inr (Or.inl rfl)
      · exact Or.inl rfl
  rcases h with e | e | e <;> rw [e] <;> decide
/-! ===== what is kept of the past: the reference ===== -/
/-- row j of the array at 77 is Shores H j, laid as the array at 71 lays them from 120 on -/
def HSX (F : FW) (m n : Nat) (H : Nat → Sh) : Prop := F.1 69 25 = Int32.ofNat n ∧ n ≤ 8 ∧ ∀ j, j < n → XS (fcp F 77 71 (133 * j) 120 133) m (H j)
theorem HSX.get {F G : FW} {m n j : Nat} {H : Nat → Sh} (h : HSX F m n H) (hm : m ≤ 8) (hj : j < n) (x : ∀ k, 120 ≤ k → k < 253 → G.1 71 k = F.1 77 (133 * j + (k - 120))) : XS G m (H j) :=
  (h.2.2 j hj).of hm fun k h1 h2 => (x k h1 h2).trans (if_pos (show (71 = 71) ∧ 120 ≤ k ∧ k < 120 + 133 from ⟨rfl, h1, by omega⟩)).symm
theorem HSX.put {F : FW} {m j : Nat} {S : Sh} {K : FW} (hm : m ≤ 8) (hS : XS K m S) (x : ∀ i, i < 133 → F.1 77 (133 * j + i) = K.1 71 (120 + i)) : XS (fcp F 77 71 (133 * j) 120 133) m S :=
  hS.of hm fun k h1 h2 => (if_pos (show (71 = 71) ∧ 120 ≤ k ∧ k < 120 + 133 from ⟨rfl, h1, by omega⟩)).trans ((x (k - 120) (by omega)).trans (congrArg (K.1 71) (by omega)))
theorem HSX.row {F G : FW} {m i j : Nat} {S : Sh} (hm : m ≤ 8) (h : XS (fcp F 77 71 (133 * i) 120 133) m S) (x : ∀ k, k < 133 → G.1 77 (133 * j + k) = F.1 77 (133 * i + k)) : XS (fcp G 77 71 (133 * j) 120 133) m S :=
  h.of hm fun k h1 h2 => (if_pos (show (71 = 71) ∧ 120 ≤ k ∧ k < 120 + 133 from ⟨rfl, h1, by omega⟩)).trans ((x (k - 120) (by omega)).trans (if_pos (show (71 = 71) ∧ 120 ≤ k ∧ k < 120 + 133 from ⟨rfl, h1, by omega⟩)).symm)
theorem HSX.same {F G : FW} {m n : Nat} {H : Nat → Sh} (h : HSX F m n H) (hm : m ≤ 8) (e : G.1 69 25 = F.1 69 25) (x : ∀ k, G.1 77 k = F.1 77 k) : HSX G m n H :=
  ⟨e.trans h.1, h.2.1, fun j hj => HSX.row hm (h.2.2 j hj) fun k _ => x _⟩
def HKX (b : Bool) (F : FW) (m n : Nat) (H : Nat → Sh) (S : Sh) : Prop := if b then HSX F m (m_kn n) (m_kH n H S) else HSX F m n H
theorem HKX.t {b : Bool} {F : FW} {m n : Nat} {H : Nat → Sh} {S : Sh} (h : HSX F m (m_kn n) (m_kH n H S)) (e : b = true) : HKX b F m n H S := by
  rw [e]
  exact h
theorem HKX.f {b : Bool} {F : FW} {m n : Nat} {H : Nat → Sh} {S : Sh} (h : HSX F m n H) (e : b = false) : HKX b F m n H S := by
  rw [e]
  exact h
theorem m_fst_59 {T : St} {S : Sh} {r : Nat} (hr : 60 = r) (h : m_fst (pRest T S) r = none) : m_fst (pRest T S) 59 = none := by
  subst hr
  exact (m_fst_l h).1
theorem rounds_z {T : St} {S : Sh} {r : Nat} (h : m_fst (pRest T S) r = none) (c : pRest T S r = true) (hr : r < 60) : m_rounds T S = r + 1 := by
  by_cases e : r < 59
  · exact rounds_r h c e
  · have e2 : r = 59 := by omega
    subst e2
    exact rounds_60 h
theorem dXs_y {T : St} {S : Sh} {x : Int32} (h1 : dr (m_nx x) 90 = 0) (h2 : 0 < t_m T) : m_dXs T S x = m_try 3 S (dr (m_nx (m_nx x)) (t_m T)) 0 := if_pos ⟨h1, h2⟩
theorem dXx_y {T : St} {S : Sh} {x : Int32} (h1 : dr (m_nx x) 90 = 0) (h2 : 0 < t_m T) : m_dXx T S x = m_nx (m_nx x) := if_pos ⟨h1, h2⟩
theorem dXs_n {T : St} {S : Sh} {x : Int32} (h : ¬ (dr (m_nx x) 90 = 0 ∧ 0 < t_m T)) : m_dXs T S x = S := if_neg h
theorem dXx_n {T : St} {S : Sh} {x : Int32} (h : ¬ (dr (m_nx x) 90 = 0 ∧ 0 < t_m T)) : m_dXx T S x = m_nx x := if_neg h
theorem RDR.t78 {F F1 G : FW} (r : RDR F F1) (x : FX (fun q => q = 78) F1 G) : RDR F G := ⟨r.1.tr (x.wd fun q (c : q = 78) => Or.inr (Or.inr (Or.inl c))), fun k => (x.1 71 k (by decide)).trans (r.2.1 k), fun k h1 h2 h3 => (x.1 69 k (by decide)).trans (r.2.2 k h1 h2 h3)⟩
theorem XS.die3b {F : FW} {m k : Nat} {S : Sh} {b : Int32} (h : XS F m S) (hm : m ≤ 8) (hk : k < m) (hb : F.1 71 180 = b) : XS (fp F 71 180 (b ||| 1 <<< (Int32.ofNat k &&& 31))) m (m_try 3 S k 0) := by
  subst hb
  exact h.die3 hm hk
theorem whyh_1 {d : Nat} {S : Sh} {k : Nat} {n : Int32} (hd : d = 0 ∨ d = 2) (h : ¬ m_why d S k n ≤ 0) : m_why d S k n = 1 := by
  have e : m_why d S k n = if h_s S k < n then 1 else 0 := by
    rcases hd with rfl | rfl <;> rfl
  rw [e] at h ⊢
  by_cases c : h_s S k < n
  · exact if_pos c
  · rw [if_neg c] at h
    exact absurd (show (0 : Int32) ≤ 0 by decide) h
theorem RKX.kp {F F1 G : FW} (r : RKX F F1) (x : FX (fun q => q = 77 ∨ q = 69) F1 G) (a : ∀ j, G.1 71 j = F1.1 71 j) (b : ∀ j, j ≠ 25 → G.1 69 j = F1.1 69 j) : RKX F G :=
  ⟨r.1.tr (x.wd fun q (c : q = 77 ∨ q = 69) => c.elim (fun e => Or.inr (Or.inr (Or.inl e))) Or.inl), fun k h1 h2 h3 h4 => (b k h3).trans (r.2.1 k h1 h2 h3 h4), fun k hk => (a k).trans (r.2.2 k hk)⟩
theorem days_ge (T : St) (S : Sh) : ∀ k, h_d S ≤ h_d (m_days T S k)
  | 0 => Nat.le_refl _
  | k + 1 => by
    have ih := days_ge T S k
    by_cases c : h_d (m_days T S k) < 400
    · rw [m_days_s c]
      show h_d S ≤ h_d (m_days T S k) + 1
      omega
    · rw [show m_days T S (k + 1) = m_days T S k from if_neg c]
      exact ih
theorem days_400 {T : St} {S : Sh} {k : Nat} (h : ¬ h_d S < 400) : m_days T S k = S := m_days_e (k := 0) (Nat.zero_le _) h
theorem h_d_1 {T : St} {S : Sh} {x : Int32} : h_d (m_d1 T S x) = h_d S + 1 := by
  have e : ∀ B, h_d (m_day T B) = h_d B + 1 := fun _ => rfl
  unfold m_d1
  rw [e, h_d_drawX, h_d_drawD]
theorem drawn_ge (T : St) (S : Sh) (x : Int32) : ∀ k, h_d S ≤ h_d (m_drawn T (S, x) k).1
  | 0 => Nat.le_refl _
  | k + 1 => by
    have ih := drawn_ge T S x k
    by_cases c : h_d (m_drawn T (S, x) k).1 < 400
    · rw [drawn_1 c, h_d_1]
      exact Nat.le_succ_of_le ih
    · have e : m_drawn T (S, x) (k + 1) = m_drawn T (S, x) k := if_neg c
      rw [e]
      exact ih
end
-- 63.b68a.lean.txt
section
set_option maxRecDepth 100000 in
set_option maxHeartbeats 4000000 in
theorem q_loads {F : FW} {T : St} {S : Sh} (hT : XT F T) (hS : XS F (t_m T) S) (hG : GW F) (hTB : TBB T) (hI : INV T S) (x : Int32) : Pm Z_X11_loads [.ref 69, .int x] F (fun r F' => r = some (.int (a_loads T S x)) ∧ RDR F F') := by
  refine Pm.of fun N => ?_
  obtain ⟨Q, hQ⟩ : ∃ Q : Option Value → FW → Prop, Q = (fun r F' => r = some (.int (a_loads T S x)) ∧ RDR F F') := ⟨_, rfl⟩
  rw [← hQ]
  have b3 := hT.mb
  have b4 := hT.nb
  have b5 := hT.gb
  have b6 := m_from_lt S
  have b7 := hS.db
  have hSB := hI.sb
  refine (show Pv (ab_T (L_X11_loads Z_X11_isIn Z_X11_tries Z_X11_goesOn Z_X11_back)) N 0 [some (.ref 69), some (.int x), none, none] [] F Q from ?_)
  refine Pv.aload rfl rfl ?_
  refine Pv.lit rfl ?_
  refine Pv.putI rfl rfl ?_
  refine Pv.iload rfl rfl ?_
  refine Pv.lit rfl ?_
  refine Pv.lit rfl ?_
  refine Pv.callI (as := [.int x, .int 1, .int 60]) (rest := []) (z := b2i (decide (1 ≤ x) && decide (x ≤ 60))) rfl rfl rfl (q_isIn x 1 60) ?_
  refine Pv.if0 rfl (fun c1 => ?_) (fun c1 => ?_)
  · skip
    replace c1 : decide (b2i (decide (1 ≤ x) && decide (x ≤ 60)) = 0) = false := by simpa using c1
    replace c1 := of_decide_eq_false c1
    replace c1 := b2n.mp c1
    obtain ⟨n, hn, hna, hnb, rfl⟩ := ndr_t ((ndr_in (a := 1) (b := 60) (by omega) (by omega)).symm.trans c1)
    refine Pv.aload rfl rfl ?_
    refine Pv.callV (as := [.ref 69]) (rest := []) rfl rfl rfl (g_tries (hG.fx (P := fun _ => True) (((FX.rf (P := fun _ => True))).fp trivial))) ?_
    rintro _ G2 ⟨rfl, x3, y4⟩
    have rt5 := RT.of ((RDR.rf).fp (Or.inl rfl)) x3 y4
    have hs6 := RT.ofS ((RDR.rf).fp (Or.inl rfl)) x3 b3 hS
    have hx7 := RT.T rt5 hT
    have hx8 := RT.G rt5 hG
    refine (show Pv _ _ 21 [some (.ref 69), some (.int (Int32.ofNat n)), none, none] [] G2 Q from ?_)
    refine Pv.aload rfl rfl ?_
    refine Pv.getR (v := .ref 71) rfl rfl (GW.at (a := 69) (k := 6) (b := 71) hx8 (by decide)) ?_
    refine Pv.lit rfl ?_
    refine Pv.ald (z := h_r S) rfl (hs6.r) ?_
    refine Pv.istore (lo' := [some (.ref 69), some (.int (Int32.ofNat n)), some (.int (h_r S)), none]) rfl rfl ?_
    refine Pv.aload rfl rfl ?_
    refine Pv.iload rfl rfl ?_
    refine Pv.callV (as := [.ref 69, .int (Int32.ofNat n)]) (rest := []) rfl rfl rfl (g_goesOn (n := n) hx7 hs6 hx8 hTB (INV.sb hI) (by omega)) ?_
    rintro _ G9 ⟨rfl, x10, hs11⟩
    have rt12 := RT.rx rt5 x10
    have hx13 := RT.T rt12 hT
    have hx14 := RT.G rt12 hG
    have bD15 := XS.db hs11
    refine (show Pv _ _ 34 [some (.ref 69), some (.int (Int32.ofNat n)), some (.int (h_r S)), none] [.int (Int32.ofNat (h_d (m_days T S n) - h_d S))] G9 Q from ?_)
    refine Pv.pop rfl ?_
    refine Pv.aload rfl rfl ?_
    refine Pv.getR (v := .ref 71) rfl rfl (GW.at (a := 69) (k := 6) (b := 71) hx14 (by decide)) ?_
    refine Pv.lit rfl ?_
    refine Pv.ald (z := h_r (m_days T S n)) rfl (hs11.r) ?_
    refine Pv.iload rfl rfl ?_
    refine Pv.bin (z := (h_r (m_days T S n)) - (h_r S)) rfl (rfl) ?_
    refine Pv.istore (lo' := [some (.ref 69), some (.int (Int32.ofNat n)), some (.int (h_r S)), some (.int ((h_r (m_days T S n)) - (h_r S)))]) rfl rfl ?_
    refine Pv.aload rfl rfl ?_
    refine Pv.callV (as := [.ref 69]) (rest := []) rfl rfl rfl (g_back hx14) ?_
    rintro _ G16 ⟨rfl, x17, y18, z19⟩
    have rd20 := RT.bk rt12 x17 y18 z19
    refine (show Pv _ _ 49 [some (.ref 69), some (.int (Int32.ofNat n)), some (.int (h_r S)), some (.int ((h_r (m_days T S n)) - (h_r S)))] [] G16 Q from ?_)
    refine Pv.iload rfl rfl ?_
    exact Pv.ret rfl (by rw [hQ]; exact ⟨by unfold a_loads; rw [hn], rd20⟩)
  · skip
    replace c1 : decide (b2i (decide (1 ≤ x) && decide (x ≤ 60)) = 0) = true := by simpa using c1
    replace c1 := of_decide_eq_true c1
    replace c1 := b2z.mp c1
    refine Pv.lit rfl ?_
    exact Pv.ret rfl (by rw [hQ]; exact ⟨by unfold a_loads; rw [ndr_f ((ndr_in (a := 1) (b := 60) (by omega) (by omega)).symm.trans c1)], (RDR.rf).fp (Or.inl rfl)⟩)
set_option maxRecDepth 100000 in
set_option maxHeartbeats 4000000 in
theorem q_hunger {F : FW} {T : St} {S : Sh} (hT : XT F T) (hS : XS F (t_m T) S) (hG : GW F) (hTB : TBB T) (hI : INV T S) (x y z : Int32) : Pm Z_X11_hunger [.ref 69, .int x, .int y, .int z] F (fun r F' => r = some (.int (a_hunger T S x y z)) ∧ RDR F F') := by
  refine Pm.of fun N => ?_
  obtain ⟨Q, hQ⟩ : ∃ Q : Option Value → FW → Prop, Q = (fun r F' => r = some (.int (a_hunger T S x y z)) ∧ RDR F F') := ⟨_, rfl⟩
  rw [← hQ]
  have b3 := hT.mb
  have b4 := hT.nb
  have b5 := hT.gb
  have b6 := m_from_lt S
  have b7 := hS.db
  have hSB := hI.sb
  refine (show Pv (ab_T (L_X11_hunger Z_X11_isPlace Z_X11_isIn Z_X11_tries Z_X11_cell Z_X11_goesOn Z_X11_back)) N 0 [some (.ref 69), some (.int x), some (.int y), some (.int z), none, none] [] F Q from ?_)
  refine Pv.aload rfl rfl ?_
  refine Pv.lit rfl ?_
  refine Pv.putI rfl rfl ?_
  refine Pv.aload rfl rfl ?_
  refine Pv.iload rfl rfl ?_
  refine Pv.iload rfl rfl ?_
  refine Pv.callVI (as := [.ref 69, .int x, .int y]) (rest := []) (z := b2i ((nd (t_g T) x).isSome && (nd 2 y).isSome)) rfl rfl rfl (q_isPlace (hT.fx (P := fun q => q = 69) (((FX.rf (P := fun q => q = 69))).fp rfl) (by decide)) (hG.fx (P := fun _ => True) (((FX.rf (P := fun _ => True))).fp trivial)) x y) ?_
  refine Pv.if0 rfl (fun c1 => ?_) (fun c1 => ?_)
  · skip
    replace c1 := of_decide_eq_true c1
    replace c1 := b2z.mp c1
    refine Pv.lit rfl ?_
    exact Pv.ret rfl (by rw [hQ]; exact ⟨by unfold a_hunger; rw [aGS_f c1], (RDR.rf).fp (Or.inl rfl)⟩)
  · skip
    replace c1 := of_decide_eq_false c1
    replace c1 := b2n.mp c1
    obtain ⟨g, s, hg, hs, hgl, hsl, rfl, rfl⟩ := gs_t c1
    refine Pv.iload rfl rfl ?_
    refine Pv.lit rfl ?_
    refine Pv.lit rfl ?_
    refine Pv.callI (as := [.int z, .int 1, .int 60]) (rest := []) (z := b2i (decide (1 ≤ z) && decide (z ≤ 60))) rfl rfl rfl (q_isIn z 1 60) ?_
    refine Pv.if0 rfl (fun c2 => ?_) (fun c2 => ?_)
    · skip
      replace c2 : decide (b2i (decide (1 ≤ z) && decide (z ≤ 60)) = 0) = false := by simpa using c2
      replace c2 := of_decide_eq_false c2
      replace c2 := b2n.mp c2
      obtain ⟨n, hn, hna, hnb, rfl⟩ := ndr_t ((ndr_in (a := 1) (b := 60) (by omega) (by omega)).symm.trans c2)
      refine Pv.aload rfl rfl ?_
      refine Pv.callV (as := [.ref 69]) (rest := []) rfl rfl rfl (g_tries (hG.fx (P := fun _ => True) (((FX.rf (P := fun _ => True))).fp trivial))) ?_
      rintro _ G3 ⟨rfl, x4, y5⟩
      have rt6 := RT.of ((RDR.rf).fp (Or.inl rfl)) x4 y5
      have hs7 := RT.ofS ((RDR.rf).fp (Or.inl rfl)) x4 b3 hS
      have hx8 := RT.T rt6 hT
      have hx9 := RT.G rt6 hG
      refine (show Pv _ _ 30 [some (.ref 69), some (.int (Int32.ofNat g)), some (.int (Int32.ofNat s)), some (.int (Int32.ofNat n)), none, none] [] G3 Q from ?_)
      refine Pv.aload rfl rfl ?_
      refine Pv.getR (v := .ref 71) rfl rfl (GW.at (a := 69) (k := 6) (b := 71) hx9 (by decide)) ?_
      refine Pv.lit rfl ?_
      refine Pv.iload rfl rfl ?_
      refine Pv.iload rfl rfl ?_
      refine Pv.callI (as := [.int (Int32.ofNat g), .int (Int32.ofNat s)]) (rest := [.int 148, .ref 71]) (z := Int32.ofNat (2 * g + s)) rfl rfl rfl (g_cell (g := g) (s := s)) ?_
      refine Pv.bin (z := Int32.ofNat (148 + (2 * g + s))) rfl (i_add 148 (2 * g + s)) ?_
      refine Pv.ald (z := h_u S (2 * g + s)) rfl (by rw [i_toNat (by omega)]; exact hs7.u _ (by omega)) ?_
      refine Pv.istore (lo' := [some (.ref 69), some (.int (Int32.ofNat g)), some (.int (Int32.ofNat s)), some (.int (Int32.ofNat n)), some (.int (h_u S (2 * g + s))), none]) rfl rfl ?_
      refine Pv.aload rfl rfl ?_
      refine Pv.iload rfl rfl ?_
      refine Pv.callV (as := [.ref 69, .int (Int32.ofNat n)]) (rest := []) rfl rfl rfl (g_goesOn (n := n) hx8 hs7 hx9 hTB (INV.sb hI) (by omega)) ?_
      rintro _ G10 ⟨rfl, x11, hs12⟩
      have rt13 := RT.rx rt6 x11
      have hx14 := RT.T rt13 hT
      have hx15 := RT.G rt13 hG
      have bD16 := XS.db hs12
      refine (show Pv _ _ 51 [some (.ref 69), some (.int (Int32.ofNat g)), some (.int (Int32.ofNat s)), some (.int (Int32.ofNat n)), some (.int (h_u S (2 * g + s))), none] [.int (Int32.ofNat (h_d (m_days T S n) - h_d S))] G10 Q from ?_)
      refine Pv.pop rfl ?_
      refine Pv.aload rfl rfl ?_
      refine Pv.getR (v := .ref 71) rfl rfl (GW.at (a := 69) (k := 6) (b := 71) hx15 (by decide)) ?_
      refine Pv.lit rfl ?_
      refine Pv.iload rfl rfl ?_
      refine Pv.iload rfl rfl ?_
      refine Pv.callI (as := [.int (Int32.ofNat g), .int (Int32.ofNat s)]) (rest := [.int 148, .ref 71]) (z := Int32.ofNat (2 * g + s)) rfl rfl rfl (g_cell (g := g) (s := s)) ?_
      refine Pv.bin (z := Int32.ofNat (148 + (2 * g + s))) rfl (i_add 148 (2 * g + s)) ?_
      refine Pv.ald (z := h_u (m_days T S n) (2 * g + s)) rfl (by rw [i_toNat (by omega)]; exact hs12.u _ (by omega)) ?_
      refine Pv.iload rfl rfl ?_
      refine Pv.bin (z := (h_u (m_days T S n) (2 * g + s)) - (h_u S (2 * g + s))) rfl (rfl) ?_
      refine Pv.istore (lo' := [some (.ref 69), some (.int (Int32.ofNat g)), some (.int (Int32.ofNat s)), some (.int (Int32.ofNat n)), some (.int (h_u S (2 * g + s))), some (.int ((h_u (m_days T S n) (2 * g + s)) - (h_u S (2 * g + s))))]) rfl rfl ?_
      refine Pv.aload rfl rfl ?_
      refine Pv.callV (as := [.ref 69]) (rest := []) rfl rfl rfl (g_back hx15) ?_
      rintro _ G17 ⟨rfl, x18, y19, z20⟩
      have rd21 := RT.bk rt13 x18 y19 z20
      refine (show Pv _ _ 75 [some (.ref 69), some (.int (Int32.ofNat g)), some (.int (Int32.ofNat s)), some (.int (Int32.ofNat n)), some (.int (h_u S (2 * g + s))), some (.int ((h_u (m_days T S n) (2 * g + s)) - (h_u S (2 * g + s))))] [] G17 Q from ?_)
      refine Pv.iload rfl rfl ?_
      exact Pv.ret rfl (by rw [hQ]; exact ⟨by unfold a_hunger; rw [aGS_t hg hs, hn], rd21⟩)
    · skip
      replace c2 : decide (b2i (decide (1 ≤ z) && decide (z ≤ 60)) = 0) = true := by simpa using c2
      replace c2 := of_decide_eq_true c2
      replace c2 := b2z.mp c2
      refine Pv.lit rfl ?_
      exact Pv.ret rfl (by rw [hQ]; exact ⟨by unfold a_hunger; rw [aGS_t hg hs, ndr_f ((ndr_in (a := 1) (b := 60) (by omega) (by omega)).symm.trans c2)], (RDR.rf).fp (Or.inl rfl)⟩)
set_option maxRecDepth 100000 in
set_option maxHeartbeats 4000000 in
theorem q_crosses {F : FW} {T : St} {S : Sh} (hT : XT F T) (hS : XS F (t_m T) S) (hG : GW F) (hTB : TBB T) (hI : INV T S) (x : Int32) : Pm Z_X11_crosses [.ref 69, .int x] F (fun r F' => r = some (.int (a_crosses T S x)) ∧ RDR F F') := by
  refine Pm.of fun N => ?_
  obtain ⟨Q, hQ⟩ : ∃ Q : Option Value → FW → Prop, Q = (fun r F' => r = some (.int (a_crosses T S x)) ∧ RDR F F') := ⟨_, rfl⟩
  rw [← hQ]
  have b3 := hT.mb
  have b4 := hT.nb
  have b5 := hT.gb
  have b6 := m_from_lt S
  have b7 := hS.db
  have hSB := hI.sb
  refine (show Pv (ab_T (L_X11_crosses Z_X11_isMan Z_X11_isDead Z_X11_tries Z_X11_goesOn Z_X11_back)) N 0 [some (.ref 69), some (.int x), none, none, none] [] F Q from ?_)
  refine Pv.aload rfl rfl ?_
  refine Pv.lit rfl ?_
  refine Pv.putI rfl rfl ?_
  refine Pv.aload rfl rfl ?_
  refine Pv.iload rfl rfl ?_
  refine Pv.callVI (as := [.ref 69, .int x]) (rest := []) (z := b2i (nd (t_m T) x).isSome) rfl rfl rfl (q_isMan (hT.fx (P := fun q => q = 69) (((FX.rf (P := fun q => q = 69))).fp rfl) (by decide)) (hG.fx (P := fun _ => True) (((FX.rf (P := fun _ => True))).fp trivial)) x) ?_
  refine Pv.if0 rfl (fun c1 => ?_) (fun c1 => ?_)
  · skip
    replace c1 := of_decide_eq_true c1
    replace c1 := b2z.mp c1
    refine Pv.lit rfl ?_
    exact Pv.ret rfl (by rw [hQ]; exact ⟨by unfold a_crosses; rw [nd_f c1], (RDR.rf).fp (Or.inl rfl)⟩)
  · skip
    replace c1 := of_decide_eq_false c1
    replace c1 := b2n.mp c1
    obtain ⟨m, hm, hml, rfl⟩ := nd_t c1
    refine Pv.aload rfl rfl ?_
    refine Pv.iload rfl rfl ?_
    refine Pv.callVI (as := [.ref 69, .int (Int32.ofNat m)]) (rest := []) (z := b2i (!m_alive S m)) rfl rfl rfl (g_isDead (o := 0) (m := m) (hS.xd.fx (P := fun q => q = 69) (((FX.rf (P := fun q => q = 69))).fp rfl) (by decide)) (hG.fx (P := fun _ => True) (((FX.rf (P := fun _ => True))).fp trivial)) (by omega)) ?_
    refine Pv.if0 rfl (fun c2 => ?_) (fun c2 => ?_)
    · skip
      replace c2 := of_decide_eq_true c2
      replace c2 := b2z.mp c2
      have al : m_alive S m = true := by simpa using c2
      refine Pv.aload rfl rfl ?_
      refine Pv.callV (as := [.ref 69]) (rest := []) rfl rfl rfl (g_tries (hG.fx (P := fun _ => True) (((FX.rf (P := fun _ => True))).fp trivial))) ?_
      rintro _ G3 ⟨rfl, x4, y5⟩
      have rt6 := RT.of ((RDR.rf).fp (Or.inl rfl)) x4 y5
      have hs7 := RT.ofS ((RDR.rf).fp (Or.inl rfl)) x4 b3 hS
      have hx8 := RT.T rt6 hT
      have hx9 := RT.G rt6 hG
      refine (show Pv _ _ 27 [some (.ref 69), some (.int (Int32.ofNat m)), none, none, none] [] G3 Q from ?_)
      refine Pv.aload rfl rfl ?_
      refine Pv.getR (v := .ref 71) rfl rfl (GW.at (a := 69) (k := 6) (b := 71) hx9 (by decide)) ?_
      refine Pv.lit rfl ?_
      refine Pv.iload rfl rfl ?_
      refine Pv.bin (z := Int32.ofNat (181 + m)) rfl (i_add 181 m) ?_
      refine Pv.ald (z := h_t S m) rfl (by rw [i_toNat (by omega)]; exact hs7.t _ (by omega)) ?_
      refine Pv.istore (lo' := [some (.ref 69), some (.int (Int32.ofNat m)), some (.int (h_t S m)), none, none]) rfl rfl ?_
      refine Pv.lit rfl ?_
      refine Pv.istore (lo' := [some (.ref 69), some (.int (Int32.ofNat m)), some (.int (h_t S m)), some (.int (-1)), none]) rfl rfl ?_
      refine Pv.lit rfl ?_
      refine Pv.istore (lo' := [some (.ref 69), some (.int (Int32.ofNat m)), some (.int (h_t S m)), some (.int (-1)), some (.int 0)]) rfl rfl ?_
      refine Pv.lp (ι := Nat × Int32 × FW) (lof := fun ⟨k, w, G⟩ => [some (.ref 69), some (.int (Int32.ofNat m)), some (.int (h_t S m)), some (.int w), some (.int (Int32.ofNat k))]) (Ff := fun ⟨k, w, G⟩ => G) (P := fun ⟨k, w, G⟩ => k ≤ 100 ∧ RT F G ∧ XS G (t_m T) (m_days T S k) ∧ w = aDay T S (m_fst (pCross T S m) k)) ?_ (0, (-1), G3) (⟨Nat.zero_le _, rt6, hs7, rfl⟩)
      rintro N10 hN11 ⟨k, w, G⟩ hi12 ih13
      refine (show Pv _ _ 43 [some (.ref 69), some (.int (Int32.ofNat m)), some (.int (h_t S m)), some (.int w), some (.int (Int32.ofNat k))] [] G Q from ?_)
      obtain ⟨hk, rt, hxs, hw⟩ := hi12
      have hx14 := RT.T rt hT
      have hx15 := RT.G rt hG
      have bD16 := XS.db hxs
      refine Pv.iloadS rfl rfl ?_
      refine Pv.lit rfl ?_
      refine Pv.icmp rfl (fun c17 => ?_) (fun c17 => ?_)
      · skip
        replace c17 := (i_le (a := 100) (b := k) (by omega) (by omega)).mp (of_decide_eq_true c17)
        refine Pv.aload rfl rfl ?_
        refine Pv.callV (as := [.ref 69]) (rest := []) rfl rfl rfl (g_back hx15) ?_
        rintro _ G18 ⟨rfl, x19, y20, z21⟩
        have rd22 := RT.bk rt x19 y20 z21
        refine (show Pv _ _ 97 [some (.ref 69), some (.int (Int32.ofNat m)), some (.int (h_t S m)), some (.int w), some (.int (Int32.ofNat k))] [] G18 Q from ?_)
        refine Pv.iload rfl rfl ?_
        exact Pv.ret rfl (by rw [hQ]; exact ⟨by unfold a_crosses; rw [hm]; dsimp only; rw [if_pos al]; rw [hw, show k = 100 by omega], rd22⟩)
      · skip
        replace c17 := mt (i_le (a := 100) (b := k) (by omega) (by omega)).mpr (of_decide_eq_false c17)
        refine Pv.iload rfl rfl ?_
        refine Pv.if0 rfl (fun c23 => ?_) (fun c23 => ?_)
        · skip
          replace c23 := of_decide_eq_true c23
          refine Pv.aload rfl rfl ?_
          refine Pv.callV (as := [.ref 69]) (rest := []) rfl rfl rfl (g_back hx15) ?_
          rintro _ G24 ⟨rfl, x25, y26, z27⟩
          have rd28 := RT.bk rt x25 y26 z27
          refine (show Pv _ _ 97 [some (.ref 69), some (.int (Int32.ofNat m)), some (.int (h_t S m)), some (.int w), some (.int (Int32.ofNat k))] [] G24 Q from ?_)
          refine Pv.iload rfl rfl ?_
          exact Pv.ret rfl (by rw [hQ]; exact ⟨by unfold a_crosses; rw [hm]; dsimp only; rw [if_pos al]; rw [hw, aDay_s (k := k) (n := 100) (by omega) (by rw [← hw]; exact Int32.not_lt.mpr c23)], rd28⟩)
        · skip
          replace c23 := of_decide_eq_false c23
          have hb : m_fst (pCross T S m) k = none := aDay_n (fun j => (INV_days hTB hT.gb hI j).db) (by rw [← hw]; exact Int32.not_le.mp c23)
          have g1 := hd_1 T (m_days T S k)
          refine Pv.aload rfl rfl ?_
          refine Pv.lit rfl ?_
          refine Pv.callV (as := [.ref 69, .int 1]) (rest := []) rfl rfl rfl (g_goesOn (n := 1) hx14 hxs hx15 hTB (INV.sb (INV_days hTB hT.gb hI k)) (by omega)) ?_
          rintro _ G29 ⟨rfl, x30, hs31⟩
          have rt32 := RT.rx rt x30
          have hx33 := RT.T rt32 hT
          have hx34 := RT.G rt32 hG
          have bD35 := XS.db hs31
          refine (show Pv _ _ 59 [some (.ref 69), some (.int (Int32.ofNat m)), some (.int (h_t S m)), some (.int w), some (.int (Int32.ofNat k))] [.int (Int32.ofNat (h_d (m_days T (m_days T S k) 1) - h_d (m_days T S k)))] G29 Q from ?_)
          refine Pv.lit rfl ?_
          refine Pv.icmp rfl (fun c36 => ?_) (fun c36 => ?_)
          · skip
            replace c36 : decide (Int32.ofNat (h_d (m_days T (m_days T S k) 1) - h_d (m_days T S k)) = 1) = false := by simpa using c36
            replace c36 := mt (i_eq (a := h_d (m_days T (m_days T S k) 1) - h_d (m_days T S k)) (b := 1) (by omega) (by omega)).mpr (of_decide_eq_false c36)
            refine Pv.aload rfl rfl ?_
            refine Pv.callV (as := [.ref 69]) (rest := []) rfl rfl rfl (g_back hx34) ?_
            rintro _ G37 ⟨rfl, x38, y39, z40⟩
            have rd41 := RT.bk rt32 x38 y39 z40
            refine (show Pv _ _ 97 [some (.ref 69), some (.int (Int32.ofNat m)), some (.int (h_t S m)), some (.int w), some (.int (Int32.ofNat k))] [] G37 Q from ?_)
            refine Pv.iload rfl rfl ?_
            exact Pv.ret rfl (by rw [hQ]; exact ⟨by unfold a_crosses; rw [hm]; dsimp only; rw [if_pos al]; rw [hw, hb, m_fst_z hb (by omega) (fun i hi => by unfold pCross; rw [decide_eq_false (by rw [m_days_400 (by omega) hi]; omega)]; rfl)], rd41⟩)
          · skip
            replace c36 : decide (Int32.ofNat (h_d (m_days T (m_days T S k) 1) - h_d (m_days T S k)) = 1) = true := by simpa using c36
            replace c36 := (i_eq (a := h_d (m_days T (m_days T S k) 1) - h_d (m_days T S k)) (b := 1) (by omega) (by omega)).mp (of_decide_eq_true c36)
            refine Pv.aload rfl rfl ?_
            refine Pv.getR (v := .ref 71) rfl rfl (GW.at (a := 69) (k := 6) (b := 71) hx34 (by decide)) ?_
            refine Pv.lit rfl ?_
            refine Pv.iload rfl rfl ?_
            refine Pv.bin (z := Int32.ofNat (181 + m)) rfl (i_add 181 m) ?_
            refine Pv.ald (z := h_t (m_days T (m_days T S k) 1) m) rfl (by rw [i_toNat (by omega)]; exact hs31.t _ (by omega)) ?_
            refine Pv.iload rfl rfl ?_
            refine Pv.icmp rfl (fun c42 => ?_) (fun c42 => ?_)
            · skip
              replace c42 := of_decide_eq_true c42
              refine Pv.iinc (y := Int32.ofNat (k + 1)) (lo' := [some (.ref 69), some (.int (Int32.ofNat m)), some (.int (h_t S m)), some (.int w), some (.int (Int32.ofNat (k + 1)))]) rfl rfl (i_add k 1) rfl ?_
              refine Pv.goto rfl ?_
              exact ih13 (k + 1, w, G29) (⟨by omega, rt32, (show XS G29 (t_m T) (m_days T S (k + 1)) from hs31), by rw [hw, hb, m_fst_n hb (by rw [← Bool.not_eq_true]; exact fun q => absurd ((cross_iff (k := k) hml hI hb (by omega)).mpr q) (Int32.not_lt.mpr c42))]⟩)
            · skip
              replace c42 := of_decide_eq_false c42
              refine Pv.aload rfl rfl ?_
              refine Pv.getR (v := .ref 71) rfl rfl (GW.at (a := 69) (k := 6) (b := 71) hx34 (by decide)) ?_
              refine Pv.lit rfl ?_
              refine Pv.ald (z := Int32.ofNat (h_d (m_days T (m_days T S k) 1))) rfl (hs31.d) ?_
              refine Pv.lit rfl ?_
              refine Pv.bin (z := Int32.ofNat (h_d (m_days T S k))) rfl ((i_subN (a := h_d (m_days T (m_days T S k) 1)) (b := 1) (by omega)).trans (congrArg Int32.ofNat (by omega))) ?_
              refine Pv.istore (lo' := [some (.ref 69), some (.int (Int32.ofNat m)), some (.int (h_t S m)), some (.int (Int32.ofNat (h_d (m_days T S k)))), some (.int (Int32.ofNat k))]) rfl rfl ?_
              refine Pv.iinc (y := Int32.ofNat (k + 1)) (lo' := [some (.ref 69), some (.int (Int32.ofNat m)), some (.int (h_t S m)), some (.int (Int32.ofNat (h_d (m_days T S k)))), some (.int (Int32.ofNat (k + 1)))]) rfl rfl (i_add k 1) rfl ?_
              refine Pv.goto rfl ?_
              exact ih13 (k + 1, Int32.ofNat (h_d (m_days T S k)), G29) (⟨by omega, rt32, (show XS G29 (t_m T) (m_days T S (k + 1)) from hs31), by rw [m_fst_e hb ((cross_iff (k := k) hml hI hb (by omega)).mp (Int32.not_le.mp c42)) (Nat.lt_succ_self k)]; rfl⟩)
    · skip
      replace c2 := of_decide_eq_false c2
      replace c2 := b2n.mp c2
      refine Pv.lit rfl ?_
      exact Pv.ret rfl (by rw [hQ]; exact ⟨by unfold a_crosses; rw [hm]; dsimp only; rw [if_neg (by have q := c2; simp at q; rw [q]; decide)], (RDR.rf).fp (Or.inl rfl)⟩)
set_option maxRecDepth 100000 in
set_option maxHeartbeats 4000000 in
theorem q_comes {F : FW} {T : St} {S : Sh} (hT : XT F T) (hS : XS F (t_m T) S) (hG : GW F) (hTB : TBB T) (hI : INV T S) (x y : Int32) : Pm Z_X11_comes [.ref 69, .int x, .int y] F (fun r F' => r = some (.int (a_comes T S x y)) ∧ RDR F F') := by
  refine Pm.of fun N => ?_
  obtain ⟨Q, hQ⟩ : ∃ Q : Option Value → FW → Prop, Q = (fun r F' => r = some (.int (a_comes T S x y)) ∧ RDR F F') := ⟨_, rfl⟩
  rw [← hQ]
  have b3 := hT.mb
  have b4 := hT.nb
  have b5 := hT.gb
  have b6 := m_from_lt S
  have b7 := hS.db
  have hSB := hI.sb
  refine (show Pv (ab_T (L_X11_comes Z_X11_isPlace Z_X11_tries Z_X11_cell Z_X11_goesOn Z_X11_back)) N 0 [some (.ref 69), some (.int x), some (.int y), none, none, none] [] F Q from ?_)
  refine Pv.aload rfl rfl ?_
  refine Pv.lit rfl ?_
  refine Pv.putI rfl rfl ?_
  refine Pv.aload rfl rfl ?_
  refine Pv.iload rfl rfl ?_
  refine Pv.iload rfl rfl ?_
  refine Pv.callVI (as := [.ref 69, .int x, .int y]) (rest := []) (z := b2i ((nd (t_g T) x).isSome && (nd 2 y).isSome)) rfl rfl rfl (q_isPlace (hT.fx (P := fun q => q = 69) (((FX.rf (P := fun q => q = 69))).fp rfl) (by decide)) (hG.fx (P := fun _ => True) (((FX.rf (P := fun _ => True))).fp trivial)) x y) ?_
  refine Pv.if0 rfl (fun c1 => ?_) (fun c1 => ?_)
  · skip
    replace c1 : decide (b2i ((nd (t_g T) x).isSome && (nd 2 y).isSome) = 0) = false := by simpa using c1
    replace c1 := of_decide_eq_false c1
    replace c1 := b2n.mp c1
    obtain ⟨g, s, hg, hs, hgl, hsl, rfl, rfl⟩ := gs_t c1
    refine Pv.aload rfl rfl ?_
    refine Pv.callV (as := [.ref 69]) (rest := []) rfl rfl rfl (g_tries (hG.fx (P := fun _ => True) (((FX.rf (P := fun _ => True))).fp trivial))) ?_
    rintro _ G2 ⟨rfl, x3, y4⟩
    have rt5 := RT.of ((RDR.rf).fp (Or.inl rfl)) x3 y4
    have hs6 := RT.ofS ((RDR.rf).fp (Or.inl rfl)) x3 b3 hS
    have hx7 := RT.T rt5 hT
    have hx8 := RT.G rt5 hG
    refine (show Pv _ _ 20 [some (.ref 69), some (.int (Int32.ofNat g)), some (.int (Int32.ofNat s)), none, none, none] [] G2 Q from ?_)
    refine Pv.aload rfl rfl ?_
    refine Pv.getR (v := .ref 71) rfl rfl (GW.at (a := 69) (k := 6) (b := 71) hx8 (by decide)) ?_
    refine Pv.lit rfl ?_
    refine Pv.iload rfl rfl ?_
    refine Pv.iload rfl rfl ?_
    refine Pv.callI (as := [.int (Int32.ofNat g), .int (Int32.ofNat s)]) (rest := [.int 160, .ref 71]) (z := Int32.ofNat (2 * g + s)) rfl rfl rfl (g_cell (g := g) (s := s)) ?_
    refine Pv.bin (z := Int32.ofNat (160 + (2 * g + s))) rfl (i_add 160 (2 * g + s)) ?_
    refine Pv.ald (z := h_c S (2 * g + s)) rfl (by rw [i_toNat (by omega)]; exact hs6.c _ (by omega)) ?_
    refine Pv.istore (lo' := [some (.ref 69), some (.int (Int32.ofNat g)), some (.int (Int32.ofNat s)), some (.int (h_c S (2 * g + s))), none, none]) rfl rfl ?_
    refine Pv.lit rfl ?_
    refine Pv.istore (lo' := [some (.ref 69), some (.int (Int32.ofNat g)), some (.int (Int32.ofNat s)), some (.int (h_c S (2 * g + s))), some (.int (-1)), none]) rfl rfl ?_
    refine Pv.lit rfl ?_
    refine Pv.istore (lo' := [some (.ref 69), some (.int (Int32.ofNat g)), some (.int (Int32.ofNat s)), some (.int (h_c S (2 * g + s))), some (.int (-1)), some (.int 0)]) rfl rfl ?_
    refine Pv.lp (ι := Nat × Int32 × FW) (lof := fun ⟨k, w, G⟩ => [some (.ref 69), some (.int (Int32.ofNat g)), some (.int (Int32.ofNat s)), some (.int (h_c S (2 * g + s))), some (.int w), some (.int (Int32.ofNat k))]) (Ff := fun ⟨k, w, G⟩ => G) (P := fun ⟨k, w, G⟩ => k ≤ 100 ∧ RT F G ∧ XS G (t_m T) (m_days T S k) ∧ w = aDay T S (m_fst (pComes T S g s) k)) ?_ (0, (-1), G2) (⟨Nat.zero_le _, rt5, hs6, rfl⟩)
    rintro N9 hN10 ⟨k, w, G⟩ hi11 ih12
    refine (show Pv _ _ 41 [some (.ref 69), some (.int (Int32.ofNat g)), some (.int (Int32.ofNat s)), some (.int (h_c S (2 * g + s))), some (.int w), some (.int (Int32.ofNat k))] [] G Q from ?_)
    obtain ⟨hk, rt, hxs, hw⟩ := hi11
    have hx13 := RT.T rt hT
    have hx14 := RT.G rt hG
    have bD15 := XS.db hxs
    refine Pv.iloadS rfl rfl ?_
    refine Pv.lit rfl ?_
    refine Pv.icmp rfl (fun c16 => ?_) (fun c16 => ?_)
    · skip
      replace c16 := (i_le (a := 100) (b := k) (by omega) (by omega)).mp (of_decide_eq_true c16)
      refine Pv.aload rfl rfl ?_
      refine Pv.callV (as := [.ref 69]) (rest := []) rfl rfl rfl (g_back hx14) ?_
      rintro _ G17 ⟨rfl, x18, y19, z20⟩
      have rd21 := RT.bk rt x18 y19 z20
      refine (show Pv _ _ 101 [some (.ref 69), some (.int (Int32.ofNat g)), some (.int (Int32.ofNat s)), some (.int (h_c S (2 * g + s))), some (.int w), some (.int (Int32.ofNat k))] [] G17 Q from ?_)
      refine Pv.iload rfl rfl ?_
      exact Pv.ret rfl (by rw [hQ]; exact ⟨by unfold a_comes; rw [aGS_t hg hs]; rw [hw, show k = 100 by omega], rd21⟩)
    · skip
      replace c16 := mt (i_le (a := 100) (b := k) (by omega) (by omega)).mpr (of_decide_eq_false c16)
      refine Pv.iload rfl rfl ?_
      refine Pv.if0 rfl (fun c22 => ?_) (fun c22 => ?_)
      · skip
        replace c22 := of_decide_eq_true c22
        refine Pv.aload rfl rfl ?_
        refine Pv.callV (as := [.ref 69]) (rest := []) rfl rfl rfl (g_back hx14) ?_
        rintro _ G23 ⟨rfl, x24, y25, z26⟩
        have rd27 := RT.bk rt x24 y25 z26
        refine (show Pv _ _ 101 [some (.ref 69), some (.int (Int32.ofNat g)), some (.int (Int32.ofNat s)), some (.int (h_c S (2 * g + s))), some (.int w), some (.int (Int32.ofNat k))] [] G23 Q from ?_)
        refine Pv.iload rfl rfl ?_
        exact Pv.ret rfl (by rw [hQ]; exact ⟨by unfold a_comes; rw [aGS_t hg hs]; rw [hw, aDay_s (k := k) (n := 100) (by omega) (by rw [← hw]; exact Int32.not_lt.mpr c22)], rd27⟩)
      · skip
        replace c22 := of_decide_eq_false c22
        have hb : m_fst (pComes T S g s) k = none := aDay_n (fun j => (INV_days hTB hT.gb hI j).db) (by rw [← hw]; exact Int32.not_le.mp c22)
        have g1 := hd_1 T (m_days T S k)
        refine Pv.aload rfl rfl ?_
        refine Pv.lit rfl ?_
        refine Pv.callV (as := [.ref 69, .int 1]) (rest := []) rfl rfl rfl (g_goesOn (n := 1) hx13 hxs hx14 hTB (INV.sb (INV_days hTB hT.gb hI k)) (by omega)) ?_
        rintro _ G28 ⟨rfl, x29, hs30⟩
        have rt31 := RT.rx rt x29
        have hx32 := RT.T rt31 hT
        have hx33 := RT.G rt31 hG
        have bD34 := XS.db hs30
        refine (show Pv _ _ 58 [some (.ref 69), some (.int (Int32.ofNat g)), some (.int (Int32.ofNat s)), some (.int (h_c S (2 * g + s))), some (.int w), some (.int (Int32.ofNat k))] [.int (Int32.ofNat (h_d (m_days T (m_days T S k) 1) - h_d (m_days T S k)))] G28 Q from ?_)
        refine Pv.lit rfl ?_
        refine Pv.icmp rfl (fun c35 => ?_) (fun c35 => ?_)
        · skip
          replace c35 : decide (Int32.ofNat (h_d (m_days T (m_days T S k) 1) - h_d (m_days T S k)) = 1) = false := by simpa using c35
          replace c35 := mt (i_eq (a := h_d (m_days T (m_days T S k) 1) - h_d (m_days T S k)) (b := 1) (by omega) (by omega)).mpr (of_decide_eq_false c35)
          refine Pv.aload rfl rfl ?_
          refine Pv.callV (as := [.ref 69]) (rest := []) rfl rfl rfl (g_back hx33) ?_
          rintro _ G36 ⟨rfl, x37, y38, z39⟩
          have rd40 := RT.bk rt31 x37 y38 z39
          refine (show Pv _ _ 101 [some (.ref 69), some (.int (Int32.ofNat g)), some (.int (Int32.ofNat s)), some (.int (h_c S (2 * g + s))), some (.int w), some (.int (Int32.ofNat k))] [] G36 Q from ?_)
          refine Pv.iload rfl rfl ?_
          exact Pv.ret rfl (by rw [hQ]; exact ⟨by unfold a_comes; rw [aGS_t hg hs]; rw [hw, hb, m_fst_z hb (by omega) (fun i hi => by unfold pComes; rw [decide_eq_false (by rw [m_days_400 (by omega) hi]; omega)]; rfl)], rd40⟩)
        · skip
          replace c35 : decide (Int32.ofNat (h_d (m_days T (m_days T S k) 1) - h_d (m_days T S k)) = 1) = true := by simpa using c35
          replace c35 := (i_eq (a := h_d (m_days T (m_days T S k) 1) - h_d (m_days T S k)) (b := 1) (by omega) (by omega)).mp (of_decide_eq_true c35)
          refine Pv.aload rfl rfl ?_
          refine Pv.getR (v := .ref 71) rfl rfl (GW.at (a := 69) (k := 6) (b := 71) hx33 (by decide)) ?_
          refine Pv.lit rfl ?_
          refine Pv.iload rfl rfl ?_
          refine Pv.iload rfl rfl ?_
          refine Pv.callI (as := [.int (Int32.ofNat g), .int (Int32.ofNat s)]) (rest := [.int 160, .ref 71]) (z := Int32.ofNat (2 * g + s)) rfl rfl rfl (g_cell (g := g) (s := s)) ?_
          refine Pv.bin (z := Int32.ofNat (160 + (2 * g + s))) rfl (i_add 160 (2 * g + s)) ?_
          refine Pv.ald (z := h_c (m_days T (m_days T S k) 1) (2 * g + s)) rfl (by rw [i_toNat (by omega)]; exact hs30.c _ (by omega)) ?_
          refine Pv.iload rfl rfl ?_
          refine Pv.icmp rfl (fun c41 => ?_) (fun c41 => ?_)
          · skip
            replace c41 := of_decide_eq_true c41
            refine Pv.iinc (y := Int32.ofNat (k + 1)) (lo' := [some (.ref 69), some (.int (Int32.ofNat g)), some (.int (Int32.ofNat s)), some (.int (h_c S (2 * g + s))), some (.int w), some (.int (Int32.ofNat (k + 1)))]) rfl rfl (i_add k 1) rfl ?_
            refine Pv.goto rfl ?_
            exact ih12 (k + 1, w, G28) (⟨by omega, rt31, (show XS G28 (t_m T) (m_days T S (k + 1)) from hs30), by rw [hw, hb, m_fst_n hb (by rw [← Bool.not_eq_true]; exact fun q => absurd ((comes_iff (k := k) hTB hT.gb hI hgl hsl hb (by omega)).mpr q) (Int32.not_lt.mpr c41))]⟩)
          · skip
            replace c41 := of_decide_eq_false c41
            refine Pv.aload rfl rfl ?_
            refine Pv.getR (v := .ref 71) rfl rfl (GW.at (a := 69) (k := 6) (b := 71) hx33 (by decide)) ?_
            refine Pv.lit rfl ?_
            refine Pv.ald (z := Int32.ofNat (h_d (m_days T (m_days T S k) 1))) rfl (hs30.d) ?_
            refine Pv.lit rfl ?_
            refine Pv.bin (z := Int32.ofNat (h_d (m_days T S k))) rfl ((i_subN (a := h_d (m_days T (m_days T S k) 1)) (b := 1) (by omega)).trans (congrArg Int32.ofNat (by omega))) ?_
            refine Pv.istore (lo' := [some (.ref 69), some (.int (Int32.ofNat g)), some (.int (Int32.ofNat s)), some (.int (h_c S (2 * g + s))), some (.int (Int32.ofNat (h_d (m_days T S k)))), some (.int (Int32.ofNat k))]) rfl rfl ?_
            refine Pv.iinc (y := Int32.ofNat (k + 1)) (lo' := [some (.ref 69), some (.int (Int32.ofNat g)), some (.int (Int32.ofNat s)), some (.int (h_c S (2 * g + s))), some (.int (Int32.ofNat (h_d (m_days T S k)))), some (.int (Int32.ofNat (k + 1)))]) rfl rfl (i_add k 1) rfl ?_
            refine Pv.goto rfl ?_
            exact ih12 (k + 1, Int32.ofNat (h_d (m_days T S k)), G28) (⟨by omega, rt31, (show XS G28 (t_m T) (m_days T S (k + 1)) from hs30), by rw [m_fst_e hb ((comes_iff (k := k) hTB hT.gb hI hgl hsl hb (by omega)).mp (Int32.not_le.mp c41)) (Nat.lt_succ_self k)]; rfl⟩)
  · skip
    replace c1 : decide (b2i ((nd (t_g T) x).isSome && (nd 2 y).isSome) = 0) = true := by simpa using c1
    replace c1 := of_decide_eq_true c1
    replace c1 := b2z.mp c1
    refine Pv.lit rfl ?_
    exact Pv.ret rfl (by rw [hQ]; exact ⟨by unfold a_comes; rw [aGS_f c1], (RDR.rf).fp (Or.inl rfl)⟩)
set_option maxRecDepth 100000 in
set_option maxHeartbeats 4000000 in
theorem q_meet {F : FW} {T : St} {S : Sh} (hT : XT F T) (hS : XS F (t_m T) S) (hG : GW F) (hTB : TBB T) (hI : INV T S) (x y : Int32) : Pm Z_X11_meet [.ref 69, .int x, .int y] F (fun r F' => r = some (.int (a_meet T S x y)) ∧ RDR F F') := by
  refine Pm.of fun N => ?_
  obtain ⟨Q, hQ⟩ : ∃ Q : Option Value → FW → Prop, Q = (fun r F' => r = some (.int (a_meet T S x y)) ∧ RDR F F') := ⟨_, rfl⟩
  rw [← hQ]
  have b3 := hT.mb
  have b4 := hT.nb
  have b5 := hT.gb
  have b6 := m_from_lt S
  have b7 := hS.db
  have hSB := hI.sb
  refine (show Pv (ab_T (L_X11_meet Z_X11_isMan Z_X11_isDead Z_X11_tries Z_X11_areUnlike Z_X11_goesOn Z_X11_back)) N 0 [some (.ref 69), some (.int x), some (.int y), none, none] [] F Q from ?_)
  refine Pv.aload rfl rfl ?_
  refine Pv.lit rfl ?_
  refine Pv.putI rfl rfl ?_
  refine Pv.aload rfl rfl ?_
  refine Pv.iload rfl rfl ?_
  refine Pv.callVI (as := [.ref 69, .int x]) (rest := []) (z := b2i (nd (t_m T) x).isSome) rfl rfl rfl (q_isMan (hT.fx (P := fun q => q = 69) (((FX.rf (P := fun q => q = 69))).fp rfl) (by decide)) (hG.fx (P := fun _ => True) (((FX.rf (P := fun _ => True))).fp trivial)) x) ?_
  refine Pv.if0 rfl (fun c1 => ?_) (fun c1 => ?_)
  · skip
    replace c1 := of_decide_eq_true c1
    replace c1 := b2z.mp c1
    refine Pv.lit rfl ?_
    exact Pv.ret rfl (by rw [hQ]; exact ⟨by unfold a_meet liv2; rw [nd_f c1], (RDR.rf).fp (Or.inl rfl)⟩)
  · skip
    replace c1 := of_decide_eq_false c1
    replace c1 := b2n.mp c1
    obtain ⟨m, hm, hml, rfl⟩ := nd_t c1
    refine Pv.aload rfl rfl ?_
    refine Pv.iload rfl rfl ?_
    refine Pv.callVI (as := [.ref 69, .int y]) (rest := []) (z := b2i (nd (t_m T) y).isSome) rfl rfl rfl (q_isMan (hT.fx (P := fun q => q = 69) (((FX.rf (P := fun q => q = 69))).fp rfl) (by decide)) (hG.fx (P := fun _ => True) (((FX.rf (P := fun _ => True))).fp trivial)) y) ?_
    refine Pv.if0 rfl (fun c2 => ?_) (fun c2 => ?_)
    · skip
      replace c2 := of_decide_eq_true c2
      replace c2 := b2z.mp c2
      refine Pv.lit rfl ?_
      exact Pv.ret rfl (by rw [hQ]; exact ⟨by unfold a_meet liv2; rw [hm]; dsimp only; rw [nd_f c2], (RDR.rf).fp (Or.inl rfl)⟩)
    · skip
      replace c2 := of_decide_eq_false c2
      replace c2 := b2n.mp c2
      obtain ⟨o, ho, hol, rfl⟩ := nd_t c2
      refine Pv.iload rfl rfl ?_
      refine Pv.iload rfl rfl ?_
      refine Pv.icmp rfl (fun c3 => ?_) (fun c3 => ?_)
      · skip
        replace c3 := (i_eq (a := m) (b := o) (by omega) (by omega)).mp (of_decide_eq_true c3)
        refine Pv.lit rfl ?_
        exact Pv.ret rfl (by rw [hQ]; exact ⟨by unfold a_meet liv2; rw [hm]; dsimp only; rw [ho]; dsimp only; rw [if_neg (fun q => q.1 c3)], (RDR.rf).fp (Or.inl rfl)⟩)
      · skip
        replace c3 := mt (i_eq (a := m) (b := o) (by omega) (by omega)).mpr (of_decide_eq_false c3)
        refine Pv.aload rfl rfl ?_
        refine Pv.iload rfl rfl ?_
        refine Pv.callVI (as := [.ref 69, .int (Int32.ofNat m)]) (rest := []) (z := b2i (!m_alive S m)) rfl rfl rfl (g_isDead (o := 0) (m := m) (hS.xd.fx (P := fun q => q = 69) (((FX.rf (P := fun q => q = 69))).fp rfl) (by decide)) (hG.fx (P := fun _ => True) (((FX.rf (P := fun _ => True))).fp trivial)) (by omega)) ?_
        refine Pv.if0 rfl (fun c4 => ?_) (fun c4 => ?_)
        · skip
          replace c4 : decide (b2i (!m_alive S m) = 0) = false := by simpa using c4
          replace c4 := of_decide_eq_false c4
          replace c4 := b2n.mp c4
          refine Pv.lit rfl ?_
          exact Pv.ret rfl (by rw [hQ]; exact ⟨by unfold a_meet liv2; rw [hm]; dsimp only; rw [ho]; dsimp only; rw [if_neg (fun q => by have z := c4; rw [q.2.1] at z; cases z)], (RDR.rf).fp (Or.inl rfl)⟩)
        · skip
          replace c4 : decide (b2i (!m_alive S m) = 0) = true := by simpa using c4
          replace c4 := of_decide_eq_true c4
          replace c4 := b2z.mp c4
          refine Pv.aload rfl rfl ?_
          refine Pv.iload rfl rfl ?_
          refine Pv.callVI (as := [.ref 69, .int (Int32.ofNat o)]) (rest := []) (z := b2i (!m_alive S o)) rfl rfl rfl (g_isDead (o := 0) (m := o) (hS.xd.fx (P := fun q => q = 69) (((FX.rf (P := fun q => q = 69))).fp rfl) (by decide)) (hG.fx (P := fun _ => True) (((FX.rf (P := fun _ => True))).fp trivial)) (by omega)) ?_
          refine Pv.if0 rfl (fun c5 => ?_) (fun c5 => ?_)
          · skip
            replace c5 := of_decide_eq_true c5
            replace c5 := b2z.mp c5
            have a1 : m_alive S m = true := by simpa using c4
            have a2 : m_alive S o = true := by simpa using c5
            refine Pv.aload rfl rfl ?_
            refine Pv.callV (as := [.ref 69]) (rest := []) rfl rfl rfl (g_tries (hG.fx (P := fun _ => True) (((FX.rf (P := fun _ => True))).fp trivial))) ?_
            rintro _ G6 ⟨rfl, x7, y8⟩
            have rt9 := RT.of ((RDR.rf).fp (Or.inl rfl)) x7 y8
            have hs10 := RT.ofS ((RDR.rf).fp (Or.inl rfl)) x7 b3 hS
            have hx11 := RT.T rt9 hT
            have hx12 := RT.G rt9 hG
            refine (show Pv _ _ 48 [some (.ref 69), some (.int (Int32.ofNat m)), some (.int (Int32.ofNat o)), none, none] [] G6 Q from ?_)
            refine Pv.lit rfl ?_
            refine Pv.istore (lo' := [some (.ref 69), some (.int (Int32.ofNat m)), some (.int (Int32.ofNat o)), some (.int 0), none]) rfl rfl ?_
            refine Pv.lit rfl ?_
            refine Pv.istore (lo' := [some (.ref 69), some (.int (Int32.ofNat m)), some (.int (Int32.ofNat o)), some (.int 0), some (.int 1)]) rfl rfl ?_
            refine Pv.lp (ι := Nat × Int32 × FW) (lof := fun ⟨k, b, G⟩ => [some (.ref 69), some (.int (Int32.ofNat m)), some (.int (Int32.ofNat o)), some (.int (Int32.ofNat k)), some (.int b)]) (Ff := fun ⟨k, b, G⟩ => G) (P := fun ⟨k, b, G⟩ => RT F G ∧ (b = 0 → m_fst (pMeet T S m o) 101 = none) ∧ (¬ b = 0 → k ≤ 100 ∧ XS G (t_m T) (m_days T S k) ∧ m_fst (pMeet T S m o) k = none)) ?_ (0, 1, G6) (⟨rt9, fun q => absurd q (by decide), fun _ => ⟨Nat.zero_le _, hs10, rfl⟩⟩)
            rintro N13 hN14 ⟨k, b, G⟩ hi15 ih16
            refine (show Pv _ _ 53 [some (.ref 69), some (.int (Int32.ofNat m)), some (.int (Int32.ofNat o)), some (.int (Int32.ofNat k)), some (.int b)] [] G Q from ?_)
            obtain ⟨rt, h0, h1⟩ := hi15
            have hx17 := RT.T rt hT
            have hx18 := RT.G rt hG
            refine Pv.iloadS rfl rfl ?_
            refine Pv.if0 rfl (fun c19 => ?_) (fun c19 => ?_)
            · skip
              replace c19 := of_decide_eq_true c19
              refine Pv.aload rfl rfl ?_
              refine Pv.callV (as := [.ref 69]) (rest := []) rfl rfl rfl (g_back hx18) ?_
              rintro _ G20 ⟨rfl, x21, y22, z23⟩
              have rd24 := RT.bk rt x21 y22 z23
              refine (show Pv _ _ 99 [some (.ref 69), some (.int (Int32.ofNat m)), some (.int (Int32.ofNat o)), some (.int (Int32.ofNat k)), some (.int b)] [] G20 Q from ?_)
              refine Pv.iload rfl rfl ?_
              refine Pv.if0 rfl (fun c25 => ?_) (fun c25 => ?_)
              · skip
                replace c25 := of_decide_eq_true c25
                refine Pv.lit rfl ?_
                exact Pv.ret rfl (by rw [hQ]; exact ⟨by unfold a_meet liv2; rw [hm]; dsimp only; rw [ho]; dsimp only; rw [if_pos ⟨c3, a1, a2⟩]; dsimp only; rw [h0 c19], rd24⟩)
              · skip
                replace c25 := of_decide_eq_false c25
                exact absurd c19 c25
            · skip
              replace c19 := of_decide_eq_false c19
              obtain ⟨hk, hxs, hb⟩ := h1 c19
              have hx26 := RT.T rt hT
              have hx27 := RT.G rt hG
              have bD28 := XS.db hxs
              have g1 := hd_1 T (m_days T S k)
              refine Pv.aload rfl rfl ?_
              refine Pv.iload rfl rfl ?_
              refine Pv.iload rfl rfl ?_
              refine Pv.callVI (as := [.ref 69, .int (Int32.ofNat m), .int (Int32.ofNat o)]) (rest := []) (z := b2i (m_unl (m_days T S k) m o)) rfl rfl rfl (g_areUnlike (m := m) (o := o) hxs.xd hx27 (by omega) (by omega) (by omega)) ?_
              refine Pv.if0 rfl (fun c29 => ?_) (fun c29 => ?_)
              · skip
                replace c29 := of_decide_eq_true c29
                replace c29 := b2z.mp c29
                refine Pv.aload rfl rfl ?_
                refine Pv.callV (as := [.ref 69]) (rest := []) rfl rfl rfl (g_back hx27) ?_
                rintro _ G30 ⟨rfl, x31, y32, z33⟩
                have rd34 := RT.bk rt x31 y32 z33
                refine (show Pv _ _ 99 [some (.ref 69), some (.int (Int32.ofNat m)), some (.int (Int32.ofNat o)), some (.int (Int32.ofNat k)), some (.int b)] [] G30 Q from ?_)
                refine Pv.iload rfl rfl ?_
                refine Pv.if0 rfl (fun c35 => ?_) (fun c35 => ?_)
                · skip
                  replace c35 := of_decide_eq_true c35
                  exact absurd c35 c19
                · skip
                  replace c35 := of_decide_eq_false c35
                  refine Pv.iload rfl rfl ?_
                  refine Pv.goto rfl ?_
                  exact Pv.ret rfl (by rw [hQ]; exact ⟨by unfold a_meet liv2; rw [hm]; dsimp only; rw [ho]; dsimp only; rw [if_pos ⟨c3, a1, a2⟩]; dsimp only; rw [m_fst_e hb (meet_t a1 a2 b3 c29) (by omega)], rd34⟩)
              · skip
                replace c29 := of_decide_eq_false c29
                replace c29 := b2n.mp c29
                have pf : pMeet T S m o k = false := meet_f a1 a2 b3 c29
                refine Pv.iload rfl rfl ?_
                refine Pv.lit rfl ?_
                refine Pv.icmp rfl (fun c36 => ?_) (fun c36 => ?_)
                · skip
                  replace c36 := (i_le (a := 100) (b := k) (by omega) (by omega)).mp (of_decide_eq_true c36)
                  refine Pv.lit rfl ?_
                  refine Pv.istore (lo' := [some (.ref 69), some (.int (Int32.ofNat m)), some (.int (Int32.ofNat o)), some (.int (Int32.ofNat k)), some (.int 0)]) rfl rfl ?_
                  refine Pv.iinc (y := Int32.ofNat (k + 1)) (lo' := [some (.ref 69), some (.int (Int32.ofNat m)), some (.int (Int32.ofNat o)), some (.int (Int32.ofNat (k + 1))), some (.int 0)]) rfl rfl (i_add k 1) rfl ?_
                  refine Pv.goto rfl ?_
                  exact ih16 (k + 1, 0, G) (⟨rt, fun _ => by rw [show 101 = k + 1 by omega]; exact m_fst_n hb pf, fun q => absurd rfl q⟩)
                · skip
                  replace c36 := mt (i_le (a := 100) (b := k) (by omega) (by omega)).mpr (of_decide_eq_false c36)
                  refine Pv.aload rfl rfl ?_
                  refine Pv.lit rfl ?_
                  refine Pv.callV (as := [.ref 69, .int 1]) (rest := []) rfl rfl rfl (g_goesOn (n := 1) hx26 hxs hx27 hTB (INV.sb (INV_days hTB hT.gb hI k)) (by omega)) ?_
                  rintro _ G37 ⟨rfl, x38, hs39⟩
                  have rt40 := RT.rx rt x38
                  have hx41 := RT.T rt40 hT
                  have hx42 := RT.G rt40 hG
                  have bD43 := XS.db hs39
                  refine (show Pv _ _ 78 [some (.ref 69), some (.int (Int32.ofNat m)), some (.int (Int32.ofNat o)), some (.int (Int32.ofNat k)), some (.int b)] [.int (Int32.ofNat (h_d (m_days T (m_days T S k) 1) - h_d (m_days T S k)))] G37 Q from ?_)
                  refine Pv.lit rfl ?_
                  refine Pv.icmp rfl (fun c44 => ?_) (fun c44 => ?_)
                  · skip
                    replace c44 : decide (Int32.ofNat (h_d (m_days T (m_days T S k) 1) - h_d (m_days T S k)) = 1) = false := by simpa using c44
                    replace c44 := mt (i_eq (a := h_d (m_days T (m_days T S k) 1) - h_d (m_days T S k)) (b := 1) (by omega) (by omega)).mpr (of_decide_eq_false c44)
                    refine Pv.lit rfl ?_
                    refine Pv.istore (lo' := [some (.ref 69), some (.int (Int32.ofNat m)), some (.int (Int32.ofNat o)), some (.int (Int32.ofNat k)), some (.int 0)]) rfl rfl ?_
                    refine Pv.iinc (y := Int32.ofNat (k + 1)) (lo' := [some (.ref 69), some (.int (Int32.ofNat m)), some (.int (Int32.ofNat o)), some (.int (Int32.ofNat (k + 1))), some (.int 0)]) rfl rfl (i_add k 1) rfl ?_
                    refine Pv.goto rfl ?_
                    exact ih16 (k + 1, 0, G37) (⟨rt40, fun _ => m_fst_z hb (by omega) (fun i hi => by unfold pMeet; rw [m_days_e (T := T) (S := S) hi (by omega)]; exact pf), fun q => absurd rfl q⟩)
                  · skip
                    replace c44 : decide (Int32.ofNat (h_d (m_days T (m_days T S k) 1) - h_d (m_days T S k)) = 1) = true := by simpa using c44
                    replace c44 := (i_eq (a := h_d (m_days T (m_days T S k) 1) - h_d (m_days T S k)) (b := 1) (by omega) (by omega)).mp (of_decide_eq_true c44)
                    refine Pv.lit rfl ?_
                    refine Pv.goto rfl ?_
                    refine Pv.istore (lo' := [some (.ref 69), some (.int (Int32.ofNat m)), some (.int (Int32.ofNat o)), some (.int (Int32.ofNat k)), some (.int 1)]) rfl rfl ?_
                    refine Pv.iinc (y := Int32.ofNat (k + 1)) (lo' := [some (.ref 69), some (.int (Int32.ofNat m)), some (.int (Int32.ofNat o)), some (.int (Int32.ofNat (k + 1))), some (.int 1)]) rfl rfl (i_add k 1) rfl ?_
                    refine Pv.goto rfl ?_
                    exact ih16 (k + 1, 1, G37) (⟨rt40, fun q => absurd q (by decide), fun _ => ⟨by omega, (show XS G37 (t_m T) (m_days T S (k + 1)) from hs39), m_fst_n hb pf⟩⟩)
          · skip
            replace c5 := of_decide_eq_false c5
            replace c5 := b2n.mp c5
            refine Pv.lit rfl ?_
            exact Pv.ret rfl (by rw [hQ]; exact ⟨by unfold a_meet liv2; rw [hm]; dsimp only; rw [ho]; dsimp only; rw [if_neg (fun q => by have z := c5; rw [q.2.2] at z; cases z)], (RDR.rf).fp (Or.inl rfl)⟩)
set_option maxRecDepth 100000 in
set_option maxHeartbeats 4000000 in
theorem q_goes {F : FW} {T : St} {S : Sh} (hT : XT F T) (hS : XS F (t_m T) S) (hG : GW F) (hTB : TBB T) (hI : INV T S) (x : Int32) : Pm Z_X11_goes [.ref 69, .int x] F (fun r F' => r = some (.int (a_goes T S x)) ∧ RDR F F') := by
  refine Pm.of fun N => ?_
  obtain ⟨Q, hQ⟩ : ∃ Q : Option Value → FW → Prop, Q = (fun r F' => r = some (.int (a_goes T S x)) ∧ RDR F F') := ⟨_, rfl⟩
  rw [← hQ]
  have b3 := hT.mb
  have b4 := hT.nb
  have b5 := hT.gb
  have b6 := m_from_lt S
  have b7 := hS.db
  have hSB := hI.sb
  refine (show Pv (ab_T (L_X11_goes Z_X11_isGood Z_X11_goingSet Z_X11_goesOf)) N 0 [some (.ref 69), some (.int x), none] [] F Q from ?_)
  refine Pv.aload rfl rfl ?_
  refine Pv.lit rfl ?_
  refine Pv.putI rfl rfl ?_
  refine Pv.aload rfl rfl ?_
  refine Pv.iload rfl rfl ?_
  refine Pv.callVI (as := [.ref 69, .int x]) (rest := []) (z := b2i (nd (t_g T) x).isSome) rfl rfl rfl (q_isGood (hT.fx (P := fun q => q = 69) (((FX.rf (P := fun q => q = 69))).fp rfl) (by decide)) (hG.fx (P := fun _ => True) (((FX.rf (P := fun _ => True))).fp trivial)) x) ?_
  refine Pv.if0 rfl (fun c1 => ?_) (fun c1 => ?_)
  · skip
    replace c1 : decide (b2i (nd (t_g T) x).isSome = 0) = false := by simpa using c1
    replace c1 := of_decide_eq_false c1
    replace c1 := b2n.mp c1
    obtain ⟨g, hg, hgl, rfl⟩ := nd_t c1
    refine Pv.aload rfl rfl ?_
    refine Pv.getR (v := .ref 71) rfl rfl (GW.at (a := 69) (k := 6) (b := 71) hG (by decide)) ?_
    refine Pv.lit rfl ?_
    refine Pv.ald (z := Int32.ofNat (h_d S)) rfl ((fp_ne (Or.inl (by decide))).trans (hS.d)) ?_
    refine Pv.lit rfl ?_
    refine Pv.icmp rfl (fun c2 => ?_) (fun c2 => ?_)
    · skip
      replace c2 : decide (Int32.ofNat (h_d S) = 400) = false := by simpa using c2
      replace c2 := mt (i_eq (a := h_d S) (b := 400) (by omega) (by omega)).mpr (of_decide_eq_false c2)
      refine Pv.aload rfl rfl ?_
      refine Pv.callVI (as := [.ref 69]) (rest := []) (z := m_board T S) rfl rfl rfl (g_goingSet  (hT.fx (P := fun q => q = 69) (((FX.rf (P := fun q => q = 69))).fp rfl) (by decide)) (hS.fx (P := fun q => q = 69) b3 (((FX.rf (P := fun q => q = 69))).fp rfl) (by decide)) (hG.fx (P := fun _ => True) (((FX.rf (P := fun _ => True))).fp trivial)) (by omega)) ?_
      refine Pv.pop rfl ?_
      have e0 : t_l T - (m_pm T S (t_m T)).2 = t_l T - m_pg T S 0 := rfl
      rw [e0]
      refine Pv.lit rfl ?_
      refine Pv.istore (lo' := [some (.ref 69), some (.int (Int32.ofNat g)), some (.int 0)]) rfl rfl ?_
      refine Pv.lp (ι := Nat) (lof := fun k => [some (.ref 69), some (.int (Int32.ofNat g)), some (.int (Int32.ofNat k))]) (Ff := fun k => (fp (fp F 69 0 0) 69 22 (t_l T - m_pg T S k))) (P := fun k => k ≤ g) ?_ 0 (Nat.zero_le _)
      rintro N3 hN4 k hi5 ih6
      refine (show Pv _ _ 37 [some (.ref 69), some (.int (Int32.ofNat g)), some (.int (Int32.ofNat k))] [] (fp (fp F 69 0 0) 69 22 (t_l T - m_pg T S k)) Q from ?_)
      have hk := hi5
      refine Pv.iloadS rfl rfl ?_
      refine Pv.iload rfl rfl ?_
      refine Pv.icmp rfl (fun c7 => ?_) (fun c7 => ?_)
      · skip
        replace c7 := (i_le (a := g) (b := k) (by omega) (by omega)).mp (of_decide_eq_true c7)
        refine Pv.aload rfl rfl ?_
        refine Pv.iload rfl rfl ?_
        refine Pv.callVI (as := [.ref 69, .int (Int32.ofNat g)]) (rest := []) (z := m_less (t_l T - m_pg T S k) (m_less (h_s S (2 * g + m_from S)) (m_lackr (t_a T (1 * 12 + (2 * g + (1 - m_from S)))) (h_s S (2 * g + (1 - m_from S)))))) rfl rfl rfl (g_goesOf (g := g) (d := h_d S) (rm := t_l T - m_pg T S k) (x := h_s S (2 * g + m_from S)) (y := h_s S (2 * g + (1 - m_from S))) (w := t_a T (1 * 12 + (2 * g + (1 - m_from S)))) (hG.fx (P := fun _ => True) ((((FX.rf (P := fun _ => True))).fp trivial).fp trivial)) (by omega) (by omega) (fp_eq) ((fp_ne (Or.inl (by decide))).trans ((fp_ne (Or.inl (by decide))).trans (hS.d))) ((fp_ne (Or.inl (by decide))).trans ((fp_ne (Or.inl (by decide))).trans (hS.s _ (by omega)))) ((fp_ne (Or.inl (by decide))).trans ((fp_ne (Or.inl (by decide))).trans (hS.s _ (by omega)))) ((fp_ne (Or.inl (by decide))).trans ((fp_ne (Or.inl (by decide))).trans (hT.wa _ (by omega))))) ?_
        have ez : m_less (t_l T - m_pg T S k) (m_less (h_s S (2 * g + m_from S)) (m_lackr (t_a T (1 * 12 + (2 * g + (1 - m_from S)))) (h_s S (2 * g + (1 - m_from S))))) = m_fr T S g := fr_eq0 hTB hSB (by omega) (by omega) (by omega)
        rw [ez]
        exact Pv.ret rfl (by rw [hQ]; exact ⟨by unfold a_goes; rw [hg], ((RDR.rf).fp (Or.inl rfl)).fp (Or.inr (Or.inl rfl))⟩)
      · skip
        replace c7 := mt (i_le (a := g) (b := k) (by omega) (by omega)).mpr (of_decide_eq_false c7)
        refine Pv.aload rfl rfl ?_
        refine Pv.dup rfl ?_
        refine Pv.getI (z := t_l T - m_pg T S k) rfl rfl (fp_eq) ?_
        refine Pv.aload rfl rfl ?_
        refine Pv.iload rfl rfl ?_
        refine Pv.callVI (as := [.ref 69, .int (Int32.ofNat k)]) (rest := [.int (t_l T - m_pg T S k), .ref 69]) (z := m_less (t_l T - m_pg T S k) (m_less (h_s S (2 * k + m_from S)) (m_lackr (t_a T (1 * 12 + (2 * k + (1 - m_from S)))) (h_s S (2 * k + (1 - m_from S)))))) rfl rfl rfl (g_goesOf (g := k) (d := h_d S) (rm := t_l T - m_pg T S k) (x := h_s S (2 * k + m_from S)) (y := h_s S (2 * k + (1 - m_from S))) (w := t_a T (1 * 12 + (2 * k + (1 - m_from S)))) (hG.fx (P := fun _ => True) ((((FX.rf (P := fun _ => True))).fp trivial).fp trivial)) (by omega) (by omega) (fp_eq) ((fp_ne (Or.inl (by decide))).trans ((fp_ne (Or.inl (by decide))).trans (hS.d))) ((fp_ne (Or.inl (by decide))).trans ((fp_ne (Or.inl (by decide))).trans (hS.s _ (by omega)))) ((fp_ne (Or.inl (by decide))).trans ((fp_ne (Or.inl (by decide))).trans (hS.s _ (by omega)))) ((fp_ne (Or.inl (by decide))).trans ((fp_ne (Or.inl (by decide))).trans (hT.wa _ (by omega))))) ?_
        have ez : m_less (t_l T - m_pg T S k) (m_less (h_s S (2 * k + m_from S)) (m_lackr (t_a T (1 * 12 + (2 * k + (1 - m_from S)))) (h_s S (2 * k + (1 - m_from S))))) = m_fr T S k := fr_eq0 hTB hSB (by omega) (by omega) (by omega)
        rw [ez]
        refine Pv.bin (z := (t_l T - m_pg T S k) - (m_fr T S k)) rfl (rfl) ?_
        refine Pv.putI rfl rfl ?_
        refine Pv.iinc (y := Int32.ofNat (k + 1)) (lo' := [some (.ref 69), some (.int (Int32.ofNat g)), some (.int (Int32.ofNat (k + 1)))]) rfl rfl (i_add k 1) rfl ?_
        refine Pv.goto rfl ?_
        refine Pv.fE (G := fp (fp F 69 0 0) 69 22 (t_l T - m_pg T S (k + 1))) (fp_fp.trans (congrArg (fp (fp F 69 0 0) 69 22) (i_ss _ _ _))) ?_
        exact ih6 (k + 1) (by omega)
    · skip
      replace c2 : decide (Int32.ofNat (h_d S) = 400) = true := by simpa using c2
      replace c2 := (i_eq (a := h_d S) (b := 400) (by omega) (by omega)).mp (of_decide_eq_true c2)
      refine Pv.lit rfl ?_
      exact Pv.ret rfl (by rw [hQ]; exact ⟨by unfold a_goes; rw [hg]; dsimp only; rw [fr_400 hTB hSB (by omega) (by omega)], (RDR.rf).fp (Or.inl rfl)⟩)
  · skip
    replace c1 : decide (b2i (nd (t_g T) x).isSome = 0) = true := by simpa using c1
    replace c1 := of_decide_eq_true c1
    replace c1 := b2z.mp c1
    refine Pv.lit rfl ?_
    exact Pv.ret rfl (by rw [hQ]; exact ⟨by unfold a_goes; rw [nd_f c1], (RDR.rf).fp (Or.inl rfl)⟩)
set_option maxRecDepth 100000 in
set_option maxHeartbeats 4000000 in
theorem q_prices {F : FW} {T : St} {S : Sh} (hT : XT F T) (hS : XS F (t_m T) S) (hG : GW F) (hTB : TBB T) (hI : INV T S) : Pm Z_X11_prices [.ref 69] F (fun r F' => r = some (.int (Int32.ofNat (m_rounds T S))) ∧ RDP F F' ∧ F'.1 69 28 = Int32.ofNat (t_g T) ∧ AR F' 80 12 (m_row T S (m_rounds T S))) := by
  refine Pm.of fun N => ?_
  obtain ⟨Q, hQ⟩ : ∃ Q : Option Value → FW → Prop, Q = (fun r F' => r = some (.int (Int32.ofNat (m_rounds T S))) ∧ RDP F F' ∧ F'.1 69 28 = Int32.ofNat (t_g T) ∧ AR F' 80 12 (m_row T S (m_rounds T S))) := ⟨_, rfl⟩
  rw [← hQ]
  have b3 := hT.mb
  have b4 := hT.nb
  have b5 := hT.gb
  have b6 := m_from_lt S
  have b7 := hS.db
  have hSB := hI.sb
  refine (show Pv (ab_T (L_X11_prices Z_X11_tries Z_X11_goesOn Z_X11_back)) N 0 [some (.ref 69), none, none, none, none] [] F Q from ?_)
  refine Pv.aload rfl rfl ?_
  refine Pv.lit rfl ?_
  refine Pv.putI rfl rfl ?_
  refine Pv.aload rfl rfl ?_
  refine Pv.aload rfl rfl ?_
  refine Pv.getR (v := .ref 71) rfl rfl (GW.at (a := 69) (k := 6) (b := 71) hG (by decide)) ?_
  refine Pv.lit rfl ?_
  refine Pv.ald (z := Int32.ofNat (t_g T)) rfl ((fp_ne (Or.inl (by decide))).trans (hT.g)) ?_
  refine Pv.putI rfl rfl ?_
  refine Pv.lit rfl ?_
  refine Pv.istore (lo' := [some (.ref 69), some (.int 0), none, none, none]) rfl rfl ?_
  refine Pv.lp (ι := Nat × FW) (lof := fun ⟨k, G⟩ => [some (.ref 69), some (.int (Int32.ofNat k)), none, none, none]) (Ff := fun ⟨k, G⟩ => G) (P := fun ⟨k, G⟩ => (k ≤ 12) ∧ (RDP F G) ∧ (G.1 69 28 = Int32.ofNat (t_g T)) ∧ (AR G 80 k (fun _ => 5))) ?_ (0, (fp (fp F 69 0 0) 69 28 (Int32.ofNat (t_g T)))) (⟨Nat.zero_le _, (RDP.fp (RDP.fp RDP.rf (Or.inl rfl)) (Or.inr (Or.inr rfl))), fp_eq, AR.z⟩)
  rintro N1 hN2 ⟨k, G⟩ hi3 ih4
  refine (show Pv _ _ 17 [some (.ref 69), some (.int (Int32.ofNat k)), none, none, none] [] G Q from ?_)
  obtain ⟨hk, rt, h28, h80⟩ := hi3
  have hx5 := RDP.T rt hT
  have hx6 := RDP.G rt hG
  have bD7 := XS.db (RDP.S rt b3 hS)
  refine Pv.iloadS rfl rfl ?_
  refine Pv.lit rfl ?_
  refine Pv.icmp rfl (fun c8 => ?_) (fun c8 => ?_)
  · skip
    replace c8 := (i_le (a := 12) (b := k) (by omega) (by omega)).mp (of_decide_eq_true c8)
    refine Pv.aload rfl rfl ?_
    refine Pv.callV (as := [.ref 69]) (rest := []) rfl rfl rfl (g_tries hx6) ?_
    rintro _ G9 ⟨rfl, x10, y11⟩
    have rt12 := RTP.of rt x10 y11
    have hs13 := RTP.ofS rt x10 b3 hS
    have hv14 : G9.1 69 28 = Int32.ofNat (t_g T) := (x10.1 69 28 (by decide)).trans h28
    have hA15 : AR G9 80 12 (fun _ => 5) := AR.fx (h80.le (by omega)) x10 (by decide)
    have hx16 := RTP.T rt12 hT
    have hx17 := RTP.G rt12 hG
    have bD18 := XS.db hs13
    refine (show Pv _ _ 40 [some (.ref 69), some (.int (Int32.ofNat k)), none, none, none] [] G9 Q from ?_)
    refine Pv.lit rfl ?_
    refine Pv.istore (lo' := [some (.ref 69), some (.int 0), none, none, none]) rfl rfl ?_
    refine Pv.lit rfl ?_
    refine Pv.istore (lo' := [some (.ref 69), some (.int 0), some (.int 1), none, none]) rfl rfl ?_
    refine Pv.lp (ι := Nat × Int32 × FW × (Option Value) × (Option Value)) (lof := fun ⟨r, b, G2, o19, o20⟩ => [some (.ref 69), some (.int (Int32.ofNat r)), some (.int b), o19, o20]) (Ff := fun ⟨r, b, G2, o19, o20⟩ => G2) (P := fun ⟨r, b, G2, o19, o20⟩ => (r ≤ 60) ∧ (RTP F G2) ∧ (XS G2 (t_m T) (m_days T S r)) ∧ (G2.1 69 28 = Int32.ofNat (t_g T)) ∧ (AR G2 80 12 (m_row T S r)) ∧ (¬ b = 0 → m_fst (pRest T S) r = none) ∧ (b = 0 → m_rounds T S = r)) ?_ (0, 1, G9, none, none) (⟨Nat.zero_le _, rt12, hs13, hv14, hA15, fun _ => rfl, fun q => absurd q (by decide)⟩)
    rintro N21 hN22 ⟨r, b, G2, o19, o20⟩ hi23 ih24
    refine (show Pv _ _ 44 [some (.ref 69), some (.int (Int32.ofNat r)), some (.int b), o19, o20] [] G2 Q from ?_)
    obtain ⟨hk, rt, hxs, h28, h80, hn, hz⟩ := hi23
    have hx25 := RTP.T rt hT
    have hx26 := RTP.G rt hG
    have bD27 := XS.db hxs
    refine Pv.iloadS rfl rfl ?_
    refine Pv.if0 rfl (fun c28 => ?_) (fun c28 => ?_)
    · skip
      replace c28 := of_decide_eq_true c28
      refine Pv.aload rfl rfl ?_
      refine Pv.callV (as := [.ref 69]) (rest := []) rfl rfl rfl (g_back hx26) ?_
      rintro _ G29 ⟨rfl, x30, y31, z32⟩
      have rd33 := RTP.bk rt x30 y31 z32
      have hv34 : G29.1 69 28 = Int32.ofNat (t_g T) := (x30.1 69 28 (by decide)).trans h28
      have hA35 := AR.fx h80 x30 (by decide)
      refine (show Pv _ _ 191 [some (.ref 69), some (.int (Int32.ofNat r)), some (.int b), o19, o20] [] G29 Q from ?_)
      refine Pv.iload rfl rfl ?_
      exact Pv.ret rfl (by rw [hQ]; exact ⟨by rw [hz c28], rd33, hv34, (hA35).eq (congrArg (m_row T S) (hz c28).symm)⟩)
    · skip
      replace c28 := of_decide_eq_false c28
      refine Pv.iload rfl rfl ?_
      refine Pv.lit rfl ?_
      refine Pv.icmp rfl (fun c36 => ?_) (fun c36 => ?_)
      · skip
        replace c36 := (i_le (a := 60) (b := r) (by omega) (by omega)).mp (of_decide_eq_true c36)
        refine Pv.aload rfl rfl ?_
        refine Pv.callV (as := [.ref 69]) (rest := []) rfl rfl rfl (g_back hx26) ?_
        rintro _ G37 ⟨rfl, x38, y39, z40⟩
        have rd41 := RTP.bk rt x38 y39 z40
        have hv42 : G37.1 69 28 = Int32.ofNat (t_g T) := (x38.1 69 28 (by decide)).trans h28
        have hA43 := AR.fx h80 x38 (by decide)
        refine (show Pv _ _ 191 [some (.ref 69), some (.int (Int32.ofNat r)), some (.int b), o19, o20] [] G37 Q from ?_)
        refine Pv.iload rfl rfl ?_
        exact Pv.ret rfl (by rw [hQ]; exact ⟨by rw [rounds_60 (m_fst_59 (show 60 = r by omega) (hn c28)), show 60 = r by omega], rd41, hv42, (hA43).eq (congrArg (m_row T S) (by rw [rounds_60 (m_fst_59 (show 60 = r by omega) (hn c28))]; omega))⟩)
      · skip
        replace c36 := mt (i_le (a := 60) (b := r) (by omega) (by omega)).mpr (of_decide_eq_false c36)
        have hf := hn c28
        refine Pv.iinc (y := Int32.ofNat (r + 1)) (lo' := [some (.ref 69), some (.int (Int32.ofNat (r + 1))), some (.int b), o19, o20]) rfl rfl (i_add r 1) rfl ?_
        refine Pv.lit rfl ?_
        refine Pv.istore (lo' := [some (.ref 69), some (.int (Int32.ofNat (r + 1))), some (.int 0), o19, o20]) rfl rfl ?_
        refine Pv.lit rfl ?_
        refine Pv.istore (lo' := [some (.ref 69), some (.int (Int32.ofNat (r + 1))), some (.int 0), some (.int 0), o20]) rfl rfl ?_
        refine Pv.lp (ι := Nat × Int32 × FW × (Option Value)) (lof := fun ⟨k, b, G3, o44⟩ => [some (.ref 69), some (.int (Int32.ofNat (r + 1))), some (.int b), some (.int (Int32.ofNat k)), o44]) (Ff := fun ⟨k, b, G3, o44⟩ => G3) (P := fun ⟨k, b, G3, o44⟩ => (k ≤ 2 * t_g T) ∧ (RTP F G3) ∧ (XS G3 (t_m T) (m_days T S r)) ∧ (G3.1 69 28 = Int32.ofNat (t_g T)) ∧ (AR G3 80 12 (m_pI T (m_days T S r) (m_row T S r) k)) ∧ (b = b2i (m_pM T (m_days T S r) (m_row T S r) k))) ?_ (0, 0, G2, o20) (⟨Nat.zero_le _, rt, hxs, h28, h80, rfl⟩)
        rintro N45 hN46 ⟨k, b, G3, o44⟩ hi47 ih48
        refine (show Pv _ _ 61 [some (.ref 69), some (.int (Int32.ofNat (r + 1))), some (.int b), some (.int (Int32.ofNat k)), o44] [] G3 Q from ?_)
        obtain ⟨hk, rt, hxs, h28, h80, hm⟩ := hi47
        have hx49 := RTP.T rt hT
        have hx50 := RTP.G rt hG
        have bD51 := XS.db hxs
        refine Pv.iloadS rfl rfl ?_
        refine Pv.lit rfl ?_
        refine Pv.aload rfl rfl ?_
        refine Pv.getR (v := .ref 71) rfl rfl (GW.at (a := 69) (k := 6) (b := 71) hx50 (by decide)) ?_
        refine Pv.lit rfl ?_
        refine Pv.ald (z := Int32.ofNat (t_g T)) rfl (hx49.g) ?_
        refine Pv.bin (z := Int32.ofNat (2 * (t_g T))) rfl (i_mul 2 (t_g T)) ?_
        refine Pv.icmp rfl (fun c52 => ?_) (fun c52 => ?_)
        · skip
          replace c52 := (i_le (a := 2 * (t_g T)) (b := k) (by omega) (by omega)).mp (of_decide_eq_true c52)
          refine Pv.aload rfl rfl ?_
          refine Pv.lit rfl ?_
          refine Pv.callV (as := [.ref 69, .int 1]) (rest := []) rfl rfl rfl (g_goesOn (n := 1) hx49 hxs hx50 hTB (INV.sb (INV_days hTB hT.gb hI r)) (by omega)) ?_
          rintro _ G53 ⟨rfl, x54, hs55⟩
          have rt56 := RTP.rx rt x54
          have hv57 : G53.1 69 28 = Int32.ofNat (t_g T) := (x54.2.1 28 (by decide)).trans h28
          have hA58 := AR.fx h80 x54.1 (by decide)
          have hx59 := RTP.T rt56 hT
          have hx60 := RTP.G rt56 hG
          have bD61 := XS.db hs55
          refine (show Pv _ _ 183 [some (.ref 69), some (.int (Int32.ofNat (r + 1))), some (.int b), some (.int (Int32.ofNat k)), o44] [.int (Int32.ofNat (h_d (m_days T (m_days T S r) 1) - h_d (m_days T S r)))] G53 Q from ?_)
          refine Pv.pop rfl ?_
          refine Pv.goto rfl ?_
          exact (ih24 (r + 1, b, G53, (some (.int (Int32.ofNat k))), o44) (⟨by omega, rt56, (show XS G53 (t_m T) (m_days T S (r + 1)) from hs55), hv57, (show AR G53 80 12 (m_row T S (r + 1)) from hA58.eq (congrArg (m_pI T (m_days T S r) (m_row T S r)) (by omega))), fun q => m_fst_n hf (by unfold pRest; rw [show 2 * t_g T = k by omega, ← Bool.not_eq_true, Bool.not_eq_true']; exact fun z => q (by rw [hm, z]; rfl)), fun q => rounds_z hf (by unfold pRest; rw [show 2 * t_g T = k by omega, b2z.mp (hm.symm.trans q)]; rfl) (by omega)⟩)).mono (by omega)
        · skip
          replace c52 := mt (i_le (a := 2 * (t_g T)) (b := k) (by omega) (by omega)).mpr (of_decide_eq_false c52)
          refine Pv.aload rfl rfl ?_
          refine Pv.getR (v := .ref 80) rfl rfl (GW.at (a := 69) (k := 27) (b := 80) hx50 (by decide)) ?_
          refine Pv.iload rfl rfl ?_
          refine Pv.ald (z := (m_pI T (m_days T S r) (m_row T S r) k) k) rfl (by rw [i_toNat (by omega)]; exact h80 _ (by omega)) ?_
          refine Pv.istore (lo' := [some (.ref 69), some (.int (Int32.ofNat (r + 1))), some (.int b), some (.int (Int32.ofNat k)), some (.int ((m_pI T (m_days T S r) (m_row T S r) k) k))]) rfl rfl ?_
          refine Pv.aload rfl rfl ?_
          refine Pv.getR (v := .ref 71) rfl rfl (GW.at (a := 69) (k := 6) (b := 71) hx50 (by decide)) ?_
          refine Pv.lit rfl ?_
          refine Pv.iload rfl rfl ?_
          refine Pv.bin (z := Int32.ofNat (124 + k)) rfl (i_add 124 k) ?_
          refine Pv.ald (z := h_s (m_days T S r) k) rfl (by rw [i_toNat (by omega)]; exact hxs.s _ (by omega)) ?_
          refine Pv.aload rfl rfl ?_
          refine Pv.getR (v := .ref 71) rfl rfl (GW.at (a := 69) (k := 6) (b := 71) hx50 (by decide)) ?_
          refine Pv.lit rfl ?_
          refine Pv.iload rfl rfl ?_
          refine Pv.bin (z := Int32.ofNat (16 + k)) rfl (i_add 16 k) ?_
          refine Pv.ald (z := t_a T (1 * 12 + k)) rfl (by rw [i_toNat (by omega)]; exact hx49.wa _ (by omega)) ?_
          refine Pv.icmp rfl (fun c62 => ?_) (fun c62 => ?_)
          · skip
            replace c62 := of_decide_eq_true c62
            refine Pv.aload rfl rfl ?_
            refine Pv.getR (v := .ref 71) rfl rfl (GW.at (a := 69) (k := 6) (b := 71) hx50 (by decide)) ?_
            refine Pv.lit rfl ?_
            refine Pv.iload rfl rfl ?_
            refine Pv.bin (z := Int32.ofNat (124 + k)) rfl (i_add 124 k) ?_
            refine Pv.ald (z := h_s (m_days T S r) k) rfl (by rw [i_toNat (by omega)]; exact hxs.s _ (by omega)) ?_
            refine Pv.aload rfl rfl ?_
            refine Pv.getR (v := .ref 71) rfl rfl (GW.at (a := 69) (k := 6) (b := 71) hx50 (by decide)) ?_
            refine Pv.lit rfl ?_
            refine Pv.iload rfl rfl ?_
            refine Pv.bin (z := Int32.ofNat (16 + k)) rfl (i_add 16 k) ?_
            refine Pv.ald (z := t_a T (1 * 12 + k)) rfl (by rw [i_toNat (by omega)]; exact hx49.wa _ (by omega)) ?_
            refine Pv.icmp rfl (fun c63 => ?_) (fun c63 => ?_)
            · skip
              replace c63 := of_decide_eq_true c63
              refine Pv.iload rfl rfl ?_
              refine Pv.if0 rfl (fun c64 => ?_) (fun c64 => ?_)
              · skip
                replace c64 : decide (b = 0) = false := by simpa using c64
                replace c64 := of_decide_eq_false c64
                refine Pv.lit rfl ?_
                refine Pv.goto rfl ?_
                refine Pv.istore (lo' := [some (.ref 69), some (.int (Int32.ofNat (r + 1))), some (.int 1), some (.int (Int32.ofNat k)), some (.int ((m_pI T (m_days T S r) (m_row T S r) k) k))]) rfl rfl ?_
                refine Pv.iinc (y := Int32.ofNat (k + 1)) (lo' := [some (.ref 69), some (.int (Int32.ofNat (r + 1))), some (.int 1), some (.int (Int32.ofNat (k + 1))), some (.int ((m_pI T (m_days T S r) (m_row T S r) k) k))]) rfl rfl (i_add k 1) rfl ?_
                refine Pv.goto rfl ?_
                exact ih48 (k + 1, 1, G3, (some (.int ((m_pI T (m_days T S r) (m_row T S r) k) k)))) (⟨by omega, rt, hxs, h28, (h80).eq ((if_neg (Int32.not_lt.mpr c62)).trans (if_neg (fun q => Int32.not_le.mpr q.1 c63))).symm, (congrArg b2i (show m_pM T (m_days T S r) (m_row T S r) (k + 1) = true from by show m_pM T (m_days T S r) (m_row T S r) (k + 1) = _; show (m_pM T (m_days T S r) (m_row T S r) k || (decide (h_s (m_days T S r) k < t_a T (1 * 12 + k)) || (decide (t_a T (1 * 12 + k) < h_s (m_days T S r) k) && decide (0 < m_pI T (m_days T S r) (m_row T S r) k k)))) = _; rw [decide_eq_false (Int32.not_lt.mpr c62), decide_eq_false (Int32.not_lt.mpr c63), Bool.false_and, Bool.or_false, Bool.or_false]; exact b2n.mp (fun z => c64 (hm.trans z)))).symm⟩)
              · skip
                replace c64 : decide (b = 0) = true := by simpa using c64
                replace c64 := of_decide_eq_true c64
                refine Pv.aload rfl rfl ?_
                refine Pv.getR (v := .ref 80) rfl rfl (GW.at (a := 69) (k := 27) (b := 80) hx50 (by decide)) ?_
                refine Pv.iload rfl rfl ?_
                refine Pv.ald (z := (m_pI T (m_days T S r) (m_row T S r) k) k) rfl (by rw [i_toNat (by omega)]; exact h80 _ (by omega)) ?_
                refine Pv.iload rfl rfl ?_
                refine Pv.icmp rfl (fun c65 => ?_) (fun c65 => ?_)
                · skip
                  replace c65 := of_decide_eq_true c65
                  refine Pv.lit rfl ?_
                  refine Pv.istore (lo' := [some (.ref 69), some (.int (Int32.ofNat (r + 1))), some (.int 0), some (.int (Int32.ofNat k)), some (.int ((m_pI T (m_days T S r) (m_row T S r) k) k))]) rfl rfl ?_
                  refine Pv.iinc (y := Int32.ofNat (k + 1)) (lo' := [some (.ref 69), some (.int (Int32.ofNat (r + 1))), some (.int 0), some (.int (Int32.ofNat (k + 1))), some (.int ((m_pI T (m_days T S r) (m_row T S r) k) k))]) rfl rfl (i_add k 1) rfl ?_
                  refine Pv.goto rfl ?_
                  exact ih48 (k + 1, 0, G3, (some (.int ((m_pI T (m_days T S r) (m_row T S r) k) k)))) (⟨by omega, rt, hxs, h28, (h80).eq ((if_neg (Int32.not_lt.mpr c62)).trans (if_neg (fun q => Int32.not_le.mpr q.1 c63))).symm, (congrArg b2i (show m_pM T (m_days T S r) (m_row T S r) (k + 1) = false from by show m_pM T (m_days T S r) (m_row T S r) (k + 1) = _; show (m_pM T (m_days T S r) (m_row T S r) k || (decide (h_s (m_days T S r) k < t_a T (1 * 12 + k)) || (decide (t_a T (1 * 12 + k) < h_s (m_days T S r) k) && decide (0 < m_pI T (m_days T S r) (m_row T S r) k k)))) = _; rw [decide_eq_false (Int32.not_lt.mpr c62), decide_eq_false (Int32.not_lt.mpr c63), Bool.false_and, Bool.or_false, Bool.or_false]; exact b2z.mp (hm.symm.trans c64))).symm⟩)
                · skip
                  replace c65 := of_decide_eq_false c65
                  exact absurd rfl c65
            · skip
              replace c63 := of_decide_eq_false c63
              refine Pv.iload rfl rfl ?_
              refine Pv.if0 rfl (fun c66 => ?_) (fun c66 => ?_)
              · skip
                replace c66 := of_decide_eq_true c66
                refine Pv.iload rfl rfl ?_
                refine Pv.if0 rfl (fun c67 => ?_) (fun c67 => ?_)
                · skip
                  replace c67 : decide (b = 0) = false := by simpa using c67
                  replace c67 := of_decide_eq_false c67
                  refine Pv.lit rfl ?_
                  refine Pv.goto rfl ?_
                  refine Pv.istore (lo' := [some (.ref 69), some (.int (Int32.ofNat (r + 1))), some (.int 1), some (.int (Int32.ofNat k)), some (.int ((m_pI T (m_days T S r) (m_row T S r) k) k))]) rfl rfl ?_
                  refine Pv.iinc (y := Int32.ofNat (k + 1)) (lo' := [some (.ref 69), some (.int (Int32.ofNat (r + 1))), some (.int 1), some (.int (Int32.ofNat (k + 1))), some (.int ((m_pI T (m_days T S r) (m_row T S r) k) k))]) rfl rfl (i_add k 1) rfl ?_
                  refine Pv.goto rfl ?_
                  exact ih48 (k + 1, 1, G3, (some (.int ((m_pI T (m_days T S r) (m_row T S r) k) k)))) (⟨by omega, rt, hxs, h28, (h80).eq ((if_neg (Int32.not_lt.mpr c62)).trans (if_neg (fun q => Int32.not_le.mpr q.2 c66))).symm, (congrArg b2i (show m_pM T (m_days T S r) (m_row T S r) (k + 1) = true from by show m_pM T (m_days T S r) (m_row T S r) (k + 1) = _; show (m_pM T (m_days T S r) (m_row T S r) k || (decide (h_s (m_days T S r) k < t_a T (1 * 12 + k)) || (decide (t_a T (1 * 12 + k) < h_s (m_days T S r) k) && decide (0 < m_pI T (m_days T S r) (m_row T S r) k k)))) = _; rw [decide_eq_false (Int32.not_lt.mpr c62), decide_eq_false (Int32.not_lt.mpr c66), Bool.and_false, Bool.or_false, Bool.or_false]; exact b2n.mp (fun z => c67 (hm.trans z)))).symm⟩)
                · skip
                  replace c67 : decide (b = 0) = true := by simpa using c67
                  replace c67 := of_decide_eq_true c67
                  refine Pv.aload rfl rfl ?_
                  refine Pv.getR (v := .ref 80) rfl rfl (GW.at (a := 69) (k := 27) (b := 80) hx50 (by decide)) ?_
                  refine Pv.iload rfl rfl ?_
                  refine Pv.ald (z := (m_pI T (m_days T S r) (m_row T S r) k) k) rfl (by rw [i_toNat (by omega)]; exact h80 _ (by omega)) ?_
                  refine Pv.iload rfl rfl ?_
                  refine Pv.icmp rfl (fun c68 => ?_) (fun c68 => ?_)
                  · skip
                    replace c68 := of_decide_eq_true c68
                    refine Pv.lit rfl ?_
                    refine Pv.istore (lo' := [some (.ref 69), some (.int (Int32.ofNat (r + 1))), some (.int 0), some (.int (Int32.ofNat k)), some (.int ((m_pI T (m_days T S r) (m_row T S r) k) k))]) rfl rfl ?_
                    refine Pv.iinc (y := Int32.ofNat (k + 1)) (lo' := [some (.ref 69), some (.int (Int32.ofNat (r + 1))), some (.int 0), some (.int (Int32.ofNat (k + 1))), some (.int ((m_pI T (m_days T S r) (m_row T S r) k) k))]) rfl rfl (i_add k 1) rfl ?_
                    refine Pv.goto rfl ?_
                    exact ih48 (k + 1, 0, G3, (some (.int ((m_pI T (m_days T S r) (m_row T S r) k) k)))) (⟨by omega, rt, hxs, h28, (h80).eq ((if_neg (Int32.not_lt.mpr c62)).trans (if_neg (fun q => Int32.not_le.mpr q.2 c66))).symm, (congrArg b2i (show m_pM T (m_days T S r) (m_row T S r) (k + 1) = false from by show m_pM T (m_days T S r) (m_row T S r) (k + 1) = _; show (m_pM T (m_days T S r) (m_row T S r) k || (decide (h_s (m_days T S r) k < t_a T (1 * 12 + k)) || (decide (t_a T (1 * 12 + k) < h_s (m_days T S r) k) && decide (0 < m_pI T (m_days T S r) (m_row T S r) k k)))) = _; rw [decide_eq_false (Int32.not_lt.mpr c62), decide_eq_false (Int32.not_lt.mpr c66), Bool.and_false, Bool.or_false, Bool.or_false]; exact b2z.mp (hm.symm.trans c67))).symm⟩)
                  · skip
                    replace c68 := of_decide_eq_false c68
                    exact absurd rfl c68
              · skip
                replace c66 := of_decide_eq_false c66
                refine Pv.aload rfl rfl ?_
                refine Pv.getR (v := .ref 80) rfl rfl (GW.at (a := 69) (k := 27) (b := 80) hx50 (by decide)) ?_
                refine Pv.iload rfl rfl ?_
                refine Pv.dup2 rfl ?_
                refine Pv.ald (z := (m_pI T (m_days T S r) (m_row T S r) k) k) rfl (by rw [i_toNat (by omega)]; exact h80 _ (by omega)) ?_
                refine Pv.lit rfl ?_
                refine Pv.bin (z := ((m_pI T (m_days T S r) (m_row T S r) k) k) - 1) rfl (rfl) ?_
                refine Pv.astk (k := k) (z := ((m_pI T (m_days T S r) (m_row T S r) k) k) - 1) rfl (i_toNat (by omega)) (rfl) ?_
                refine Pv.iload rfl rfl ?_
                refine Pv.if0 rfl (fun c69 => ?_) (fun c69 => ?_)
                · skip
                  replace c69 : decide (b = 0) = false := by simpa using c69
                  replace c69 := of_decide_eq_false c69
                  refine Pv.lit rfl ?_
                  refine Pv.goto rfl ?_
                  refine Pv.istore (lo' := [some (.ref 69), some (.int (Int32.ofNat (r + 1))), some (.int 1), some (.int (Int32.ofNat k)), some (.int ((m_pI T (m_days T S r) (m_row T S r) k) k))]) rfl rfl ?_
                  refine Pv.iinc (y := Int32.ofNat (k + 1)) (lo' := [some (.ref 69), some (.int (Int32.ofNat (r + 1))), some (.int 1), some (.int (Int32.ofNat (k + 1))), some (.int ((m_pI T (m_days T S r) (m_row T S r) k) k))]) rfl rfl (i_add k 1) rfl ?_
                  refine Pv.goto rfl ?_
                  exact ih48 (k + 1, 1, (fp G3 80 k (((m_pI T (m_days T S r) (m_row T S r) k) k) - 1)), (some (.int ((m_pI T (m_days T S r) (m_row T S r) k) k)))) (⟨by omega, (RTP.pr rt), (XS.up80 hxs b3), (fp_ne (Or.inl (by decide))).trans (h28), ((h80).up).eq ((if_neg (Int32.not_lt.mpr c62)).trans (if_pos ⟨Int32.not_le.mp c63, Int32.not_le.mp c66⟩)).symm, (congrArg b2i (show m_pM T (m_days T S r) (m_row T S r) (k + 1) = true from by show m_pM T (m_days T S r) (m_row T S r) (k + 1) = _; show (m_pM T (m_days T S r) (m_row T S r) k || (decide (h_s (m_days T S r) k < t_a T (1 * 12 + k)) || (decide (t_a T (1 * 12 + k) < h_s (m_days T S r) k) && decide (0 < m_pI T (m_days T S r) (m_row T S r) k k)))) = _; rw [decide_eq_false (Int32.not_lt.mpr c62), decide_eq_true (Int32.not_le.mp c63), decide_eq_true (Int32.not_le.mp c66), Bool.true_and, Bool.or_true, Bool.or_true])).symm⟩)
                · skip
                  replace c69 : decide (b = 0) = true := by simpa using c69
                  replace c69 := of_decide_eq_true c69
                  refine Pv.aload rfl rfl ?_
                  refine Pv.getR (v := .ref 80) rfl rfl (GW.at (a := 69) (k := 27) (b := 80) hx50 (by decide)) ?_
                  refine Pv.iload rfl rfl ?_
                  refine Pv.ald (z := ((m_pI T (m_days T S r) (m_row T S r) k) k) - 1) rfl (by rw [i_toNat (by omega)]; exact fp_eq) ?_
                  refine Pv.iload rfl rfl ?_
                  refine Pv.icmp rfl (fun c70 => ?_) (fun c70 => ?_)
                  · skip
                    replace c70 := of_decide_eq_true c70
                    exact absurd c70 (i_ne2 _)
                  · skip
                    replace c70 := of_decide_eq_false c70
                    refine Pv.lit rfl ?_
                    refine Pv.goto rfl ?_
                    refine Pv.istore (lo' := [some (.ref 69), some (.int (Int32.ofNat (r + 1))), some (.int 1), some (.int (Int32.ofNat k)), some (.int ((m_pI T (m_days T S r) (m_row T S r) k) k))]) rfl rfl ?_
                    refine Pv.iinc (y := Int32.ofNat (k + 1)) (lo' := [some (.ref 69), some (.int (Int32.ofNat (r + 1))), some (.int 1), some (.int (Int32.ofNat (k + 1))), some (.int ((m_pI T (m_days T S r) (m_row T S r) k) k))]) rfl rfl (i_add k 1) rfl ?_
                    refine Pv.goto rfl ?_
                    exact ih48 (k + 1, 1, (fp G3 80 k (((m_pI T (m_days T S r) (m_row T S r) k) k) - 1)), (some (.int ((m_pI T (m_days T S r) (m_row T S r) k) k)))) (⟨by omega, (RTP.pr rt), (XS.up80 hxs b3), (fp_ne (Or.inl (by decide))).trans (h28), ((h80).up).eq ((if_neg (Int32.not_lt.mpr c62)).trans (if_pos ⟨Int32.not_le.mp c63, Int32.not_le.mp c66⟩)).symm, (congrArg b2i (show m_pM T (m_days T S r) (m_row T S r) (k + 1) = true from by show m_pM T (m_days T S r) (m_row T S r) (k + 1) = _; show (m_pM T (m_days T S r) (m_row T S r) k || (decide (h_s (m_days T S r) k < t_a T (1 * 12 + k)) || (decide (t_a T (1 * 12 + k) < h_s (m_days T S r) k) && decide (0 < m_pI T (m_days T S r) (m_row T S r) k k)))) = _; rw [decide_eq_false (Int32.not_lt.mpr c62), decide_eq_true (Int32.not_le.mp c63), decide_eq_true (Int32.not_le.mp c66), Bool.true_and, Bool.or_true, Bool.or_true])).symm⟩)
          · skip
            replace c62 := of_decide_eq_false c62
            refine Pv.aload rfl rfl ?_
            refine Pv.getR (v := .ref 80) rfl rfl (GW.at (a := 69) (k := 27) (b := 80) hx50 (by decide)) ?_
            refine Pv.iload rfl rfl ?_
            refine Pv.dup2 rfl ?_
            refine Pv.ald (z := (m_pI T (m_days T S r) (m_row T S r) k) k) rfl (by rw [i_toNat (by omega)]; exact h80 _ (by omega)) ?_
            refine Pv.lit rfl ?_
            refine Pv.bin (z := ((m_pI T (m_days T S r) (m_row T S r) k) k) + 1) rfl (rfl) ?_
            refine Pv.astk (k := k) (z := ((m_pI T (m_days T S r) (m_row T S r) k) k) + 1) rfl (i_toNat (by omega)) (rfl) ?_
            refine Pv.goto rfl ?_
            refine Pv.iload rfl rfl ?_
            refine Pv.if0 rfl (fun c71 => ?_) (fun c71 => ?_)
            · skip
              replace c71 : decide (b = 0) = false := by simpa using c71
              replace c71 := of_decide_eq_false c71
              refine Pv.lit rfl ?_
              refine Pv.goto rfl ?_
              refine Pv.istore (lo' := [some (.ref 69), some (.int (Int32.ofNat (r + 1))), some (.int 1), some (.int (Int32.ofNat k)), some (.int ((m_pI T (m_days T S r) (m_row T S r) k) k))]) rfl rfl ?_
              refine Pv.iinc (y := Int32.ofNat (k + 1)) (lo' := [some (.ref 69), some (.int (Int32.ofNat (r + 1))), some (.int 1), some (.int (Int32.ofNat (k + 1))), some (.int ((m_pI T (m_days T S r) (m_row T S r) k) k))]) rfl rfl (i_add k 1) rfl ?_
              refine Pv.goto rfl ?_
              exact ih48 (k + 1, 1, (fp G3 80 k (((m_pI T (m_days T S r) (m_row T S r) k) k) + 1)), (some (.int ((m_pI T (m_days T S r) (m_row T S r) k) k)))) (⟨by omega, (RTP.pr rt), (XS.up80 hxs b3), (fp_ne (Or.inl (by decide))).trans (h28), ((h80).up).eq (if_pos (Int32.not_le.mp c62)).symm, (congrArg b2i (show m_pM T (m_days T S r) (m_row T S r) (k + 1) = true from by show m_pM T (m_days T S r) (m_row T S r) (k + 1) = _; show (m_pM T (m_days T S r) (m_row T S r) k || (decide (h_s (m_days T S r) k < t_a T (1 * 12 + k)) || (decide (t_a T (1 * 12 + k) < h_s (m_days T S r) k) && decide (0 < m_pI T (m_days T S r) (m_row T S r) k k)))) = _; rw [decide_eq_true (Int32.not_le.mp c62), Bool.true_or, Bool.or_true])).symm⟩)
            · skip
              replace c71 : decide (b = 0) = true := by simpa using c71
              replace c71 := of_decide_eq_true c71
              refine Pv.aload rfl rfl ?_
              refine Pv.getR (v := .ref 80) rfl rfl (GW.at (a := 69) (k := 27) (b := 80) hx50 (by decide)) ?_
              refine Pv.iload rfl rfl ?_
              refine Pv.ald (z := ((m_pI T (m_days T S r) (m_row T S r) k) k) + 1) rfl (by rw [i_toNat (by omega)]; exact fp_eq) ?_
              refine Pv.iload rfl rfl ?_
              refine Pv.icmp rfl (fun c72 => ?_) (fun c72 => ?_)
              · skip
                replace c72 := of_decide_eq_true c72
                exact absurd c72 (i_ne1 _)
              · skip
                replace c72 := of_decide_eq_false c72
                refine Pv.lit rfl ?_
                refine Pv.goto rfl ?_
                refine Pv.istore (lo' := [some (.ref 69), some (.int (Int32.ofNat (r + 1))), some (.int 1), some (.int (Int32.ofNat k)), some (.int ((m_pI T (m_days T S r) (m_row T S r) k) k))]) rfl rfl ?_
                refine Pv.iinc (y := Int32.ofNat (k + 1)) (lo' := [some (.ref 69), some (.int (Int32.ofNat (r + 1))), some (.int 1), some (.int (Int32.ofNat (k + 1))), some (.int ((m_pI T (m_days T S r) (m_row T S r) k) k))]) rfl rfl (i_add k 1) rfl ?_
                refine Pv.goto rfl ?_
                exact ih48 (k + 1, 1, (fp G3 80 k (((m_pI T (m_days T S r) (m_row T S r) k) k) + 1)), (some (.int ((m_pI T (m_days T S r) (m_row T S r) k) k)))) (⟨by omega, (RTP.pr rt), (XS.up80 hxs b3), (fp_ne (Or.inl (by decide))).trans (h28), ((h80).up).eq (if_pos (Int32.not_le.mp c62)).symm, (congrArg b2i (show m_pM T (m_days T S r) (m_row T S r) (k + 1) = true from by show m_pM T (m_days T S r) (m_row T S r) (k + 1) = _; show (m_pM T (m_days T S r) (m_row T S r) k || (decide (h_s (m_days T S r) k < t_a T (1 * 12 + k)) || (decide (t_a T (1 * 12 + k) < h_s (m_days T S r) k) && decide (0 < m_pI T (m_days T S r) (m_row T S r) k k)))) = _; rw [decide_eq_true (Int32.not_le.mp c62), Bool.true_or, Bool.or_true])).symm⟩)
  · skip
    replace c8 := mt (i_le (a := 12) (b := k) (by omega) (by omega)).mpr (of_decide_eq_false c8)
    refine Pv.aload rfl rfl ?_
    refine Pv.getR (v := .ref 80) rfl rfl (GW.at (a := 69) (k := 27) (b := 80) hx6 (by decide)) ?_
    refine Pv.iload rfl rfl ?_
    refine Pv.lit rfl ?_
    refine Pv.astk (k := k) (z := 5) rfl (i_toNat (by omega)) (rfl) ?_
    refine Pv.iinc (y := Int32.ofNat (k + 1)) (lo' := [some (.ref 69), some (.int (Int32.ofNat (k + 1))), none, none, none]) rfl rfl (i_add k 1) rfl ?_
    refine Pv.goto rfl ?_
    exact ih4 (k + 1, (fp G 80 k 5)) (⟨by omega, (RDP.pr rt), (fp_ne (Or.inl (by decide))).trans (h28), (h80).ext rfl⟩)
set_option maxRecDepth 100000 in
set_option maxHeartbeats 4000000 in
theorem g_whyHoard {F : FW} {m k : Nat} {n : Int32} {S : Sh} (hS : XS F m S) (hG : GW F) (hk : k < 12) : Pm Z_X11_whyHoard [.ref 69, .int (Int32.ofNat k), .int n] F (fun r F' => r = some (.int (m_why 0 S k n)) ∧ F' = F) := by
  refine Pm.of fun N => ?_
  obtain ⟨Q, hQ⟩ : ∃ Q : Option Value → FW → Prop, Q = (fun r F' => r = some (.int (m_why 0 S k n)) ∧ F' = F) := ⟨_, rfl⟩
  rw [← hQ]
  refine (show Pv (ab_T L_X11_whyHoard) N 0 [some (.ref 69), some (.int (Int32.ofNat k)), some (.int n)] [] F Q from ?_)
  refine Pv.aload rfl rfl ?_
  refine Pv.getR (v := .ref 71) rfl rfl (GW.at (a := 69) (k := 6) (b := 71) hG (by decide)) ?_
  refine Pv.lit rfl ?_
  refine Pv.iload rfl rfl ?_
  refine Pv.bin (z := Int32.ofNat (124 + k)) rfl (i_add 124 k) ?_
  refine Pv.ald (z := h_s S k) rfl (by rw [i_toNat (by omega)]; exact hS.s _ (by omega)) ?_
  refine Pv.iload rfl rfl ?_
  refine Pv.icmp rfl (fun c1 => ?_) (fun c1 => ?_)
  · skip
    replace c1 := of_decide_eq_true c1
    refine Pv.lit rfl ?_
    exact Pv.ret rfl (by rw [hQ]; exact ⟨by show _ = some (Value.int (if h_s S k < n then 1 else 0)); rw [if_neg (Int32.not_lt.mpr c1)], rfl⟩)
  · skip
    replace c1 := of_decide_eq_false c1
    refine Pv.lit rfl ?_
    refine Pv.goto rfl ?_
    exact Pv.ret rfl (by rw [hQ]; exact ⟨by show _ = some (Value.int (if h_s S k < n then 1 else 0)); rw [if_pos (Int32.not_le.mp c1)], rfl⟩)
set_option maxRecDepth 100000 in
set_option maxHeartbeats 4000000 in
theorem g_whyBare {F : FW} {m k : Nat} {n : Int32} {S : Sh} (hS : XS F m S) (hG : GW F) (hk : k < 12) : Pm Z_X11_whyBare [.ref 69, .int (Int32.ofNat k), .int n] F (fun r F' => r = some (.int (m_why 1 S k n)) ∧ F' = F) := by
  refine Pm.of fun N => ?_
  obtain ⟨Q, hQ⟩ : ∃ Q : Option Value → FW → Prop, Q = (fun r F' => r = some (.int (m_why 1 S k n)) ∧ F' = F) := ⟨_, rfl⟩
  rw [← hQ]
  refine (show Pv (ab_T L_X11_whyBare) N 0 [some (.ref 69), some (.int (Int32.ofNat k)), some (.int n)] [] F Q from ?_)
  refine Pv.aload rfl rfl ?_
  refine Pv.getR (v := .ref 71) rfl rfl (GW.at (a := 69) (k := 6) (b := 71) hG (by decide)) ?_
  refine Pv.lit rfl ?_
  refine Pv.iload rfl rfl ?_
  refine Pv.bin (z := Int32.ofNat (136 + k)) rfl (i_add 136 k) ?_
  refine Pv.ald (z := h_h S k) rfl (by rw [i_toNat (by omega)]; exact hS.h _ (by omega)) ?_
  refine Pv.iload rfl rfl ?_
  refine Pv.icmp rfl (fun c1 => ?_) (fun c1 => ?_)
  · skip
    replace c1 := of_decide_eq_true c1
    refine Pv.aload rfl rfl ?_
    refine Pv.getR (v := .ref 71) rfl rfl (GW.at (a := 69) (k := 6) (b := 71) hG (by decide)) ?_
    refine Pv.lit rfl ?_
    refine Pv.iload rfl rfl ?_
    refine Pv.bin (z := Int32.ofNat (124 + k)) rfl (i_add 124 k) ?_
    refine Pv.ald (z := h_s S k) rfl (by rw [i_toNat (by omega)]; exact hS.s _ (by omega)) ?_
    refine Pv.iload rfl rfl ?_
    refine Pv.bin (z := (h_s S k) + n) rfl (rfl) ?_
    refine Pv.lit rfl ?_
    refine Pv.icmp rfl (fun c2 => ?_) (fun c2 => ?_)
    · skip
      replace c2 := of_decide_eq_true c2
      refine Pv.lit rfl ?_
      exact Pv.ret rfl (by rw [hQ]; exact ⟨by show _ = some (Value.int (if h_h S k < n then 1 else if 999 < h_s S k + n then 2 else 0)); rw [if_neg (Int32.not_lt.mpr c1), if_neg (Int32.not_lt.mpr c2)], rfl⟩)
    · skip
      replace c2 := of_decide_eq_false c2
      refine Pv.lit rfl ?_
      refine Pv.goto rfl ?_
      exact Pv.ret rfl (by rw [hQ]; exact ⟨by show _ = some (Value.int (if h_h S k < n then 1 else if 999 < h_s S k + n then 2 else 0)); rw [if_neg (Int32.not_lt.mpr c1), if_pos (Int32.not_le.mp c2)], rfl⟩)
  · skip
    replace c1 := of_decide_eq_false c1
    refine Pv.lit rfl ?_
    refine Pv.goto rfl ?_
    exact Pv.ret rfl (by rw [hQ]; exact ⟨by show _ = some (Value.int (if h_h S k < n then 1 else if 999 < h_s S k + n then 2 else 0)); rw [if_pos (Int32.not_le.mp c1)], rfl⟩)
set_option maxRecDepth 100000 in
set_option maxHeartbeats 4000000 in
theorem g_hoards {F : FW} {m k : Nat} {n : Int32} {S : Sh} (hS : XS F m S) (hG : GW F) (hk : k < 12) : Pm Z_X11_hoards [.ref 69, .int (Int32.ofNat k), .int n] F (fun r F' => r = none ∧ F' = fp (fp F 71 (124 + k) (h_s S k - n)) 71 (136 + k) (h_h S k + n)) := by
  refine Pm.of fun N => ?_
  obtain ⟨Q, hQ⟩ : ∃ Q : Option Value → FW → Prop, Q = (fun r F' => r = none ∧ F' = fp (fp F 71 (124 + k) (h_s S k - n)) 71 (136 + k) (h_h S k + n)) := ⟨_, rfl⟩
  rw [← hQ]
  refine (show Pv (ab_T L_X11_hoards) N 0 [some (.ref 69), some (.int (Int32.ofNat k)), some (.int n)] [] F Q from ?_)
  refine Pv.aload rfl rfl ?_
  refine Pv.getR (v := .ref 71) rfl rfl (GW.at (a := 69) (k := 6) (b := 71) hG (by decide)) ?_
  refine Pv.lit rfl ?_
  refine Pv.iload rfl rfl ?_
  refine Pv.bin (z := Int32.ofNat (124 + k)) rfl (i_add 124 k) ?_
  refine Pv.dup2 rfl ?_
  refine Pv.ald (z := h_s S k) rfl (by rw [i_toNat (by omega)]; exact hS.s _ (by omega)) ?_
  refine Pv.iload rfl rfl ?_
  refine Pv.bin (z := (h_s S k) - n) rfl (rfl) ?_
  refine Pv.astk (k := 124 + k) (z := (h_s S k) - n) rfl (i_toNat (by omega)) (rfl) ?_
  refine Pv.aload rfl rfl ?_
  refine Pv.getR (v := .ref 71) rfl rfl (GW.at (a := 69) (k := 6) (b := 71) hG (by decide)) ?_
  refine Pv.lit rfl ?_
  refine Pv.iload rfl rfl ?_
  refine Pv.bin (z := Int32.ofNat (136 + k)) rfl (i_add 136 k) ?_
  refine Pv.dup2 rfl ?_
  refine Pv.ald (z := h_h S k) rfl (by rw [i_toNat (by omega)]; exact (fp_ne (Or.inr (by omega))).trans (hS.h _ (by omega))) ?_
  refine Pv.iload rfl rfl ?_
  refine Pv.bin (z := (h_h S k) + n) rfl (rfl) ?_
  refine Pv.astk (k := 136 + k) (z := (h_h S k) + n) rfl (i_toNat (by omega)) (rfl) ?_
  exact Pv.vret rfl (by rw [hQ]; exact ⟨rfl, rfl⟩)
set_option maxRecDepth 100000 in
set_option maxHeartbeats 4000000 in
theorem g_draw {F : FW} {x : Int32} {n : Nat} (hx : F.1 69 29 = x) (hn : 0 < n) (hn2 : n < 1000) : Pm Z_X11_draw [.ref 69, .int (Int32.ofNat n)] F (fun r F' => r = some (.int (Int32.ofNat (dr (m_nx x) n))) ∧ F' = fp F 69 29 (m_nx x)) := by
  refine Pm.of fun N => ?_
  obtain ⟨Q, hQ⟩ : ∃ Q : Option Value → FW → Prop, Q = (fun r F' => r = some (.int (Int32.ofNat (dr (m_nx x) n))) ∧ F' = fp F 69 29 (m_nx x)) := ⟨_, rfl⟩
  rw [← hQ]
  refine (show Pv (ab_T L_X11_draw) N 0 [some (.ref 69), some (.int (Int32.ofNat n))] [] F Q from ?_)
  refine Pv.aload rfl rfl ?_
  refine Pv.aload rfl rfl ?_
  refine Pv.getI (z := x) rfl rfl (hx) ?_
  refine Pv.lit rfl ?_
  refine Pv.bin (z := x * 1103515245) rfl (rfl) ?_
  refine Pv.lit rfl ?_
  refine Pv.bin (z := m_nx x) rfl (rfl) ?_
  refine Pv.putI rfl rfl ?_
  refine Pv.aload rfl rfl ?_
  refine Pv.getI (z := m_nx x) rfl rfl (fp_eq) ?_
  refine Pv.lit rfl ?_
  refine Pv.bin (z := m_ush (m_nx x)) rfl (rfl) ?_
  refine Pv.iload rfl rfl ?_
  refine Pv.irem (z := Int32.ofNat (dr (m_nx x) n)) rfl (dr_rem hn hn2) ?_
  exact Pv.ret rfl (by rw [hQ]; exact ⟨rfl, rfl⟩)
set_option maxRecDepth 100000 in
set_option maxHeartbeats 4000000 in
theorem g_drawsDay {F : FW} {T : St} {S : Sh} (hT : XT F T) (hS : XS F (t_m T) S) (hG : GW F) (hTB : TBB T) (hI : INV T S) {x : Int32} (hx : F.1 69 29 = x) (hg : 0 < t_g T) (hD : h_d S < 400) : Pm Z_X11_drawsDay [.ref 69] F (fun r F' => r = none ∧ RXS F F' ∧ XS F' (t_m T) (m_d1 T S x) ∧ F'.1 69 29 = m_d2 T S x) := by
  refine Pm.of fun N => ?_
  obtain ⟨Q, hQ⟩ : ∃ Q : Option Value → FW → Prop, Q = (fun r F' => r = none ∧ RXS F F' ∧ XS F' (t_m T) (m_d1 T S x) ∧ F'.1 69 29 = m_d2 T S x) := ⟨_, rfl⟩
  rw [← hQ]
  have b3 := hT.mb
  have b4 := hT.nb
  have b5 := hT.gb
  have b6 := m_from_lt S
  have b7 := hS.db
  have d0 : dr (m_nx x) 6 < 6 := Nat.mod_lt _ (by decide)
  refine (show Pv (ab_T (L_X11_drawsDay Z_X11_draw Z_X11_cell Z_X11_whyHoard Z_X11_hoards Z_X11_whyBare Z_X11_day)) N 0 [some (.ref 69), none, none, none, none] [] F Q from ?_)
  refine Pv.aload rfl rfl ?_
  refine Pv.lit rfl ?_
  refine Pv.callVI (as := [.ref 69, .int 6]) (rest := []) (z := Int32.ofNat (dr (m_nx x) 6)) rfl rfl rfl (g_draw (x := x) (n := 6) (hx) (by omega) (by omega)) ?_
  refine Pv.istore (lo' := [some (.ref 69), some (.int (Int32.ofNat (dr (m_nx x) 6))), none, none, none]) rfl rfl ?_
  have cut1 : ∀ (G : FW), RXS F G → XS G (t_m T) (m_dDs T S x) → G.1 69 29 = m_dDx T S x → ∀ (o1 o2 o3 o4 : Option Value), Pv (ab_T (L_X11_drawsDay Z_X11_draw Z_X11_cell Z_X11_whyHoard Z_X11_hoards Z_X11_whyBare Z_X11_day)) N 116 [some (.ref 69), o1, o2, o3, o4] [] G Q := by
    intro G rx hs hx o1 o2 o3 o4
    have hx2 := RXS.T rx hT
    have hx3 := RXS.G rx hG
    have e0 : h_d (m_dDs T S x) = h_d S := h_d_drawD
    have d4 : dr (m_nx (m_dDx T S x)) 90 < 90 := Nat.mod_lt _ (by decide)
    have cut4 : ∀ (K : FW), RXS F K → XS K (t_m T) (m_dXs T (m_dDs T S x) (m_dDx T S x)) → K.1 69 29 = m_d2 T S x → Pv (ab_T (L_X11_drawsDay Z_X11_draw Z_X11_cell Z_X11_whyHoard Z_X11_hoards Z_X11_whyBare Z_X11_day)) N 157 [some (.ref 69), o1, o2, o3, o4] [] K Q := by
      intro K rx2 hs2 hx2
      have hx5 := RXS.T rx2 hT
      have hx6 := RXS.G rx2 hG
      have e1 : h_d (m_dXs T (m_dDs T S x) (m_dDx T S x)) = h_d S := by rw [h_d_drawX, h_d_drawD]
      refine Pv.aload rfl rfl ?_
      refine Pv.callV (as := [.ref 69]) (rest := []) rfl rfl rfl (g_day hx5 hs2 hx6 hTB (INV.sb (INV_dX (INV_dD hI b5 hg))) (by omega)) ?_
      rintro _ G7 ⟨rfl, x8, hs9⟩
      refine (show Pv _ _ 161 [some (.ref 69), o1, o2, o3, o4] [] G7 Q from ?_)
      exact Pv.vret rfl (by rw [hQ]; exact ⟨rfl, RXS.rx rx2 x8, hs9, (x8.2.1 29 (by decide)).trans hx2⟩)
    refine Pv.aload rfl rfl ?_
    refine Pv.lit rfl ?_
    refine Pv.callVI (as := [.ref 69, .int 90]) (rest := []) (z := Int32.ofNat (dr (m_nx (m_dDx T S x)) 90)) rfl rfl rfl (g_draw (x := (m_dDx T S x)) (n := 90) (hx) (by omega) (by omega)) ?_
    refine Pv.if0 rfl (fun c10 => ?_) (fun c10 => ?_)
    · skip
      replace c10 : decide (Int32.ofNat (dr (m_nx (m_dDx T S x)) 90) = 0) = false := by simpa using c10
      replace c10 := mt (i_eq (a := dr (m_nx (m_dDx T S x)) 90) (b := 0) (by omega) (by omega)).mpr (of_decide_eq_false c10)
      exact cut4 (fp G 69 29 (m_nx (m_dDx T S x))) (RXS.sd rx (Or.inr rfl)) (by rw [dXs_n (fun q => c10 q.1)]; exact (XS.sd (a := 69) (k := 29) (v := (m_nx (m_dDx T S x))) hs b3 (by decide))) (by unfold m_d2; rw [dXx_n (fun q => c10 q.1)]; exact fp_eq)
    · skip
      replace c10 : decide (Int32.ofNat (dr (m_nx (m_dDx T S x)) 90) = 0) = true := by simpa using c10
      replace c10 := (i_eq (a := dr (m_nx (m_dDx T S x)) 90) (b := 0) (by omega) (by omega)).mp (of_decide_eq_true c10)
      refine Pv.aload rfl rfl ?_
      refine Pv.getR (v := .ref 71) rfl rfl (GW.at (a := 69) (k := 6) (b := 71) hx3 (by decide)) ?_
      refine Pv.lit rfl ?_
      refine Pv.ald (z := Int32.ofNat (t_m T)) rfl ((fp_ne (Or.inl (by decide))).trans (hx2.m)) ?_
      refine Pv.if0 rfl (fun c11 => ?_) (fun c11 => ?_)
      · skip
        replace c11 := (i_le (a := t_m T) (b := 0) (by omega) (by omega)).mp (of_decide_eq_true c11)
        exact cut4 (fp G 69 29 (m_nx (m_dDx T S x))) (RXS.sd rx (Or.inr rfl)) (by rw [dXs_n (fun q => absurd q.2 (by omega))]; exact (XS.sd (a := 69) (k := 29) (v := (m_nx (m_dDx T S x))) hs b3 (by decide))) (by unfold m_d2; rw [dXx_n (fun q => absurd q.2 (by omega))]; exact fp_eq)
      · skip
        replace c11 := mt (i_le (a := t_m T) (b := 0) (by omega) (by omega)).mpr (of_decide_eq_false c11)
        have d5 : dr (m_nx (m_nx (m_dDx T S x))) (t_m T) < t_m T := Nat.mod_lt _ (by omega)
        refine Pv.aload rfl rfl ?_
        refine Pv.getR (v := .ref 71) rfl rfl (GW.at (a := 69) (k := 6) (b := 71) hx3 (by decide)) ?_
        refine Pv.lit rfl ?_
        refine Pv.dup2 rfl ?_
        refine Pv.ald (z := G.1 71 180) rfl (fp_ne (Or.inl (by decide))) ?_
        refine Pv.lit rfl ?_
        refine Pv.aload rfl rfl ?_
        refine Pv.aload rfl rfl ?_
        refine Pv.getR (v := .ref 71) rfl rfl (GW.at (a := 69) (k := 6) (b := 71) hx3 (by decide)) ?_
        refine Pv.lit rfl ?_
        refine Pv.ald (z := Int32.ofNat (t_m T)) rfl ((fp_ne (Or.inl (by decide))).trans (hx2.m)) ?_
        refine Pv.callVI (as := [.ref 69, .int (Int32.ofNat (t_m T))]) (rest := [.int 1, .int (G.1 71 180), .int 180, .ref 71]) (z := Int32.ofNat (dr (m_nx (m_nx (m_dDx T S x))) (t_m T))) rfl rfl rfl (g_draw (x := m_nx (m_dDx T S x)) (n := t_m T) (fp_eq) (by omega) (by omega)) ?_
        refine Pv.bin (z := 1 <<< ((Int32.ofNat (dr (m_nx (m_nx (m_dDx T S x))) (t_m T))) &&& 31)) rfl (rfl) ?_
        refine Pv.bin (z := (G.1 71 180) ||| (1 <<< ((Int32.ofNat (dr (m_nx (m_nx (m_dDx T S x))) (t_m T))) &&& 31))) rfl (rfl) ?_
        refine Pv.astk (k := 180) (z := (G.1 71 180) ||| (1 <<< ((Int32.ofNat (dr (m_nx (m_nx (m_dDx T S x))) (t_m T))) &&& 31))) rfl (rfl) (rfl) ?_
        exact cut4 (fp (fp (fp G 69 29 (m_nx (m_dDx T S x))) 69 29 (m_nx (m_nx (m_dDx T S x)))) 71 180 ((G.1 71 180) ||| (1 <<< ((Int32.ofNat (dr (m_nx (m_nx (m_dDx T S x))) (t_m T))) &&& 31)))) (RXS.st (RXS.sd (RXS.sd rx (Or.inr rfl)) (Or.inr rfl)) (by omega) (by omega)) (by rw [dXs_y c10 (by omega)]; exact XS.die3b (XS.sd (a := 69) (k := 29) (v := (m_nx (m_nx (m_dDx T S x)))) (XS.sd (a := 69) (k := 29) (v := (m_nx (m_dDx T S x))) hs b3 (by decide)) b3 (by decide)) b3 (by omega) ((fp_ne (Or.inl (by decide))).trans (fp_ne (Or.inl (by decide))))) (by unfold m_d2; rw [dXx_y c10 (by omega)]; exact (fp_ne (Or.inl (by decide))).trans (fp_eq))
  refine Pv.iload rfl rfl ?_
  refine Pv.lit rfl ?_
  refine Pv.icmp rfl (fun c12 => ?_) (fun c12 => ?_)
  · skip
    replace c12 := (i_le (a := 3) (b := dr (m_nx x) 6) (by omega) (by omega)).mp (of_decide_eq_true c12)
    exact cut1 (fp F 69 29 (m_nx x)) (RXS.sd RXS.rf (Or.inr rfl)) (by rw [dDs_n (T := T) (S := S) (by omega)]; exact (XS.sd (a := 69) (k := 29) (v := (m_nx x)) hS b3 (by decide))) (by rw [dDx_n (T := T) (S := S) (by omega)]; exact fp_eq) (some (.int (Int32.ofNat (dr (m_nx x) 6)))) none none none
  · skip
    replace c12 := mt (i_le (a := 3) (b := dr (m_nx x) 6) (by omega) (by omega)).mpr (of_decide_eq_false c12)
    refine Pv.aload rfl rfl ?_
    refine Pv.aload rfl rfl ?_
    refine Pv.getR (v := .ref 71) rfl rfl (GW.at (a := 69) (k := 6) (b := 71) hG (by decide)) ?_
    refine Pv.lit rfl ?_
    refine Pv.ald (z := Int32.ofNat (t_g T)) rfl ((fp_ne (Or.inl (by decide))).trans (hT.g)) ?_
    refine Pv.callVI (as := [.ref 69, .int (Int32.ofNat (t_g T))]) (rest := []) (z := Int32.ofNat (dr (m_nx (m_nx x)) (t_g T))) rfl rfl rfl (g_draw (x := m_nx x) (n := t_g T) (fp_eq) (by omega) (by omega)) ?_
    refine Pv.istore (lo' := [some (.ref 69), some (.int (Int32.ofNat (dr (m_nx x) 6))), some (.int (Int32.ofNat (dr (m_nx (m_nx x)) (t_g T)))), none, none]) rfl rfl ?_
    refine Pv.iload rfl rfl ?_
    refine Pv.aload rfl rfl ?_
    refine Pv.lit rfl ?_
    refine Pv.callVI (as := [.ref 69, .int 2]) (rest := [.int (Int32.ofNat (dr (m_nx (m_nx x)) (t_g T)))]) (z := Int32.ofNat (dr (m_nx (m_nx (m_nx x))) 2)) rfl rfl rfl (g_draw (x := m_nx (m_nx x)) (n := 2) (fp_eq) (by omega) (by omega)) ?_
    refine Pv.callI (as := [.int (Int32.ofNat (dr (m_nx (m_nx x)) (t_g T))), .int (Int32.ofNat (dr (m_nx (m_nx (m_nx x))) 2))]) (rest := []) (z := Int32.ofNat (2 * (dr (m_nx (m_nx x)) (t_g T)) + (dr (m_nx (m_nx (m_nx x))) 2))) rfl rfl rfl (g_cell (g := dr (m_nx (m_nx x)) (t_g T)) (s := dr (m_nx (m_nx (m_nx x))) 2)) ?_
    refine Pv.istore (lo' := [some (.ref 69), some (.int (Int32.ofNat (dr (m_nx x) 6))), some (.int (Int32.ofNat (dr (m_nx (m_nx x)) (t_g T)))), some (.int (Int32.ofNat (2 * (dr (m_nx (m_nx x)) (t_g T)) + (dr (m_nx (m_nx (m_nx x))) 2)))), none]) rfl rfl ?_
    refine Pv.lit rfl ?_
    refine Pv.aload rfl rfl ?_
    refine Pv.lit rfl ?_
    refine Pv.callVI (as := [.ref 69, .int 20]) (rest := [.int 1]) (z := Int32.ofNat (dr (m_nx (m_nx (m_nx (m_nx x)))) 20)) rfl rfl rfl (g_draw (x := m_nx (m_nx (m_nx x))) (n := 20) (fp_eq) (by omega) (by omega)) ?_
    refine Pv.bin (z := Int32.ofNat (dr (m_nx (m_nx (m_nx (m_nx x)))) 20 + 1)) rfl ((i_add 1 (dr (m_nx (m_nx (m_nx (m_nx x)))) 20)).trans (congrArg Int32.ofNat (Nat.add_comm 1 _))) ?_
    refine Pv.istore (lo' := [some (.ref 69), some (.int (Int32.ofNat (dr (m_nx x) 6))), some (.int (Int32.ofNat (dr (m_nx (m_nx x)) (t_g T)))), some (.int (Int32.ofNat (2 * (dr (m_nx (m_nx x)) (t_g T)) + (dr (m_nx (m_nx (m_nx x))) 2)))), some (.int (Int32.ofNat (dr (m_nx (m_nx (m_nx (m_nx x)))) 20 + 1)))]) rfl rfl ?_
    have d1 : dr (m_nx (m_nx x)) (t_g T) < t_g T := Nat.mod_lt _ hg
    have d2 : dr (m_nx (m_nx (m_nx x))) 2 < 2 := Nat.mod_lt _ (by decide)
    have d3 : dr (m_nx (m_nx (m_nx (m_nx x)))) 20 < 20 := Nat.mod_lt _ (by decide)
    refine Pv.iload rfl rfl ?_
    refine Pv.if0 rfl (fun c13 => ?_) (fun c13 => ?_)
    · skip
      replace c13 : decide (Int32.ofNat (dr (m_nx x) 6) = 0) = false := by simpa using c13
      replace c13 := mt (i_eq (a := dr (m_nx x) 6) (b := 0) (by omega) (by omega)).mpr (of_decide_eq_false c13)
      refine Pv.iload rfl rfl ?_
      refine Pv.lit rfl ?_
      refine Pv.icmp rfl (fun c14 => ?_) (fun c14 => ?_)
      · skip
        replace c14 : decide (Int32.ofNat (dr (m_nx x) 6) = 1) = false := by simpa using c14
        replace c14 := mt (i_eq (a := dr (m_nx x) 6) (b := 1) (by omega) (by omega)).mpr (of_decide_eq_false c14)
        refine Pv.iload rfl rfl ?_
        refine Pv.lit rfl ?_
        refine Pv.icmp rfl (fun c15 => ?_) (fun c15 => ?_)
        · skip
          replace c15 : decide (Int32.ofNat (dr (m_nx x) 6) = 2) = false := by simpa using c15
          replace c15 := mt (i_eq (a := dr (m_nx x) 6) (b := 2) (by omega) (by omega)).mpr (of_decide_eq_false c15)
          omega
        · skip
          replace c15 : decide (Int32.ofNat (dr (m_nx x) 6) = 2) = true := by simpa using c15
          replace c15 := (i_eq (a := dr (m_nx x) 6) (b := 2) (by omega) (by omega)).mp (of_decide_eq_true c15)
          refine Pv.aload rfl rfl ?_
          refine Pv.iload rfl rfl ?_
          refine Pv.iload rfl rfl ?_
          refine Pv.callVI (as := [.ref 69, .int (Int32.ofNat (2 * (dr (m_nx (m_nx x)) (t_g T)) + (dr (m_nx (m_nx (m_nx x))) 2))), .int (Int32.ofNat (dr (m_nx (m_nx (m_nx (m_nx x)))) 20 + 1))]) (rest := []) (z := m_why 0 S (2 * (dr (m_nx (m_nx x)) (t_g T)) + (dr (m_nx (m_nx (m_nx x))) 2)) (Int32.ofNat (dr (m_nx (m_nx (m_nx (m_nx x)))) 20 + 1))) rfl rfl rfl (g_whyHoard (k := 2 * (dr (m_nx (m_nx x)) (t_g T)) + (dr (m_nx (m_nx (m_nx x))) 2)) (n := Int32.ofNat (dr (m_nx (m_nx (m_nx (m_nx x)))) 20 + 1)) (XS.sd (a := 69) (k := 29) (v := (m_nx (m_nx (m_nx (m_nx x))))) (XS.sd (a := 69) (k := 29) (v := (m_nx (m_nx (m_nx x)))) (XS.sd (a := 69) (k := 29) (v := (m_nx (m_nx x))) (XS.sd (a := 69) (k := 29) (v := (m_nx x)) hS b3 (by decide)) b3 (by decide)) b3 (by decide)) b3 (by decide)) (GW.fpp (a := 69) (k := 29) (v := (m_nx (m_nx (m_nx (m_nx x))))) (GW.fpp (a := 69) (k := 29) (v := (m_nx (m_nx (m_nx x)))) (GW.fpp (a := 69) (k := 29) (v := (m_nx (m_nx x))) (GW.fpp (a := 69) (k := 29) (v := (m_nx x)) hG)))) (by omega)) ?_
          refine Pv.if0 rfl (fun c16 => ?_) (fun c16 => ?_)
          · skip
            replace c16 : decide (m_why 0 S (2 * (dr (m_nx (m_nx x)) (t_g T)) + (dr (m_nx (m_nx (m_nx x))) 2)) (Int32.ofNat (dr (m_nx (m_nx (m_nx (m_nx x)))) 20 + 1)) = 0) = false := by simpa using c16
            replace c16 := of_decide_eq_false c16
            exact cut1 (fp (fp (fp (fp F 69 29 (m_nx x)) 69 29 (m_nx (m_nx x))) 69 29 (m_nx (m_nx (m_nx x)))) 69 29 (m_nx (m_nx (m_nx (m_nx x))))) (RXS.sd (RXS.sd (RXS.sd (RXS.sd RXS.rf (Or.inr rfl)) (Or.inr rfl)) (Or.inr rfl)) (Or.inr rfl)) (by rw [dDs_y (T := T) (S := S) (d := 2) (by omega) (by omega)]; rw [try_n (d := 2) c16]; exact (XS.sd (a := 69) (k := 29) (v := (m_nx (m_nx (m_nx (m_nx x))))) (XS.sd (a := 69) (k := 29) (v := (m_nx (m_nx (m_nx x)))) (XS.sd (a := 69) (k := 29) (v := (m_nx (m_nx x))) (XS.sd (a := 69) (k := 29) (v := (m_nx x)) hS b3 (by decide)) b3 (by decide)) b3 (by decide)) b3 (by decide))) (by rw [dDx_y (T := T) (S := S) (by omega)]; exact fp_eq) (some (.int (Int32.ofNat (dr (m_nx x) 6)))) (some (.int (Int32.ofNat (dr (m_nx (m_nx x)) (t_g T))))) (some (.int (Int32.ofNat (2 * (dr (m_nx (m_nx x)) (t_g T)) + (dr (m_nx (m_nx (m_nx x))) 2))))) (some (.int (Int32.ofNat (dr (m_nx (m_nx (m_nx (m_nx x)))) 20 + 1))))
          · skip
            replace c16 : decide (m_why 0 S (2 * (dr (m_nx (m_nx x)) (t_g T)) + (dr (m_nx (m_nx (m_nx x))) 2)) (Int32.ofNat (dr (m_nx (m_nx (m_nx (m_nx x)))) 20 + 1)) = 0) = true := by simpa using c16
            replace c16 := of_decide_eq_true c16
            refine Pv.aload rfl rfl ?_
            refine Pv.getR (v := .ref 71) rfl rfl (GW.at (a := 69) (k := 6) (b := 71) hG (by decide)) ?_
            refine Pv.lit rfl ?_
            refine Pv.iload rfl rfl ?_
            refine Pv.bin (z := Int32.ofNat (124 + (2 * (dr (m_nx (m_nx x)) (t_g T)) + (dr (m_nx (m_nx (m_nx x))) 2)))) rfl (i_add 124 (2 * (dr (m_nx (m_nx x)) (t_g T)) + (dr (m_nx (m_nx (m_nx x))) 2))) ?_
            refine Pv.dup2 rfl ?_
            refine Pv.ald (z := h_s S (2 * (dr (m_nx (m_nx x)) (t_g T)) + (dr (m_nx (m_nx (m_nx x))) 2))) rfl (by rw [i_toNat (by omega)]; exact (fp_ne (Or.inl (by decide))).trans ((fp_ne (Or.inl (by decide))).trans ((fp_ne (Or.inl (by decide))).trans ((fp_ne (Or.inl (by decide))).trans (hS.s _ (by omega)))))) ?_
            refine Pv.iload rfl rfl ?_
            refine Pv.bin (z := (h_s S (2 * (dr (m_nx (m_nx x)) (t_g T)) + (dr (m_nx (m_nx (m_nx x))) 2))) - (Int32.ofNat (dr (m_nx (m_nx (m_nx (m_nx x)))) 20 + 1))) rfl (rfl) ?_
            refine Pv.astk (k := 124 + (2 * (dr (m_nx (m_nx x)) (t_g T)) + (dr (m_nx (m_nx (m_nx x))) 2))) (z := (h_s S (2 * (dr (m_nx (m_nx x)) (t_g T)) + (dr (m_nx (m_nx (m_nx x))) 2))) - (Int32.ofNat (dr (m_nx (m_nx (m_nx (m_nx x)))) 20 + 1))) rfl (i_toNat (by omega)) (rfl) ?_
            exact cut1 (fp (fp (fp (fp (fp F 69 29 (m_nx x)) 69 29 (m_nx (m_nx x))) 69 29 (m_nx (m_nx (m_nx x)))) 69 29 (m_nx (m_nx (m_nx (m_nx x))))) 71 (124 + (2 * (dr (m_nx (m_nx x)) (t_g T)) + (dr (m_nx (m_nx (m_nx x))) 2))) ((h_s S (2 * (dr (m_nx (m_nx x)) (t_g T)) + (dr (m_nx (m_nx (m_nx x))) 2))) - (Int32.ofNat (dr (m_nx (m_nx (m_nx (m_nx x)))) 20 + 1)))) (RXS.st (RXS.sd (RXS.sd (RXS.sd (RXS.sd RXS.rf (Or.inr rfl)) (Or.inr rfl)) (Or.inr rfl)) (Or.inr rfl)) (by omega) (by omega)) (by rw [dDs_y (T := T) (S := S) (d := 2) (by omega) (by omega)]; rw [try_y (d := 2) c16]; exact XS.do2 (XS.sd (a := 69) (k := 29) (v := (m_nx (m_nx (m_nx (m_nx x))))) (XS.sd (a := 69) (k := 29) (v := (m_nx (m_nx (m_nx x)))) (XS.sd (a := 69) (k := 29) (v := (m_nx (m_nx x))) (XS.sd (a := 69) (k := 29) (v := (m_nx x)) hS b3 (by decide)) b3 (by decide)) b3 (by decide)) b3 (by decide)) b3 (by omega)) (by rw [dDx_y (T := T) (S := S) (by omega)]; exact (fp_ne (Or.inl (by decide))).trans (fp_eq)) (some (.int (Int32.ofNat (dr (m_nx x) 6)))) (some (.int (Int32.ofNat (dr (m_nx (m_nx x)) (t_g T))))) (some (.int (Int32.ofNat (2 * (dr (m_nx (m_nx x)) (t_g T)) + (dr (m_nx (m_nx (m_nx x))) 2))))) (some (.int (Int32.ofNat (dr (m_nx (m_nx (m_nx (m_nx x)))) 20 + 1))))
      · skip
        replace c14 : decide (Int32.ofNat (dr (m_nx x) 6) = 1) = true := by simpa using c14
        replace c14 := (i_eq (a := dr (m_nx x) 6) (b := 1) (by omega) (by omega)).mp (of_decide_eq_true c14)
        refine Pv.aload rfl rfl ?_
        refine Pv.iload rfl rfl ?_
        refine Pv.iload rfl rfl ?_
        refine Pv.callVI (as := [.ref 69, .int (Int32.ofNat (2 * (dr (m_nx (m_nx x)) (t_g T)) + (dr (m_nx (m_nx (m_nx x))) 2))), .int (Int32.ofNat (dr (m_nx (m_nx (m_nx (m_nx x)))) 20 + 1))]) (rest := []) (z := m_why 1 S (2 * (dr (m_nx (m_nx x)) (t_g T)) + (dr (m_nx (m_nx (m_nx x))) 2)) (Int32.ofNat (dr (m_nx (m_nx (m_nx (m_nx x)))) 20 + 1))) rfl rfl rfl (g_whyBare (k := 2 * (dr (m_nx (m_nx x)) (t_g T)) + (dr (m_nx (m_nx (m_nx x))) 2)) (n := Int32.ofNat (dr (m_nx (m_nx (m_nx (m_nx x)))) 20 + 1)) (XS.sd (a := 69) (k := 29) (v := (m_nx (m_nx (m_nx (m_nx x))))) (XS.sd (a := 69) (k := 29) (v := (m_nx (m_nx (m_nx x)))) (XS.sd (a := 69) (k := 29) (v := (m_nx (m_nx x))) (XS.sd (a := 69) (k := 29) (v := (m_nx x)) hS b3 (by decide)) b3 (by decide)) b3 (by decide)) b3 (by decide)) (GW.fpp (a := 69) (k := 29) (v := (m_nx (m_nx (m_nx (m_nx x))))) (GW.fpp (a := 69) (k := 29) (v := (m_nx (m_nx (m_nx x)))) (GW.fpp (a := 69) (k := 29) (v := (m_nx (m_nx x))) (GW.fpp (a := 69) (k := 29) (v := (m_nx x)) hG)))) (by omega)) ?_
        refine Pv.if0 rfl (fun c17 => ?_) (fun c17 => ?_)
        · skip
          replace c17 : decide (m_why 1 S (2 * (dr (m_nx (m_nx x)) (t_g T)) + (dr (m_nx (m_nx (m_nx x))) 2)) (Int32.ofNat (dr (m_nx (m_nx (m_nx (m_nx x)))) 20 + 1)) = 0) = false := by simpa using c17
          replace c17 := of_decide_eq_false c17
          refine Pv.iload rfl rfl ?_
          refine Pv.lit rfl ?_
          refine Pv.icmp rfl (fun c18 => ?_) (fun c18 => ?_)
          · skip
            replace c18 : decide (Int32.ofNat (dr (m_nx x) 6) = 2) = false := by simpa using c18
            replace c18 := mt (i_eq (a := dr (m_nx x) 6) (b := 2) (by omega) (by omega)).mpr (of_decide_eq_false c18)
            exact cut1 (fp (fp (fp (fp F 69 29 (m_nx x)) 69 29 (m_nx (m_nx x))) 69 29 (m_nx (m_nx (m_nx x)))) 69 29 (m_nx (m_nx (m_nx (m_nx x))))) (RXS.sd (RXS.sd (RXS.sd (RXS.sd RXS.rf (Or.inr rfl)) (Or.inr rfl)) (Or.inr rfl)) (Or.inr rfl)) (by rw [dDs_y (T := T) (S := S) (d := 1) (by omega) (by omega)]; rw [try_n (d := 1) c17]; exact (XS.sd (a := 69) (k := 29) (v := (m_nx (m_nx (m_nx (m_nx x))))) (XS.sd (a := 69) (k := 29) (v := (m_nx (m_nx (m_nx x)))) (XS.sd (a := 69) (k := 29) (v := (m_nx (m_nx x))) (XS.sd (a := 69) (k := 29) (v := (m_nx x)) hS b3 (by decide)) b3 (by decide)) b3 (by decide)) b3 (by decide))) (by rw [dDx_y (T := T) (S := S) (by omega)]; exact fp_eq) (some (.int (Int32.ofNat (dr (m_nx x) 6)))) (some (.int (Int32.ofNat (dr (m_nx (m_nx x)) (t_g T))))) (some (.int (Int32.ofNat (2 * (dr (m_nx (m_nx x)) (t_g T)) + (dr (m_nx (m_nx (m_nx x))) 2))))) (some (.int (Int32.ofNat (dr (m_nx (m_nx (m_nx (m_nx x)))) 20 + 1))))
          · skip
            replace c18 : decide (Int32.ofNat (dr (m_nx x) 6) = 2) = true := by simpa using c18
            replace c18 := (i_eq (a := dr (m_nx x) 6) (b := 2) (by omega) (by omega)).mp (of_decide_eq_true c18)
            omega
        · skip
          replace c17 : decide (m_why 1 S (2 * (dr (m_nx (m_nx x)) (t_g T)) + (dr (m_nx (m_nx (m_nx x))) 2)) (Int32.ofNat (dr (m_nx (m_nx (m_nx (m_nx x)))) 20 + 1)) = 0) = true := by simpa using c17
          replace c17 := of_decide_eq_true c17
          refine Pv.aload rfl rfl ?_
          refine Pv.iload rfl rfl ?_
          refine Pv.iload rfl rfl ?_
          refine Pv.un (z := -(Int32.ofNat (dr (m_nx (m_nx (m_nx (m_nx x)))) 20 + 1))) rfl (rfl) ?_
          refine Pv.callVU (as := [.ref 69, .int (Int32.ofNat (2 * (dr (m_nx (m_nx x)) (t_g T)) + (dr (m_nx (m_nx (m_nx x))) 2))), .int (-(Int32.ofNat (dr (m_nx (m_nx (m_nx (m_nx x)))) 20 + 1)))]) (rest := []) rfl rfl rfl (g_hoards (k := 2 * (dr (m_nx (m_nx x)) (t_g T)) + (dr (m_nx (m_nx (m_nx x))) 2)) (n := -(Int32.ofNat (dr (m_nx (m_nx (m_nx (m_nx x)))) 20 + 1))) (XS.sd (a := 69) (k := 29) (v := (m_nx (m_nx (m_nx (m_nx x))))) (XS.sd (a := 69) (k := 29) (v := (m_nx (m_nx (m_nx x)))) (XS.sd (a := 69) (k := 29) (v := (m_nx (m_nx x))) (XS.sd (a := 69) (k := 29) (v := (m_nx x)) hS b3 (by decide)) b3 (by decide)) b3 (by decide)) b3 (by decide)) (GW.fpp (a := 69) (k := 29) (v := (m_nx (m_nx (m_nx (m_nx x))))) (GW.fpp (a := 69) (k := 29) (v := (m_nx (m_nx (m_nx x)))) (GW.fpp (a := 69) (k := 29) (v := (m_nx (m_nx x))) (GW.fpp (a := 69) (k := 29) (v := (m_nx x)) hG)))) (by omega)) ?_
          refine Pv.iload rfl rfl ?_
          refine Pv.lit rfl ?_
          refine Pv.icmp rfl (fun c19 => ?_) (fun c19 => ?_)
          · skip
            replace c19 : decide (Int32.ofNat (dr (m_nx x) 6) = 2) = false := by simpa using c19
            replace c19 := mt (i_eq (a := dr (m_nx x) 6) (b := 2) (by omega) (by omega)).mpr (of_decide_eq_false c19)
            exact cut1 (fp (fp (fp (fp (fp (fp F 69 29 (m_nx x)) 69 29 (m_nx (m_nx x))) 69 29 (m_nx (m_nx (m_nx x)))) 69 29 (m_nx (m_nx (m_nx (m_nx x))))) 71 (124 + (2 * (dr (m_nx (m_nx x)) (t_g T)) + (dr (m_nx (m_nx (m_nx x))) 2))) (h_s S (2 * (dr (m_nx (m_nx x)) (t_g T)) + (dr (m_nx (m_nx (m_nx x))) 2)) - (-(Int32.ofNat (dr (m_nx (m_nx (m_nx (m_nx x)))) 20 + 1))))) 71 (136 + (2 * (dr (m_nx (m_nx x)) (t_g T)) + (dr (m_nx (m_nx (m_nx x))) 2))) (h_h S (2 * (dr (m_nx (m_nx x)) (t_g T)) + (dr (m_nx (m_nx (m_nx x))) 2)) + (-(Int32.ofNat (dr (m_nx (m_nx (m_nx (m_nx x)))) 20 + 1))))) (RXS.st (RXS.st (RXS.sd (RXS.sd (RXS.sd (RXS.sd RXS.rf (Or.inr rfl)) (Or.inr rfl)) (Or.inr rfl)) (Or.inr rfl)) (by omega) (by omega)) (by omega) (by omega)) (by rw [dDs_y (T := T) (S := S) (d := 1) (by omega) (by omega)]; rw [try_y (d := 1) c17]; exact XS.do1 (XS.sd (a := 69) (k := 29) (v := (m_nx (m_nx (m_nx (m_nx x))))) (XS.sd (a := 69) (k := 29) (v := (m_nx (m_nx (m_nx x)))) (XS.sd (a := 69) (k := 29) (v := (m_nx (m_nx x))) (XS.sd (a := 69) (k := 29) (v := (m_nx x)) hS b3 (by decide)) b3 (by decide)) b3 (by decide)) b3 (by decide)) b3 (by omega)) (by rw [dDx_y (T := T) (S := S) (by omega)]; exact (fp_ne (Or.inl (by decide))).trans ((fp_ne (Or.inl (by decide))).trans (fp_eq))) (some (.int (Int32.ofNat (dr (m_nx x) 6)))) (some (.int (Int32.ofNat (dr (m_nx (m_nx x)) (t_g T))))) (some (.int (Int32.ofNat (2 * (dr (m_nx (m_nx x)) (t_g T)) + (dr (m_nx (m_nx (m_nx x))) 2))))) (some (.int (Int32.ofNat (dr (m_nx (m_nx (m_nx (m_nx x)))) 20 + 1))))
          · skip
            replace c19 : decide (Int32.ofNat (dr (m_nx x) 6) = 2) = true := by simpa using c19
            replace c19 := (i_eq (a := dr (m_nx x) 6) (b := 2) (by omega) (by omega)).mp (of_decide_eq_true c19)
            omega
    · skip
      replace c13 : decide (Int32.ofNat (dr (m_nx x) 6) = 0) = true := by simpa using c13
      replace c13 := (i_eq (a := dr (m_nx x) 6) (b := 0) (by omega) (by omega)).mp (of_decide_eq_true c13)
      refine Pv.aload rfl rfl ?_
      refine Pv.iload rfl rfl ?_
      refine Pv.iload rfl rfl ?_
      refine Pv.callVI (as := [.ref 69, .int (Int32.ofNat (2 * (dr (m_nx (m_nx x)) (t_g T)) + (dr (m_nx (m_nx (m_nx x))) 2))), .int (Int32.ofNat (dr (m_nx (m_nx (m_nx (m_nx x)))) 20 + 1))]) (rest := []) (z := m_why 0 S (2 * (dr (m_nx (m_nx x)) (t_g T)) + (dr (m_nx (m_nx (m_nx x))) 2)) (Int32.ofNat (dr (m_nx (m_nx (m_nx (m_nx x)))) 20 + 1))) rfl rfl rfl (g_whyHoard (k := 2 * (dr (m_nx (m_nx x)) (t_g T)) + (dr (m_nx (m_nx (m_nx x))) 2)) (n := Int32.ofNat (dr (m_nx (m_nx (m_nx (m_nx x)))) 20 + 1)) (XS.sd (a := 69) (k := 29) (v := (m_nx (m_nx (m_nx (m_nx x))))) (XS.sd (a := 69) (k := 29) (v := (m_nx (m_nx (m_nx x)))) (XS.sd (a := 69) (k := 29) (v := (m_nx (m_nx x))) (XS.sd (a := 69) (k := 29) (v := (m_nx x)) hS b3 (by decide)) b3 (by decide)) b3 (by decide)) b3 (by decide)) (GW.fpp (a := 69) (k := 29) (v := (m_nx (m_nx (m_nx (m_nx x))))) (GW.fpp (a := 69) (k := 29) (v := (m_nx (m_nx (m_nx x)))) (GW.fpp (a := 69) (k := 29) (v := (m_nx (m_nx x))) (GW.fpp (a := 69) (k := 29) (v := (m_nx x)) hG)))) (by omega)) ?_
      refine Pv.if0 rfl (fun c20 => ?_) (fun c20 => ?_)
      · skip
        replace c20 : decide (m_why 0 S (2 * (dr (m_nx (m_nx x)) (t_g T)) + (dr (m_nx (m_nx (m_nx x))) 2)) (Int32.ofNat (dr (m_nx (m_nx (m_nx (m_nx x)))) 20 + 1)) = 0) = false := by simpa using c20
        replace c20 := of_decide_eq_false c20
        refine Pv.iload rfl rfl ?_
        refine Pv.lit rfl ?_
        refine Pv.icmp rfl (fun c21 => ?_) (fun c21 => ?_)
        · skip
          replace c21 : decide (Int32.ofNat (dr (m_nx x) 6) = 1) = false := by simpa using c21
          replace c21 := mt (i_eq (a := dr (m_nx x) 6) (b := 1) (by omega) (by omega)).mpr (of_decide_eq_false c21)
          refine Pv.iload rfl rfl ?_
          refine Pv.lit rfl ?_
          refine Pv.icmp rfl (fun c22 => ?_) (fun c22 => ?_)
          · skip
            replace c22 : decide (Int32.ofNat (dr (m_nx x) 6) = 2) = false := by simpa using c22
            replace c22 := mt (i_eq (a := dr (m_nx x) 6) (b := 2) (by omega) (by omega)).mpr (of_decide_eq_false c22)
            exact cut1 (fp (fp (fp (fp F 69 29 (m_nx x)) 69 29 (m_nx (m_nx x))) 69 29 (m_nx (m_nx (m_nx x)))) 69 29 (m_nx (m_nx (m_nx (m_nx x))))) (RXS.sd (RXS.sd (RXS.sd (RXS.sd RXS.rf (Or.inr rfl)) (Or.inr rfl)) (Or.inr rfl)) (Or.inr rfl)) (by rw [dDs_y (T := T) (S := S) (d := 0) (by omega) (by omega)]; rw [try_n (d := 0) c20]; exact (XS.sd (a := 69) (k := 29) (v := (m_nx (m_nx (m_nx (m_nx x))))) (XS.sd (a := 69) (k := 29) (v := (m_nx (m_nx (m_nx x)))) (XS.sd (a := 69) (k := 29) (v := (m_nx (m_nx x))) (XS.sd (a := 69) (k := 29) (v := (m_nx x)) hS b3 (by decide)) b3 (by decide)) b3 (by decide)) b3 (by decide))) (by rw [dDx_y (T := T) (S := S) (by omega)]; exact fp_eq) (some (.int (Int32.ofNat (dr (m_nx x) 6)))) (some (.int (Int32.ofNat (dr (m_nx (m_nx x)) (t_g T))))) (some (.int (Int32.ofNat (2 * (dr (m_nx (m_nx x)) (t_g T)) + (dr (m_nx (m_nx (m_nx x))) 2))))) (some (.int (Int32.ofNat (dr (m_nx (m_nx (m_nx (m_nx x)))) 20 + 1))))
          · skip
            replace c22 : decide (Int32.ofNat (dr (m_nx x) 6) = 2) = true := by simpa using c22
            replace c22 := (i_eq (a := dr (m_nx x) 6) (b := 2) (by omega) (by omega)).mp (of_decide_eq_true c22)
            omega
        · skip
          replace c21 : decide (Int32.ofNat (dr (m_nx x) 6) = 1) = true := by simpa using c21
          replace c21 := (i_eq (a := dr (m_nx x) 6) (b := 1) (by omega) (by omega)).mp (of_decide_eq_true c21)
          omega
      · skip
        replace c20 : decide (m_why 0 S (2 * (dr (m_nx (m_nx x)) (t_g T)) + (dr (m_nx (m_nx (m_nx x))) 2)) (Int32.ofNat (dr (m_nx (m_nx (m_nx (m_nx x)))) 20 + 1)) = 0) = true := by simpa using c20
        replace c20 := of_decide_eq_true c20
        refine Pv.aload rfl rfl ?_
        refine Pv.iload rfl rfl ?_
        refine Pv.iload rfl rfl ?_
        refine Pv.callVU (as := [.ref 69, .int (Int32.ofNat (2 * (dr (m_nx (m_nx x)) (t_g T)) + (dr (m_nx (m_nx (m_nx x))) 2))), .int (Int32.ofNat (dr (m_nx (m_nx (m_nx (m_nx x)))) 20 + 1))]) (rest := []) rfl rfl rfl (g_hoards (k := 2 * (dr (m_nx (m_nx x)) (t_g T)) + (dr (m_nx (m_nx (m_nx x))) 2)) (n := Int32.ofNat (dr (m_nx (m_nx (m_nx (m_nx x)))) 20 + 1)) (XS.sd (a := 69) (k := 29) (v := (m_nx (m_nx (m_nx (m_nx x))))) (XS.sd (a := 69) (k := 29) (v := (m_nx (m_nx (m_nx x)))) (XS.sd (a := 69) (k := 29) (v := (m_nx (m_nx x))) (XS.sd (a := 69) (k := 29) (v := (m_nx x)) hS b3 (by decide)) b3 (by decide)) b3 (by decide)) b3 (by decide)) (GW.fpp (a := 69) (k := 29) (v := (m_nx (m_nx (m_nx (m_nx x))))) (GW.fpp (a := 69) (k := 29) (v := (m_nx (m_nx (m_nx x)))) (GW.fpp (a := 69) (k := 29) (v := (m_nx (m_nx x))) (GW.fpp (a := 69) (k := 29) (v := (m_nx x)) hG)))) (by omega)) ?_
        refine Pv.iload rfl rfl ?_
        refine Pv.lit rfl ?_
        refine Pv.icmp rfl (fun c23 => ?_) (fun c23 => ?_)
        · skip
          replace c23 : decide (Int32.ofNat (dr (m_nx x) 6) = 1) = false := by simpa using c23
          replace c23 := mt (i_eq (a := dr (m_nx x) 6) (b := 1) (by omega) (by omega)).mpr (of_decide_eq_false c23)
          refine Pv.iload rfl rfl ?_
          refine Pv.lit rfl ?_
          refine Pv.icmp rfl (fun c24 => ?_) (fun c24 => ?_)
          · skip
            replace c24 : decide (Int32.ofNat (dr (m_nx x) 6) = 2) = false := by simpa using c24
            replace c24 := mt (i_eq (a := dr (m_nx x) 6) (b := 2) (by omega) (by omega)).mpr (of_decide_eq_false c24)
            exact cut1 (fp (fp (fp (fp (fp (fp F 69 29 (m_nx x)) 69 29 (m_nx (m_nx x))) 69 29 (m_nx (m_nx (m_nx x)))) 69 29 (m_nx (m_nx (m_nx (m_nx x))))) 71 (124 + (2 * (dr (m_nx (m_nx x)) (t_g T)) + (dr (m_nx (m_nx (m_nx x))) 2))) (h_s S (2 * (dr (m_nx (m_nx x)) (t_g T)) + (dr (m_nx (m_nx (m_nx x))) 2)) - (Int32.ofNat (dr (m_nx (m_nx (m_nx (m_nx x)))) 20 + 1)))) 71 (136 + (2 * (dr (m_nx (m_nx x)) (t_g T)) + (dr (m_nx (m_nx (m_nx x))) 2))) (h_h S (2 * (dr (m_nx (m_nx x)) (t_g T)) + (dr (m_nx (m_nx (m_nx x))) 2)) + (Int32.ofNat (dr (m_nx (m_nx (m_nx (m_nx x)))) 20 + 1)))) (RXS.st (RXS.st (RXS.sd (RXS.sd (RXS.sd (RXS.sd RXS.rf (Or.inr rfl)) (Or.inr rfl)) (Or.inr rfl)) (Or.inr rfl)) (by omega) (by omega)) (by omega) (by omega)) (by rw [dDs_y (T := T) (S := S) (d := 0) (by omega) (by omega)]; rw [try_y (d := 0) c20]; exact XS.do0 (XS.sd (a := 69) (k := 29) (v := (m_nx (m_nx (m_nx (m_nx x))))) (XS.sd (a := 69) (k := 29) (v := (m_nx (m_nx (m_nx x)))) (XS.sd (a := 69) (k := 29) (v := (m_nx (m_nx x))) (XS.sd (a := 69) (k := 29) (v := (m_nx x)) hS b3 (by decide)) b3 (by decide)) b3 (by decide)) b3 (by decide)) b3 (by omega)) (by rw [dDx_y (T := T) (S := S) (by omega)]; exact (fp_ne (Or.inl (by decide))).trans ((fp_ne (Or.inl (by decide))).trans (fp_eq))) (some (.int (Int32.ofNat (dr (m_nx x) 6)))) (some (.int (Int32.ofNat (dr (m_nx (m_nx x)) (t_g T))))) (some (.int (Int32.ofNat (2 * (dr (m_nx (m_nx x)) (t_g T)) + (dr (m_nx (m_nx (m_nx x))) 2))))) (some (.int (Int32.ofNat (dr (m_nx (m_nx (m_nx (m_nx x)))) 20 + 1))))
          · skip
            replace c24 : decide (Int32.ofNat (dr (m_nx x) 6) = 2) = true := by simpa using c24
            replace c24 := (i_eq (a := dr (m_nx x) 6) (b := 2) (by omega) (by omega)).mp (of_decide_eq_true c24)
            omega
        · skip
          replace c23 : decide (Int32.ofNat (dr (m_nx x) 6) = 1) = true := by simpa using c23
          replace c23 := (i_eq (a := dr (m_nx x) 6) (b := 1) (by omega) (by omega)).mp (of_decide_eq_true c23)
          omega
set_option maxRecDepth 100000 in
set_option maxHeartbeats 4000000 in
theorem g_draws {F : FW} {n : Nat} {T : St} {S : Sh} (hT : XT F T) (hS : XS F (t_m T) S) (hG : GW F) (hTB : TBB T) (hI : INV T S) (x : Int32) (hg : 0 < t_g T) (hn : n < 1000) : Pm Z_X11_draws [.ref 69, .int (Int32.ofNat n), .int x] F (fun r F' => r = some (.int (Int32.ofNat (h_d (m_drawn T (S, x) n).1 - h_d S))) ∧ RXS F F' ∧ XS F' (t_m T) (m_drawn T (S, x) n).1 ∧ F'.1 69 29 = (m_drawn T (S, x) n).2) := by
  refine Pm.of fun N => ?_
  obtain ⟨Q, hQ⟩ : ∃ Q : Option Value → FW → Prop, Q = (fun r F' => r = some (.int (Int32.ofNat (h_d (m_drawn T (S, x) n).1 - h_d S))) ∧ RXS F F' ∧ XS F' (t_m T) (m_drawn T (S, x) n).1 ∧ F'.1 69 29 = (m_drawn T (S, x) n).2) := ⟨_, rfl⟩
  rw [← hQ]
  have b3 := hT.mb
  have b4 := hT.nb
  have b5 := hT.gb
  have b6 := m_from_lt S
  have b7 := hS.db
  refine (show Pv (ab_T (L_X11_draws Z_X11_drawsDay)) N 0 [some (.ref 69), some (.int (Int32.ofNat n)), some (.int x), none] [] F Q from ?_)
  refine Pv.aload rfl rfl ?_
  refine Pv.iload rfl rfl ?_
  refine Pv.putI rfl rfl ?_
  refine Pv.lit rfl ?_
  refine Pv.istore (lo' := [some (.ref 69), some (.int (Int32.ofNat n)), some (.int x), some (.int 0)]) rfl rfl ?_
  refine Pv.lp (ι := Nat × FW) (lof := fun ⟨k, G⟩ => [some (.ref 69), some (.int (Int32.ofNat n)), some (.int x), some (.int (Int32.ofNat k))]) (Ff := fun ⟨k, G⟩ => G) (P := fun ⟨k, G⟩ => (k ≤ n) ∧ (RXS F G) ∧ (XS G (t_m T) (m_drawn T (S, x) k).1) ∧ (G.1 69 29 = (m_drawn T (S, x) k).2) ∧ (h_d (m_drawn T (S, x) k).1 = h_d S + k)) ?_ (0, (fp F 69 29 x)) (⟨Nat.zero_le _, (RXS.sd RXS.rf (Or.inr rfl)), (XS.sd hS b3 (by decide)), fp_eq, rfl⟩)
  rintro N1 hN2 ⟨k, G⟩ hi3 ih4
  refine (show Pv _ _ 7 [some (.ref 69), some (.int (Int32.ofNat n)), some (.int x), some (.int (Int32.ofNat k))] [] G Q from ?_)
  obtain ⟨hk, rx, hA, hx0, hkd⟩ := hi3
  have hx5 := RXS.T rx hT
  have hx6 := RXS.G rx hG
  have bD := XS.db hA
  refine Pv.iloadS rfl rfl ?_
  refine Pv.iload rfl rfl ?_
  refine Pv.icmp rfl (fun c7 => ?_) (fun c7 => ?_)
  · skip
    replace c7 := (i_le (a := n) (b := k) (by omega) (by omega)).mp (of_decide_eq_true c7)
    refine Pv.iload rfl rfl ?_
    exact Pv.ret rfl (by rw [hQ]; exact ⟨congrArg (fun z => some (Value.int (Int32.ofNat z))) (show k = h_d (m_drawn T (S, x) n).1 - h_d S by rw [show n = k by omega]; omega), rx, by rw [show n = k by omega]; exact hA, by rw [show n = k by omega]; exact hx0⟩)
  · skip
    replace c7 := mt (i_le (a := n) (b := k) (by omega) (by omega)).mpr (of_decide_eq_false c7)
    refine Pv.aload rfl rfl ?_
    refine Pv.getR (v := .ref 71) rfl rfl (GW.at (a := 69) (k := 6) (b := 71) hx6 (by decide)) ?_
    refine Pv.lit rfl ?_
    refine Pv.ald (z := Int32.ofNat (h_d (m_drawn T (S, x) k).1)) rfl (hA.d) ?_
    refine Pv.lit rfl ?_
    refine Pv.icmp rfl (fun c8 => ?_) (fun c8 => ?_)
    · skip
      replace c8 := (i_le (a := 400) (b := h_d (m_drawn T (S, x) k).1) (by omega) (by omega)).mp (of_decide_eq_true c8)
      refine Pv.iload rfl rfl ?_
      exact Pv.ret rfl (by rw [hQ]; exact ⟨congrArg (fun z => some (Value.int (Int32.ofNat z))) (show k = h_d (m_drawn T (S, x) n).1 - h_d S by rw [drawn_e (T := T) (q := (S, x)) (k := k) (n := n) (by omega) (by omega)]; omega), rx, by rw [drawn_e (T := T) (q := (S, x)) (k := k) (n := n) (by omega) (by omega)]; exact hA, by rw [drawn_e (T := T) (q := (S, x)) (k := k) (n := n) (by omega) (by omega)]; exact hx0⟩)
    · skip
      replace c8 := mt (i_le (a := 400) (b := h_d (m_drawn T (S, x) k).1) (by omega) (by omega)).mpr (of_decide_eq_false c8)
      refine Pv.aload rfl rfl ?_
      refine Pv.callV (as := [.ref 69]) (rest := []) rfl rfl rfl (g_drawsDay hx5 hA hx6 hTB (INV_drawn (q := (S, x)) hTB b5 hg hI k) hx0 hg (by omega)) ?_
      rintro _ G9 ⟨rfl, x10, hs11, y12⟩
      have rx13 := RXS.tr rx x10
      refine (show Pv _ _ 29 [some (.ref 69), some (.int (Int32.ofNat n)), some (.int x), some (.int (Int32.ofNat k))] [] G9 Q from ?_)
      refine Pv.iinc (y := Int32.ofNat (k + 1)) (lo' := [some (.ref 69), some (.int (Int32.ofNat n)), some (.int x), some (.int (Int32.ofNat (k + 1)))]) rfl rfl (i_add k 1) rfl ?_
      refine Pv.goto rfl ?_
      exact ih4 (k + 1, G9) (⟨by omega, rx13, by rw [drawn_1 (by omega)]; exact hs11, by rw [drawn_2 (by omega)]; exact y12, by rw [drawn_1 (by omega)]; rw [h_d_1]; omega⟩)
set_option maxRecDepth 100000 in
set_option maxHeartbeats 4000000 in
theorem q_odds {F : FW} {T : St} {S : Sh} (hT : XT F T) (hS : XS F (t_m T) S) (hG : GW F) (hTB : TBB T) (hI : INV T S) (x y z : Int32) : Pm Z_X11_odds [.ref 69, .int x, .int y, .int z] F (fun r F' => r = some (.int (a_odds T S x y z)) ∧ RDR F F') := by
  refine Pm.of fun N => ?_
  obtain ⟨Q, hQ⟩ : ∃ Q : Option Value → FW → Prop, Q = (fun r F' => r = some (.int (a_odds T S x y z)) ∧ RDR F F') := ⟨_, rfl⟩
  rw [← hQ]
  have b3 := hT.mb
  have b4 := hT.nb
  have b5 := hT.gb
  have b6 := m_from_lt S
  have b7 := hS.db
  have hSB := hI.sb
  refine (show Pv (ab_T (L_X11_odds Z_X11_isMan Z_X11_isIn Z_X11_tries Z_X11_draws Z_X11_back)) N 0 [some (.ref 69), some (.int x), some (.int y), some (.int z), none, none, none] [] F Q from ?_)
  refine Pv.aload rfl rfl ?_
  refine Pv.lit rfl ?_
  refine Pv.putI rfl rfl ?_
  refine Pv.aload rfl rfl ?_
  refine Pv.iload rfl rfl ?_
  refine Pv.callVI (as := [.ref 69, .int x]) (rest := []) (z := b2i (nd (t_m T) x).isSome) rfl rfl rfl (q_isMan (hT.fx (P := fun q => q = 69) (((FX.rf (P := fun q => q = 69))).fp rfl) (by decide)) (hG.fx (P := fun _ => True) (((FX.rf (P := fun _ => True))).fp trivial)) x) ?_
  refine Pv.if0 rfl (fun c1 => ?_) (fun c1 => ?_)
  · skip
    replace c1 := of_decide_eq_true c1
    replace c1 := b2z.mp c1
    refine Pv.lit rfl ?_
    exact Pv.ret rfl (by rw [hQ]; exact ⟨by unfold a_odds; rw [nd_f c1], (RDR.rf).fp (Or.inl rfl)⟩)
  · skip
    replace c1 := of_decide_eq_false c1
    replace c1 := b2n.mp c1
    obtain ⟨m, hm, hml, rfl⟩ := nd_t c1
    refine Pv.iload rfl rfl ?_
    refine Pv.lit rfl ?_
    refine Pv.lit rfl ?_
    refine Pv.callI (as := [.int y, .int 1, .int 30]) (rest := []) (z := b2i (decide (1 ≤ y) && decide (y ≤ 30))) rfl rfl rfl (q_isIn y 1 30) ?_
    refine Pv.if0 rfl (fun c2 => ?_) (fun c2 => ?_)
    · skip
      replace c2 := of_decide_eq_true c2
      replace c2 := b2z.mp c2
      refine Pv.lit rfl ?_
      exact Pv.ret rfl (by rw [hQ]; exact ⟨by unfold a_odds; rw [hm]; dsimp only; rw [ndr_f ((ndr_in (a := 1) (b := 30) (by omega) (by omega)).symm.trans c2)], (RDR.rf).fp (Or.inl rfl)⟩)
    · skip
      replace c2 := of_decide_eq_false c2
      replace c2 := b2n.mp c2
      obtain ⟨n, hn, hna, hnb, rfl⟩ := ndr_t ((ndr_in (a := 1) (b := 30) (by omega) (by omega)).symm.trans c2)
      refine Pv.aload rfl rfl ?_
      refine Pv.getR (v := .ref 71) rfl rfl (GW.at (a := 69) (k := 6) (b := 71) hG (by decide)) ?_
      refine Pv.lit rfl ?_
      refine Pv.ald (z := Int32.ofNat (t_g T)) rfl ((fp_ne (Or.inl (by decide))).trans (hT.g)) ?_
      refine Pv.if0 rfl (fun c3 => ?_) (fun c3 => ?_)
      · skip
        replace c3 : decide (Int32.ofNat (t_g T) = 0) = false := by simpa using c3
        replace c3 := mt (i_eq (a := t_g T) (b := 0) (by omega) (by omega)).mpr (of_decide_eq_false c3)
        refine Pv.aload rfl rfl ?_
        refine Pv.callV (as := [.ref 69]) (rest := []) rfl rfl rfl (g_tries (hG.fx (P := fun _ => True) (((FX.rf (P := fun _ => True))).fp trivial))) ?_
        rintro _ G4 ⟨rfl, x5, y6⟩
        have rt7 := RT.of ((RDR.rf).fp (Or.inl rfl)) x5 y6
        have hs8 := RT.ofS ((RDR.rf).fp (Or.inl rfl)) x5 b3 hS
        have hr0 := RDR.t78 ((RDR.rf).fp (Or.inl rfl)) x5
        have hx9 := RT.T rt7 hT
        have hx10 := RT.G rt7 hG
        refine (show Pv _ _ 38 [some (.ref 69), some (.int (Int32.ofNat m)), some (.int (Int32.ofNat n)), some (.int z), none, none, none] [] G4 Q from ?_)
        refine Pv.lit rfl ?_
        refine Pv.istore (lo' := [some (.ref 69), some (.int (Int32.ofNat m)), some (.int (Int32.ofNat n)), some (.int z), some (.int 0), none, none]) rfl rfl ?_
        refine Pv.lit rfl ?_
        refine Pv.istore (lo' := [some (.ref 69), some (.int (Int32.ofNat m)), some (.int (Int32.ofNat n)), some (.int z), some (.int 0), some (.int 0), none]) rfl rfl ?_
        refine Pv.lp (ι := Nat × Int32 × FW × (Option Value)) (lof := fun ⟨k, b, G, o11⟩ => [some (.ref 69), some (.int (Int32.ofNat m)), some (.int (Int32.ofNat n)), some (.int z), some (.int b), some (.int (Int32.ofNat k)), o11]) (Ff := fun ⟨k, b, G, o11⟩ => G) (P := fun ⟨k, b, G, o11⟩ => (k ≤ n) ∧ (RT F G) ∧ (XS G (t_m T) S) ∧ (b = m_cnt (fun i => decide (h_t S m < h_t (m_drawn T (S, z + Int32.ofNat i) 20).1 m)) k) ∧ (RDR F G)) ?_ (0, 0, G4, none) (⟨Nat.zero_le _, rt7, hs8, rfl, hr0⟩)
        rintro N12 hN13 ⟨k, b, G, o11⟩ hi14 ih15
        refine (show Pv _ _ 44 [some (.ref 69), some (.int (Int32.ofNat m)), some (.int (Int32.ofNat n)), some (.int z), some (.int b), some (.int (Int32.ofNat k)), o11] [] G Q from ?_)
        obtain ⟨hk, rt, hxs, hb, hr⟩ := hi14
        have hx16 := RT.T rt hT
        have hx17 := RT.G rt hG
        refine Pv.iloadS rfl rfl ?_
        refine Pv.iload rfl rfl ?_
        refine Pv.icmp rfl (fun c18 => ?_) (fun c18 => ?_)
        · skip
          replace c18 := (i_le (a := n) (b := k) (by omega) (by omega)).mp (of_decide_eq_true c18)
          refine Pv.iload rfl rfl ?_
          exact Pv.ret rfl (by rw [hQ]; exact ⟨by unfold a_odds; rw [hm]; dsimp only; rw [hn]; dsimp only; rw [if_neg (by omega), hb, show k = n by omega], hr⟩)
        · skip
          replace c18 := mt (i_le (a := n) (b := k) (by omega) (by omega)).mpr (of_decide_eq_false c18)
          refine Pv.aload rfl rfl ?_
          refine Pv.getR (v := .ref 71) rfl rfl (GW.at (a := 69) (k := 6) (b := 71) hx17 (by decide)) ?_
          refine Pv.lit rfl ?_
          refine Pv.iload rfl rfl ?_
          refine Pv.bin (z := Int32.ofNat (181 + m)) rfl (i_add 181 m) ?_
          refine Pv.ald (z := h_t S m) rfl (by rw [i_toNat (by omega)]; exact hxs.t _ (by omega)) ?_
          refine Pv.istore (lo' := [some (.ref 69), some (.int (Int32.ofNat m)), some (.int (Int32.ofNat n)), some (.int z), some (.int b), some (.int (Int32.ofNat k)), some (.int (h_t S m))]) rfl rfl ?_
          refine Pv.aload rfl rfl ?_
          refine Pv.lit rfl ?_
          refine Pv.iload rfl rfl ?_
          refine Pv.iload rfl rfl ?_
          refine Pv.bin (z := z + (Int32.ofNat k)) rfl (rfl) ?_
          refine Pv.callV (as := [.ref 69, .int 20, .int (z + (Int32.ofNat k))]) (rest := []) rfl rfl rfl (g_draws (n := 20) hx16 hxs hx17 hTB hI (z + (Int32.ofNat k)) (by omega) (by omega)) ?_
          rintro _ G19 ⟨rfl, x20, hs21, y22⟩
          have rt23 := RT.rxs rt x20
          have hx24 := RT.T rt23 hT
          have hx25 := RT.G rt23 hG
          have bD26 := XS.db hs21
          refine (show Pv _ _ 72 [some (.ref 69), some (.int (Int32.ofNat m)), some (.int (Int32.ofNat n)), some (.int z), some (.int b), some (.int (Int32.ofNat k)), some (.int (h_t S m))] [.int (Int32.ofNat (h_d (m_drawn T (S, z + (Int32.ofNat k)) 20).1 - h_d S))] G19 Q from ?_)
          refine Pv.pop rfl ?_
          refine Pv.iload rfl rfl ?_
          refine Pv.aload rfl rfl ?_
          refine Pv.getR (v := .ref 71) rfl rfl (GW.at (a := 69) (k := 6) (b := 71) hx25 (by decide)) ?_
          refine Pv.lit rfl ?_
          refine Pv.iload rfl rfl ?_
          refine Pv.bin (z := Int32.ofNat (181 + m)) rfl (i_add 181 m) ?_
          refine Pv.ald (z := h_t (m_drawn T (S, z + (Int32.ofNat k)) 20).1 m) rfl (by rw [i_toNat (by omega)]; exact hs21.t _ (by omega)) ?_
          refine Pv.iload rfl rfl ?_
          refine Pv.icmp rfl (fun c27 => ?_) (fun c27 => ?_)
          · skip
            replace c27 := of_decide_eq_true c27
            refine Pv.lit rfl ?_
            refine Pv.bin (z := b + 0) rfl (rfl) ?_
            refine Pv.istore (lo' := [some (.ref 69), some (.int (Int32.ofNat m)), some (.int (Int32.ofNat n)), some (.int z), some (.int (b + 0)), some (.int (Int32.ofNat k)), some (.int (h_t S m))]) rfl rfl ?_
            refine Pv.aload rfl rfl ?_
            refine Pv.callV (as := [.ref 69]) (rest := []) rfl rfl rfl (g_back hx25) ?_
            rintro _ G28 ⟨rfl, x29, y30, z31⟩
            have rd32 := RT.bk rt23 x29 y30 z31
            have rt33 := RT.bkT rt23 x29 y30 z31
            refine (show Pv _ _ 102 [some (.ref 69), some (.int (Int32.ofNat m)), some (.int (Int32.ofNat n)), some (.int z), some (.int (b + 0)), some (.int (Int32.ofNat k)), some (.int (h_t S m))] [] G28 Q from ?_)
            refine Pv.iinc (y := Int32.ofNat (k + 1)) (lo' := [some (.ref 69), some (.int (Int32.ofNat m)), some (.int (Int32.ofNat n)), some (.int z), some (.int (b + 0)), some (.int (Int32.ofNat (k + 1))), some (.int (h_t S m))]) rfl rfl (i_add k 1) rfl ?_
            refine Pv.goto rfl ?_
            exact ih15 (k + 1, b + 0, G28, (some (.int (h_t S m)))) (⟨by omega, rt33, (RDR.S rd32 b3 hS), by rw [hb]; exact (Int32.add_zero _).trans (if_neg (fun q => absurd (of_decide_eq_true q) (Int32.not_lt.mpr c27))).symm, rd32⟩)
          · skip
            replace c27 := of_decide_eq_false c27
            refine Pv.lit rfl ?_
            refine Pv.goto rfl ?_
            refine Pv.bin (z := b + 1) rfl (rfl) ?_
            refine Pv.istore (lo' := [some (.ref 69), some (.int (Int32.ofNat m)), some (.int (Int32.ofNat n)), some (.int z), some (.int (b + 1)), some (.int (Int32.ofNat k)), some (.int (h_t S m))]) rfl rfl ?_
            refine Pv.aload rfl rfl ?_
            refine Pv.callV (as := [.ref 69]) (rest := []) rfl rfl rfl (g_back hx25) ?_
            rintro _ G34 ⟨rfl, x35, y36, z37⟩
            have rd38 := RT.bk rt23 x35 y36 z37
            have rt39 := RT.bkT rt23 x35 y36 z37
            refine (show Pv _ _ 102 [some (.ref 69), some (.int (Int32.ofNat m)), some (.int (Int32.ofNat n)), some (.int z), some (.int (b + 1)), some (.int (Int32.ofNat k)), some (.int (h_t S m))] [] G34 Q from ?_)
            refine Pv.iinc (y := Int32.ofNat (k + 1)) (lo' := [some (.ref 69), some (.int (Int32.ofNat m)), some (.int (Int32.ofNat n)), some (.int z), some (.int (b + 1)), some (.int (Int32.ofNat (k + 1))), some (.int (h_t S m))]) rfl rfl (i_add k 1) rfl ?_
            refine Pv.goto rfl ?_
            exact ih15 (k + 1, b + 1, G34, (some (.int (h_t S m)))) (⟨by omega, rt39, (RDR.S rd38 b3 hS), by rw [hb]; exact (if_pos (decide_eq_true (Int32.not_le.mp c27))).symm, rd38⟩)
      · skip
        replace c3 : decide (Int32.ofNat (t_g T) = 0) = true := by simpa using c3
        replace c3 := (i_eq (a := t_g T) (b := 0) (by omega) (by omega)).mp (of_decide_eq_true c3)
        refine Pv.lit rfl ?_
        exact Pv.ret rfl (by rw [hQ]; exact ⟨by unfold a_odds; rw [hm]; dsimp only; rw [hn]; dsimp only; rw [if_pos (by omega)], (RDR.rf).fp (Or.inl rfl)⟩)
set_option maxRecDepth 100000 in
set_option maxHeartbeats 4000000 in
theorem g_keep46 {F : FW} {m n : Nat} {S : Sh} {H : Nat → Sh} (hm : m ≤ 8) (hS : XS F m S) (hG : GW F) (hH : HSX F m n H) (hn : n < 8) (o : Option Value) (N : Nat) : Pv (ab_T L_X11_keep) N 46 [some (.ref 69), o] [] F (fun r F' => r = none ∧ FX (fun q => q = 77 ∨ q = 69) F F' ∧ (∀ j, F'.1 71 j = F.1 71 j) ∧ (∀ j, j ≠ 25 → F'.1 69 j = F.1 69 j) ∧ HSX F' m (n + 1) (fun j => if j < n then H j else S)) := by
  obtain ⟨Q, hQ⟩ : ∃ Q : Option Value → FW → Prop, Q = (fun r F' => r = none ∧ FX (fun q => q = 77 ∨ q = 69) F F' ∧ (∀ j, F'.1 71 j = F.1 71 j) ∧ (∀ j, j ≠ 25 → F'.1 69 j = F.1 69 j) ∧ HSX F' m (n + 1) (fun j => if j < n then H j else S)) := ⟨_, rfl⟩
  rw [← hQ]
  refine (show Pv (ab_T L_X11_keep) N 46 [some (.ref 69), o] [] F Q from ?_)
  refine Pv.lit rfl ?_
  refine Pv.istore (lo' := [some (.ref 69), some (.int 0)]) rfl rfl ?_
  refine Pv.lp (ι := Nat × FW) (lof := fun ⟨k, G⟩ => [some (.ref 69), some (.int (Int32.ofNat k))]) (Ff := fun ⟨k, G⟩ => G) (P := fun ⟨k, G⟩ => (k ≤ 133) ∧ (FX (fun q => q = 77 ∨ q = 69) F G) ∧ (G.1 69 25 = Int32.ofNat n) ∧ (∀ j, j < k → G.1 77 (133 * n + j) = F.1 71 (120 + j)) ∧ (∀ j, j < 133 * n → G.1 77 j = F.1 77 j) ∧ (∀ j, G.1 69 j = F.1 69 j)) ?_ (0, F) (⟨Nat.zero_le _, FX.rf, hH.1, fun j hj => absurd hj (Nat.not_lt_zero j), fun _ _ => rfl, fun _ => rfl⟩)
  rintro N1 hN2 ⟨k, G⟩ hi3 ih4
  refine (show Pv _ _ 48 [some (.ref 69), some (.int (Int32.ofNat k))] [] G Q from ?_)
  obtain ⟨hk, hxG, h25, hA, hB, hC⟩ := hi3
  have hx5 := hG.fx (P := fun q => q = 77 ∨ q = 69) hxG
  refine Pv.iloadS rfl rfl ?_
  refine Pv.lit rfl ?_
  refine Pv.icmp rfl (fun c6 => ?_) (fun c6 => ?_)
  · skip
    replace c6 := (i_le (a := 133) (b := k) (by omega) (by omega)).mp (of_decide_eq_true c6)
    refine Pv.aload rfl rfl ?_
    refine Pv.dup rfl ?_
    refine Pv.getI (z := Int32.ofNat n) rfl rfl (h25) ?_
    refine Pv.lit rfl ?_
    refine Pv.bin (z := Int32.ofNat (n + 1)) rfl (i_add n 1) ?_
    refine Pv.putI rfl rfl ?_
    refine Pv.vret rfl ?_
    rw [hQ]
    refine ⟨rfl, hxG.fp (Or.inr rfl), fun j => (fp_ne (Or.inl (by decide))).trans (hxG.1 71 j (by decide)), fun j c => (fp_ne (Or.inr c)).trans (hC j), fp_eq, by omega, fun j hj => ?_⟩
    dsimp only
    rcases Nat.lt_or_ge j n with q | q
    · rw [if_pos q]
      exact HSX.row hm (hH.2.2 j q) fun i hi => (fp_ne (Or.inl (by decide))).trans (hB _ (by omega))
    · rw [if_neg (by omega)]
      obtain rfl : j = n := by omega
      exact HSX.put hm hS fun i hi => (fp_ne (Or.inl (by decide))).trans (hA i (by omega))
  · skip
    replace c6 := mt (i_le (a := 133) (b := k) (by omega) (by omega)).mpr (of_decide_eq_false c6)
    refine Pv.aload rfl rfl ?_
    refine Pv.getR (v := .ref 77) rfl rfl (GW.at (a := 69) (k := 23) (b := 77) hx5 (by decide)) ?_
    refine Pv.lit rfl ?_
    refine Pv.aload rfl rfl ?_
    refine Pv.getI (z := Int32.ofNat n) rfl rfl (h25) ?_
    refine Pv.bin (z := Int32.ofNat (133 * n)) rfl (i_mul 133 n) ?_
    refine Pv.iload rfl rfl ?_
    refine Pv.bin (z := Int32.ofNat ((133 * n) + k)) rfl (i_add (133 * n) k) ?_
    refine Pv.aload rfl rfl ?_
    refine Pv.getR (v := .ref 71) rfl rfl (GW.at (a := 69) (k := 6) (b := 71) hx5 (by decide)) ?_
    refine Pv.lit rfl ?_
    refine Pv.iload rfl rfl ?_
    refine Pv.bin (z := Int32.ofNat (120 + k)) rfl (i_add 120 k) ?_
    refine Pv.ald (z := F.1 71 (120 + k)) rfl (by rw [i_toNat (by omega)]; exact hxG.1 71 _ (by decide)) ?_
    refine Pv.astk (k := (133 * n) + k) (z := F.1 71 (120 + k)) rfl (i_toNat (by omega)) (rfl) ?_
    refine Pv.iinc (y := Int32.ofNat (k + 1)) (lo' := [some (.ref 69), some (.int (Int32.ofNat (k + 1)))]) rfl rfl (i_add k 1) rfl ?_
    refine Pv.goto rfl ?_
    exact ih4 (k + 1, (fp G 77 ((133 * n) + k) (F.1 71 (120 + k)))) (⟨by omega, (hxG).fp (show 77 = 77 ∨ 77 = 69 by omega), (fp_ne (Or.inl (by decide))).trans (h25), fun j hj => Or.elim (Classical.em (j = k)) (fun e => by rw [e]; exact fp_eq) (fun e => (fp_ne (Or.inr (by omega))).trans (hA j (by omega))), fun j hj => (fp_ne (Or.inr (by omega))).trans (hB j hj), fun j => (fp_ne (Or.inl (by decide))).trans (hC j)⟩)
set_option maxRecDepth 100000 in
set_option maxHeartbeats 4000000 in
theorem g_keep {F : FW} {m n : Nat} {S : Sh} {H : Nat → Sh} (hm : m ≤ 8) (hS : XS F m S) (hG : GW F) (hH : HSX F m n H) : Pm Z_X11_keep [.ref 69] F (fun r F' => r = none ∧ FX (fun q => q = 77 ∨ q = 69) F F' ∧ (∀ j, F'.1 71 j = F.1 71 j) ∧ (∀ j, j ≠ 25 → F'.1 69 j = F.1 69 j) ∧ HSX F' m (m_kn n) (m_kH n H S)) := by
  refine Pm.of fun N => ?_
  obtain ⟨Q, hQ⟩ : ∃ Q : Option Value → FW → Prop, Q = (fun r F' => r = none ∧ FX (fun q => q = 77 ∨ q = 69) F F' ∧ (∀ j, F'.1 71 j = F.1 71 j) ∧ (∀ j, j ≠ 25 → F'.1 69 j = F.1 69 j) ∧ HSX F' m (m_kn n) (m_kH n H S)) := ⟨_, rfl⟩
  rw [← hQ]
  have h8 := hH.2.1
  refine (show Pv (ab_T L_X11_keep) N 0 [some (.ref 69), none] [] F Q from ?_)
  refine Pv.aload rfl rfl ?_
  refine Pv.getI (z := Int32.ofNat n) rfl rfl (hH.1) ?_
  refine Pv.lit rfl ?_
  refine Pv.icmp rfl (fun c1 => ?_) (fun c1 => ?_)
  · skip
    replace c1 : decide (Int32.ofNat n = 8) = false := by simpa using c1
    replace c1 := mt (i_eq (a := n) (b := 8) (by omega) (by omega)).mpr (of_decide_eq_false c1)
    refine (g_keep46 hm hS hG hH (by omega) none N).imp ?_
    rintro r F' ⟨e, x1, x2, x3, x4⟩
    rw [hQ]
    refine ⟨e, x1, x2, x3, ?_⟩
    unfold m_kn m_kH
    rw [if_pos (by omega)]
    rw [show (fun j => if n < 8 then (if j < n then H j else S) else if j < 7 then H (j + 1) else S) = fun j => if j < n then H j else S from funext fun j => if_pos (by omega)]
    exact x4
  · skip
    replace c1 : decide (Int32.ofNat n = 8) = true := by simpa using c1
    replace c1 := (i_eq (a := n) (b := 8) (by omega) (by omega)).mp (of_decide_eq_true c1)
    obtain rfl : n = 8 := by omega
    refine Pv.lit rfl ?_
    refine Pv.istore (lo' := [some (.ref 69), some (.int 0)]) rfl rfl ?_
    refine Pv.lp (ι := Nat × FW) (lof := fun ⟨k, G⟩ => [some (.ref 69), some (.int (Int32.ofNat k))]) (Ff := fun ⟨k, G⟩ => G) (P := fun ⟨k, G⟩ => (k ≤ 931) ∧ (FX (fun q => q = 77 ∨ q = 69) F G) ∧ (G.1 69 25 = Int32.ofNat 8) ∧ (∀ j, j < k → G.1 77 j = F.1 77 (j + 133)) ∧ (∀ j, k ≤ j → G.1 77 j = F.1 77 j) ∧ (∀ j, G.1 69 j = F.1 69 j)) ?_ (0, F) (⟨Nat.zero_le _, FX.rf, hH.1, fun j hj => absurd hj (Nat.not_lt_zero j), fun _ _ => rfl, fun _ => rfl⟩)
    rintro N2 hN3 ⟨k, G⟩ hi4 ih5
    refine (show Pv _ _ 11 [some (.ref 69), some (.int (Int32.ofNat k))] [] G Q from ?_)
    obtain ⟨hk, hxG, h25, hA, hB, hC⟩ := hi4
    have hx6 := hG.fx (P := fun q => q = 77 ∨ q = 69) hxG
    refine Pv.iloadS rfl rfl ?_
    refine Pv.lit rfl ?_
    refine Pv.icmp rfl (fun c7 => ?_) (fun c7 => ?_)
    · skip
      replace c7 := (i_le (a := 931) (b := k) (by omega) (by omega)).mp (of_decide_eq_true c7)
      refine Pv.aload rfl rfl ?_
      refine Pv.lit rfl ?_
      refine Pv.putI rfl rfl ?_
      have xg : FX (fun q => q = 77 ∨ q = 69) F (fp G 69 25 7) := hxG.fp (Or.inr rfl)
      have hHG : HSX (fp G 69 25 7) m 7 (fun j => H (j + 1)) := ⟨fp_eq, by omega, fun j hj => HSX.row hm (hH.2.2 (j + 1) (by omega)) fun i hi => (fp_ne (Or.inl (by decide))).trans ((hA _ (by omega)).trans (congrArg (F.1 77) (by omega)))⟩
      refine ((g_keep46 hm (hS.fx hm xg (by decide)) (hG.fx xg) hHG (by omega) _ N2).imp ?_)
      rintro r F' ⟨e, x1, x2, x3, x4⟩
      rw [hQ]
      exact ⟨e, xg.tr x1, fun j => (x2 j).trans (xg.1 71 j (by decide)), fun j c => (x3 j c).trans ((fp_ne (Or.inr c)).trans (hC j)), x4⟩
    · skip
      replace c7 := mt (i_le (a := 931) (b := k) (by omega) (by omega)).mpr (of_decide_eq_false c7)
      refine Pv.aload rfl rfl ?_
      refine Pv.getR (v := .ref 77) rfl rfl (GW.at (a := 69) (k := 23) (b := 77) hx6 (by decide)) ?_
      refine Pv.iload rfl rfl ?_
      refine Pv.aload rfl rfl ?_
      refine Pv.getR (v := .ref 77) rfl rfl (GW.at (a := 69) (k := 23) (b := 77) hx6 (by decide)) ?_
      refine Pv.iload rfl rfl ?_
      refine Pv.lit rfl ?_
      refine Pv.bin (z := Int32.ofNat (k + 133)) rfl (i_add k 133) ?_
      refine Pv.ald (z := F.1 77 (k + 133)) rfl (by rw [i_toNat (by omega)]; exact hB _ (by omega)) ?_
      refine Pv.astk (k := k) (z := F.1 77 (k + 133)) rfl (i_toNat (by omega)) (rfl) ?_
      refine Pv.iinc (y := Int32.ofNat (k + 1)) (lo' := [some (.ref 69), some (.int (Int32.ofNat (k + 1)))]) rfl rfl (i_add k 1) rfl ?_
      refine Pv.goto rfl ?_
      exact ih5 (k + 1, (fp G 77 k (F.1 77 (k + 133)))) (⟨by omega, (hxG).fp (show 77 = 77 ∨ 77 = 69 by omega), (fp_ne (Or.inl (by decide))).trans (h25), fun j hj => Or.elim (Classical.em (j = k)) (fun e => by rw [e]; exact fp_eq) (fun e => (fp_ne (Or.inr e)).trans (hA j (by omega))), fun j hj => (fp_ne (Or.inr (by omega))).trans (hB j (by omega)), fun j => (fp_ne (Or.inl (by decide))).trans (hC j)⟩)
set_option maxRecDepth 100000 in
set_option maxHeartbeats 4000000 in
theorem q_undo {F : FW} {T : St} {S : Sh} (hT : XT F T) (hS : XS F (t_m T) S) (hG : GW F) {n : Nat} {H : Nat → Sh} (hH : HSX F (t_m T) n H) : Pm Z_X11_undo [.ref 69] F (fun r F' => r = some (.int (if n = 0 then -1 else Int32.ofNat (n - 1))) ∧ RKX F F' ∧ HSX F' (t_m T) (n - 1) H ∧ XS F' (t_m T) (if n = 0 then S else H (n - 1))) := by
  refine Pm.of fun N => ?_
  obtain ⟨Q, hQ⟩ : ∃ Q : Option Value → FW → Prop, Q = (fun r F' => r = some (.int (if n = 0 then -1 else Int32.ofNat (n - 1))) ∧ RKX F F' ∧ HSX F' (t_m T) (n - 1) H ∧ XS F' (t_m T) (if n = 0 then S else H (n - 1))) := ⟨_, rfl⟩
  rw [← hQ]
  have b3 := hT.mb
  have b4 := hT.nb
  have b5 := hT.gb
  have b6 := m_from_lt S
  have b7 := hS.db
  have h8 := hH.2.1
  refine (show Pv (ab_T L_X11_undo) N 0 [some (.ref 69), none] [] F Q from ?_)
  refine Pv.aload rfl rfl ?_
  refine Pv.lit rfl ?_
  refine Pv.putI rfl rfl ?_
  refine Pv.aload rfl rfl ?_
  refine Pv.getI (z := Int32.ofNat n) rfl rfl ((fp_ne (Or.inr (by decide))).trans (hH.1)) ?_
  refine Pv.if0 rfl (fun c1 => ?_) (fun c1 => ?_)
  · skip
    replace c1 : decide (Int32.ofNat n = 0) = false := by simpa using c1
    replace c1 := mt (i_eq (a := n) (b := 0) (by omega) (by omega)).mpr (of_decide_eq_false c1)
    refine Pv.aload rfl rfl ?_
    refine Pv.dup rfl ?_
    refine Pv.getI (z := Int32.ofNat n) rfl rfl ((fp_ne (Or.inr (by decide))).trans (hH.1)) ?_
    refine Pv.lit rfl ?_
    refine Pv.bin (z := Int32.ofNat (n - 1)) rfl (i_subN (a := n) (b := 1) (by omega)) ?_
    refine Pv.putI rfl rfl ?_
    refine Pv.lit rfl ?_
    refine Pv.istore (lo' := [some (.ref 69), some (.int 0)]) rfl rfl ?_
    refine Pv.lp (ι := Nat × FW) (lof := fun ⟨k, G⟩ => [some (.ref 69), some (.int (Int32.ofNat k))]) (Ff := fun ⟨k, G⟩ => G) (P := fun ⟨k, G⟩ => (k ≤ 133) ∧ (FX (fun q => q = 69 ∨ q = 71) F G) ∧ (G.1 69 25 = Int32.ofNat (n - 1)) ∧ (∀ j, j < k → G.1 71 (120 + j) = F.1 77 (133 * (n - 1) + j)) ∧ (∀ j, j < 120 ∨ 253 ≤ j → G.1 71 j = F.1 71 j) ∧ (∀ j, j ≠ 0 → j ≠ 25 → G.1 69 j = F.1 69 j)) ?_ (0, (fp (fp F 69 0 0) 69 25 (Int32.ofNat (n - 1)))) (⟨Nat.zero_le _, (((FX.rf (P := fun q => q = 69 ∨ q = 71))).fp (Or.inl rfl)).fp (Or.inl rfl), fp_eq, fun j hj => absurd hj (Nat.not_lt_zero j), fun j _ => (fp_ne (Or.inl (by decide))).trans (fp_ne (Or.inl (by decide))), fun j h1 h2 => (fp_ne (Or.inr h2)).trans (fp_ne (Or.inr h1))⟩)
    rintro N2 hN3 ⟨k, G⟩ hi4 ih5
    refine (show Pv _ _ 26 [some (.ref 69), some (.int (Int32.ofNat k))] [] G Q from ?_)
    obtain ⟨hk, hxG, h25, hA, hB, hC⟩ := hi4
    have hx6 := hG.fx hxG
    refine Pv.iloadS rfl rfl ?_
    refine Pv.lit rfl ?_
    refine Pv.icmp rfl (fun c7 => ?_) (fun c7 => ?_)
    · skip
      replace c7 := (i_le (a := 133) (b := k) (by omega) (by omega)).mp (of_decide_eq_true c7)
      refine Pv.aload rfl rfl ?_
      refine Pv.getI (z := Int32.ofNat (n - 1)) rfl rfl (h25) ?_
      exact Pv.ret rfl (by rw [hQ]; exact ⟨by rw [if_neg (by omega)], ⟨hxG.wd (fun q c => c.elim Or.inl (fun e => Or.inr (Or.inl e))), fun j h1 h2 h3 h4 => hC j h1 h3, hB⟩, ⟨h25, by have := hH.2.1; omega, fun j hj => HSX.row b3 (hH.2.2 j (by omega)) fun i _ => hxG.1 77 _ (by decide)⟩, by rw [if_neg (by omega)]; exact HSX.get hH b3 (by omega) (fun q h1 h2 => (congrArg (G.1 71) (by omega)).trans ((hA (q - 120) (by omega)).trans (congrArg (F.1 77) (by omega))))⟩)
    · skip
      replace c7 := mt (i_le (a := 133) (b := k) (by omega) (by omega)).mpr (of_decide_eq_false c7)
      refine Pv.aload rfl rfl ?_
      refine Pv.getR (v := .ref 71) rfl rfl (GW.at (a := 69) (k := 6) (b := 71) hx6 (by decide)) ?_
      refine Pv.lit rfl ?_
      refine Pv.iload rfl rfl ?_
      refine Pv.bin (z := Int32.ofNat (120 + k)) rfl (i_add 120 k) ?_
      refine Pv.aload rfl rfl ?_
      refine Pv.getR (v := .ref 77) rfl rfl (GW.at (a := 69) (k := 23) (b := 77) hx6 (by decide)) ?_
      refine Pv.lit rfl ?_
      refine Pv.aload rfl rfl ?_
      refine Pv.getI (z := Int32.ofNat (n - 1)) rfl rfl (h25) ?_
      refine Pv.bin (z := Int32.ofNat (133 * (n - 1))) rfl (i_mul 133 (n - 1)) ?_
      refine Pv.iload rfl rfl ?_
      refine Pv.bin (z := Int32.ofNat ((133 * (n - 1)) + k)) rfl (i_add (133 * (n - 1)) k) ?_
      refine Pv.ald (z := F.1 77 ((133 * (n - 1)) + k)) rfl (by rw [i_toNat (by omega)]; exact hxG.1 77 _ (by decide)) ?_
      refine Pv.astk (k := 120 + k) (z := F.1 77 ((133 * (n - 1)) + k)) rfl (i_toNat (by omega)) (rfl) ?_
      refine Pv.iinc (y := Int32.ofNat (k + 1)) (lo' := [some (.ref 69), some (.int (Int32.ofNat (k + 1)))]) rfl rfl (i_add k 1) rfl ?_
      refine Pv.goto rfl ?_
      exact ih5 (k + 1, (fp G 71 (120 + k) (F.1 77 ((133 * (n - 1)) + k)))) (⟨by omega, hxG.fp (Or.inr rfl), (fp_ne (Or.inl (by decide))).trans h25, fun j hj => Or.elim (Classical.em (j = k)) (fun e => by rw [e]; exact fp_eq) (fun e => (fp_ne (Or.inr (by omega))).trans (hA j (by omega))), fun j hj => (fp_ne (Or.inr (by omega))).trans (hB j hj), fun j h1 h2 => (fp_ne (Or.inl (by decide))).trans (hC j h1 h2)⟩)
  · skip
    replace c1 : decide (Int32.ofNat n = 0) = true := by simpa using c1
    replace c1 := (i_eq (a := n) (b := 0) (by omega) (by omega)).mp (of_decide_eq_true c1)
    refine Pv.lit rfl ?_
    exact Pv.ret rfl (by rw [hQ]; exact ⟨by rw [if_pos (by omega)], RKX.fp RKX.rf (Or.inl rfl), HSX.same (by rw [show n - 1 = n by omega]; exact hH) b3 (fp_ne (Or.inr (by decide))) (fun k => fp_ne (Or.inl (by decide))), by rw [if_pos (by omega)]; exact XS.sd hS b3 (by decide)⟩)
set_option maxRecDepth 100000 in
set_option maxHeartbeats 4000000 in
theorem q_hoard {F : FW} {T : St} {S : Sh} (hT : XT F T) (hS : XS F (t_m T) S) (hG : GW F) {n : Nat} {H : Nat → Sh} (hH : HSX F (t_m T) n H) (x y z : Int32) : Pm Z_X11_hoard [.ref 69, .int x, .int y, .int z] F (fun r F' => r = some (.int (a_act 0 T S x y z)) ∧ RKX F F' ∧ HKX (decide (a_act 0 T S x y z = 0)) F' (t_m T) n H S ∧ XS F' (t_m T) (m_act 0 T S x y z)) := by
  refine Pm.of fun N => ?_
  obtain ⟨Q, hQ⟩ : ∃ Q : Option Value → FW → Prop, Q = (fun r F' => r = some (.int (a_act 0 T S x y z)) ∧ RKX F F' ∧ HKX (decide (a_act 0 T S x y z = 0)) F' (t_m T) n H S ∧ XS F' (t_m T) (m_act 0 T S x y z)) := ⟨_, rfl⟩
  rw [← hQ]
  have b3 := hT.mb
  have b4 := hT.nb
  have b5 := hT.gb
  have b6 := m_from_lt S
  have b7 := hS.db
  refine (show Pv (ab_T (L_X11_hoard Z_X11_isPlace Z_X11_isIn Z_X11_cell Z_X11_whyHoard Z_X11_keep Z_X11_hoards)) N 0 [some (.ref 69), some (.int x), some (.int y), some (.int z)] [] F Q from ?_)
  refine Pv.aload rfl rfl ?_
  refine Pv.lit rfl ?_
  refine Pv.putI rfl rfl ?_
  refine Pv.aload rfl rfl ?_
  refine Pv.iload rfl rfl ?_
  refine Pv.iload rfl rfl ?_
  refine Pv.callVI (as := [.ref 69, .int x, .int y]) (rest := []) (z := b2i ((nd (t_g T) x).isSome && (nd 2 y).isSome)) rfl rfl rfl (q_isPlace (hT.fx (P := fun q => q = 69) (((FX.rf (P := fun q => q = 69))).fp rfl) (by decide)) (hG.fx (P := fun _ => True) (((FX.rf (P := fun _ => True))).fp trivial)) x y) ?_
  refine Pv.if0 rfl (fun c1 => ?_) (fun c1 => ?_)
  · skip
    replace c1 := of_decide_eq_true c1
    replace c1 := b2z.mp c1
    refine Pv.lit rfl ?_
    have e : a_act 0 T S x y z = -1 := by unfold a_act; rw [aGS_f c1]
    exact Pv.ret rfl (by rw [hQ]; exact ⟨by rw [e], (RKX.fp RKX.rf (Or.inl rfl)), HKX.f (HSX.same hH b3 (fp_ne (Or.inr (by decide))) (fun k => fp_ne (Or.inl (by decide)))) (by rw [e]; rfl), by rw [m_act_f c1]; exact XS.sd hS b3 (by decide)⟩)
  · skip
    replace c1 := of_decide_eq_false c1
    replace c1 := b2n.mp c1
    obtain ⟨g, s, hg, hs, hgl, hsl, rfl, rfl⟩ := gs_t c1
    refine Pv.iload rfl rfl ?_
    refine Pv.lit rfl ?_
    refine Pv.lit rfl ?_
    refine Pv.callI (as := [.int z, .int 1, .int 250]) (rest := []) (z := b2i (decide (1 ≤ z) && decide (z ≤ 250))) rfl rfl rfl (q_isIn z 1 250) ?_
    refine Pv.if0 rfl (fun c2 => ?_) (fun c2 => ?_)
    · skip
      replace c2 : decide (b2i (decide (1 ≤ z) && decide (z ≤ 250)) = 0) = false := by simpa using c2
      replace c2 := of_decide_eq_false c2
      replace c2 := b2n.mp c2
      obtain ⟨k, hn, hna, hnb, rfl⟩ := ndr_t ((ndr_in (a := 1) (b := 250) (by omega) (by omega)).symm.trans c2)
      refine Pv.aload rfl rfl ?_
      refine Pv.iload rfl rfl ?_
      refine Pv.iload rfl rfl ?_
      refine Pv.callI (as := [.int (Int32.ofNat g), .int (Int32.ofNat s)]) (rest := [.ref 69]) (z := Int32.ofNat (2 * g + s)) rfl rfl rfl (g_cell (g := g) (s := s)) ?_
      refine Pv.iload rfl rfl ?_
      refine Pv.callVI (as := [.ref 69, .int (Int32.ofNat (2 * g + s)), .int (Int32.ofNat k)]) (rest := []) (z := m_why 0 S (2 * g + s) (Int32.ofNat k)) rfl rfl rfl (g_whyHoard (k := 2 * g + s) (n := Int32.ofNat k) (XS.sd (a := 69) (k := 0) (v := 0) hS b3 (by decide)) (GW.fpp (a := 69) (k := 0) (v := 0) hG) (by omega)) ?_
      refine Pv.if0 rfl (fun c3 => ?_) (fun c3 => ?_)
      · skip
        replace c3 := of_decide_eq_true c3
        refine Pv.aload rfl rfl ?_
        refine Pv.callV (as := [.ref 69]) (rest := []) rfl rfl rfl (g_keep b3 (XS.sd (a := 69) (k := 0) (v := 0) hS b3 (by decide)) (GW.fpp (a := 69) (k := 0) (v := 0) hG) (HSX.same hH b3 (fp_ne (Or.inr (by decide))) (fun k => fp_ne (Or.inl (by decide))))) ?_
        rintro _ G4 ⟨rfl, x5, x6, x7, hk8⟩
        have rk9 := RKX.kp (RKX.fp RKX.rf (Or.inl rfl)) x5 x6 x7
        have hs10 := XS.of (XS.sd (a := 69) (k := 0) (v := 0) hS b3 (by decide)) b3 (fun k _ _ => x6 k)
        have hx11 := RKX.T rk9 hT
        have hx12 := RKX.G rk9 hG
        refine (show Pv _ _ 46 [some (.ref 69), some (.int (Int32.ofNat g)), some (.int (Int32.ofNat s)), some (.int (Int32.ofNat k))] [] G4 Q from ?_)
        refine Pv.aload rfl rfl ?_
        refine Pv.iload rfl rfl ?_
        refine Pv.iload rfl rfl ?_
        refine Pv.callI (as := [.int (Int32.ofNat g), .int (Int32.ofNat s)]) (rest := [.ref 69]) (z := Int32.ofNat (2 * g + s)) rfl rfl rfl (g_cell (g := g) (s := s)) ?_
        refine Pv.iload rfl rfl ?_
        refine Pv.callVU (as := [.ref 69, .int (Int32.ofNat (2 * g + s)), .int (Int32.ofNat k)]) (rest := []) rfl rfl rfl (g_hoards (k := 2 * g + s) (n := Int32.ofNat k) hs10 hx12 (by omega)) ?_
        refine Pv.lit rfl ?_
        have e : a_act 0 T S (Int32.ofNat g) (Int32.ofNat s) (Int32.ofNat k) = m_why 0 S (2 * g + s) (Int32.ofNat k) := by unfold a_act; rw [aGS_t hg hs, hn]
        have cw : m_why 0 S (2 * g + s) (Int32.ofNat k) ≤ 0 := c3
        exact Pv.ret rfl (by rw [hQ]; exact ⟨by rw [e, (show m_why 0 S (2 * g + s) (Int32.ofNat k) = 0 from (why_le (d := 0) (by decide)).mp cw)], (RKX.st (RKX.st rk9 (by omega) (by omega)) (by omega) (by omega)), HKX.t (HSX.same hk8 b3 ((fp_ne (Or.inl (by decide))).trans (fp_ne (Or.inl (by decide)))) (fun k => (fp_ne (Or.inl (by decide))).trans (fp_ne (Or.inl (by decide))))) (by rw [e]; exact decide_eq_true (show m_why 0 S (2 * g + s) (Int32.ofNat k) = 0 from (why_le (d := 0) (by decide)).mp cw)), by rw [m_act_y hg hs hn, try_y (d := 0) (show m_why 0 S (2 * g + s) (Int32.ofNat k) = 0 from (why_le (d := 0) (by decide)).mp cw)]; exact XS.do0 hs10 b3 (by omega)⟩)
      · skip
        replace c3 := of_decide_eq_false c3
        refine Pv.lit rfl ?_
        have e : a_act 0 T S (Int32.ofNat g) (Int32.ofNat s) (Int32.ofNat k) = m_why 0 S (2 * g + s) (Int32.ofNat k) := by unfold a_act; rw [aGS_t hg hs, hn]
        have cw : ¬ m_why 0 S (2 * g + s) (Int32.ofNat k) ≤ 0 := c3
        exact Pv.ret rfl (by rw [hQ]; exact ⟨by rw [e, whyh_1 (d := 0) (by decide) cw], (RKX.fp RKX.rf (Or.inl rfl)), HKX.f (HSX.same hH b3 (fp_ne (Or.inr (by decide))) (fun k => fp_ne (Or.inl (by decide)))) (by rw [e]; exact decide_eq_false (fun q => cw ((why_le (d := 0) (by decide)).mpr q))), by rw [m_act_y hg hs hn, try_n (d := 0) (fun q => cw ((why_le (d := 0) (by decide)).mpr q))]; exact XS.sd hS b3 (by decide)⟩)
    · skip
      replace c2 : decide (b2i (decide (1 ≤ z) && decide (z ≤ 250)) = 0) = true := by simpa using c2
      replace c2 := of_decide_eq_true c2
      replace c2 := b2z.mp c2
      refine Pv.lit rfl ?_
      have e : a_act 0 T S (Int32.ofNat g) (Int32.ofNat s) z = -1 := by unfold a_act; rw [aGS_t hg hs, ndr_f ((ndr_in (a := 1) (b := 250) (by omega) (by omega)).symm.trans c2)]
      exact Pv.ret rfl (by rw [hQ]; exact ⟨by rw [e], (RKX.fp RKX.rf (Or.inl rfl)), HKX.f (HSX.same hH b3 (fp_ne (Or.inr (by decide))) (fun k => fp_ne (Or.inl (by decide)))) (by rw [e]; rfl), by rw [m_act_n hg hs (ndr_f ((ndr_in (a := 1) (b := 250) (by omega) (by omega)).symm.trans c2))]; exact XS.sd hS b3 (by decide)⟩)
set_option maxRecDepth 100000 in
set_option maxHeartbeats 4000000 in
theorem q_bare {F : FW} {T : St} {S : Sh} (hT : XT F T) (hS : XS F (t_m T) S) (hG : GW F) {n : Nat} {H : Nat → Sh} (hH : HSX F (t_m T) n H) (x y z : Int32) : Pm Z_X11_bare [.ref 69, .int x, .int y, .int z] F (fun r F' => r = some (.int (a_act 1 T S x y z)) ∧ RKX F F' ∧ HKX (decide (a_act 1 T S x y z = 0)) F' (t_m T) n H S ∧ XS F' (t_m T) (m_act 1 T S x y z)) := by
  refine Pm.of fun N => ?_
  obtain ⟨Q, hQ⟩ : ∃ Q : Option Value → FW → Prop, Q = (fun r F' => r = some (.int (a_act 1 T S x y z)) ∧ RKX F F' ∧ HKX (decide (a_act 1 T S x y z = 0)) F' (t_m T) n H S ∧ XS F' (t_m T) (m_act 1 T S x y z)) := ⟨_, rfl⟩
  rw [← hQ]
  have b3 := hT.mb
  have b4 := hT.nb
  have b5 := hT.gb
  have b6 := m_from_lt S
  have b7 := hS.db
  refine (show Pv (ab_T (L_X11_bare Z_X11_isPlace Z_X11_isIn Z_X11_cell Z_X11_whyBare Z_X11_keep Z_X11_hoards)) N 0 [some (.ref 69), some (.int x), some (.int y), some (.int z), none] [] F Q from ?_)
  refine Pv.aload rfl rfl ?_
  refine Pv.lit rfl ?_
  refine Pv.putI rfl rfl ?_
  refine Pv.aload rfl rfl ?_
  refine Pv.iload rfl rfl ?_
  refine Pv.iload rfl rfl ?_
  refine Pv.callVI (as := [.ref 69, .int x, .int y]) (rest := []) (z := b2i ((nd (t_g T) x).isSome && (nd 2 y).isSome)) rfl rfl rfl (q_isPlace (hT.fx (P := fun q => q = 69) (((FX.rf (P := fun q => q = 69))).fp rfl) (by decide)) (hG.fx (P := fun _ => True) (((FX.rf (P := fun _ => True))).fp trivial)) x y) ?_
  refine Pv.if0 rfl (fun c1 => ?_) (fun c1 => ?_)
  · skip
    replace c1 := of_decide_eq_true c1
    replace c1 := b2z.mp c1
    refine Pv.lit rfl ?_
    have e : a_act 1 T S x y z = -1 := by unfold a_act; rw [aGS_f c1]
    exact Pv.ret rfl (by rw [hQ]; exact ⟨by rw [e], (RKX.fp RKX.rf (Or.inl rfl)), HKX.f (HSX.same hH b3 (fp_ne (Or.inr (by decide))) (fun k => fp_ne (Or.inl (by decide)))) (by rw [e]; rfl), by rw [m_act_f c1]; exact XS.sd hS b3 (by decide)⟩)
  · skip
    replace c1 := of_decide_eq_false c1
    replace c1 := b2n.mp c1
    obtain ⟨g, s, hg, hs, hgl, hsl, rfl, rfl⟩ := gs_t c1
    refine Pv.iload rfl rfl ?_
    refine Pv.lit rfl ?_
    refine Pv.lit rfl ?_
    refine Pv.callI (as := [.int z, .int 1, .int 250]) (rest := []) (z := b2i (decide (1 ≤ z) && decide (z ≤ 250))) rfl rfl rfl (q_isIn z 1 250) ?_
    refine Pv.if0 rfl (fun c2 => ?_) (fun c2 => ?_)
    · skip
      replace c2 : decide (b2i (decide (1 ≤ z) && decide (z ≤ 250)) = 0) = false := by simpa using c2
      replace c2 := of_decide_eq_false c2
      replace c2 := b2n.mp c2
      obtain ⟨k, hn, hna, hnb, rfl⟩ := ndr_t ((ndr_in (a := 1) (b := 250) (by omega) (by omega)).symm.trans c2)
      refine Pv.aload rfl rfl ?_
      refine Pv.iload rfl rfl ?_
      refine Pv.iload rfl rfl ?_
      refine Pv.callI (as := [.int (Int32.ofNat g), .int (Int32.ofNat s)]) (rest := [.ref 69]) (z := Int32.ofNat (2 * g + s)) rfl rfl rfl (g_cell (g := g) (s := s)) ?_
      refine Pv.iload rfl rfl ?_
      refine Pv.callVI (as := [.ref 69, .int (Int32.ofNat (2 * g + s)), .int (Int32.ofNat k)]) (rest := []) (z := m_why 1 S (2 * g + s) (Int32.ofNat k)) rfl rfl rfl (g_whyBare (k := 2 * g + s) (n := Int32.ofNat k) (XS.sd (a := 69) (k := 0) (v := 0) hS b3 (by decide)) (GW.fpp (a := 69) (k := 0) (v := 0) hG) (by omega)) ?_
      refine Pv.istore (lo' := [some (.ref 69), some (.int (Int32.ofNat g)), some (.int (Int32.ofNat s)), some (.int (Int32.ofNat k)), some (.int (m_why 1 S (2 * g + s) (Int32.ofNat k)))]) rfl rfl ?_
      refine Pv.iload rfl rfl ?_
      refine Pv.if0 rfl (fun c3 => ?_) (fun c3 => ?_)
      · skip
        replace c3 := of_decide_eq_true c3
        refine Pv.aload rfl rfl ?_
        refine Pv.callV (as := [.ref 69]) (rest := []) rfl rfl rfl (g_keep b3 (XS.sd (a := 69) (k := 0) (v := 0) hS b3 (by decide)) (GW.fpp (a := 69) (k := 0) (v := 0) hG) (HSX.same hH b3 (fp_ne (Or.inr (by decide))) (fun k => fp_ne (Or.inl (by decide))))) ?_
        rintro _ G4 ⟨rfl, x5, x6, x7, hk8⟩
        have rk9 := RKX.kp (RKX.fp RKX.rf (Or.inl rfl)) x5 x6 x7
        have hs10 := XS.of (XS.sd (a := 69) (k := 0) (v := 0) hS b3 (by decide)) b3 (fun k _ _ => x6 k)
        have hx11 := RKX.T rk9 hT
        have hx12 := RKX.G rk9 hG
        refine (show Pv _ _ 51 [some (.ref 69), some (.int (Int32.ofNat g)), some (.int (Int32.ofNat s)), some (.int (Int32.ofNat k)), some (.int (m_why 1 S (2 * g + s) (Int32.ofNat k)))] [] G4 Q from ?_)
        refine Pv.aload rfl rfl ?_
        refine Pv.iload rfl rfl ?_
        refine Pv.iload rfl rfl ?_
        refine Pv.callI (as := [.int (Int32.ofNat g), .int (Int32.ofNat s)]) (rest := [.ref 69]) (z := Int32.ofNat (2 * g + s)) rfl rfl rfl (g_cell (g := g) (s := s)) ?_
        refine Pv.iload rfl rfl ?_
        refine Pv.un (z := -(Int32.ofNat k)) rfl (rfl) ?_
        refine Pv.callVU (as := [.ref 69, .int (Int32.ofNat (2 * g + s)), .int (-(Int32.ofNat k))]) (rest := []) rfl rfl rfl (g_hoards (k := 2 * g + s) (n := -(Int32.ofNat k)) hs10 hx12 (by omega)) ?_
        refine Pv.lit rfl ?_
        have e : a_act 1 T S (Int32.ofNat g) (Int32.ofNat s) (Int32.ofNat k) = m_why 1 S (2 * g + s) (Int32.ofNat k) := by unfold a_act; rw [aGS_t hg hs, hn]
        have cw : m_why 1 S (2 * g + s) (Int32.ofNat k) ≤ 0 := c3
        exact Pv.ret rfl (by rw [hQ]; exact ⟨by rw [e, (show m_why 1 S (2 * g + s) (Int32.ofNat k) = 0 from (why_le (d := 1) (by decide)).mp cw)], (RKX.st (RKX.st rk9 (by omega) (by omega)) (by omega) (by omega)), HKX.t (HSX.same hk8 b3 ((fp_ne (Or.inl (by decide))).trans (fp_ne (Or.inl (by decide)))) (fun k => (fp_ne (Or.inl (by decide))).trans (fp_ne (Or.inl (by decide))))) (by rw [e]; exact decide_eq_true (show m_why 1 S (2 * g + s) (Int32.ofNat k) = 0 from (why_le (d := 1) (by decide)).mp cw)), by rw [m_act_y hg hs hn, try_y (d := 1) (show m_why 1 S (2 * g + s) (Int32.ofNat k) = 0 from (why_le (d := 1) (by decide)).mp cw)]; exact XS.do1 hs10 b3 (by omega)⟩)
      · skip
        replace c3 := of_decide_eq_false c3
        refine Pv.iload rfl rfl ?_
        have e : a_act 1 T S (Int32.ofNat g) (Int32.ofNat s) (Int32.ofNat k) = m_why 1 S (2 * g + s) (Int32.ofNat k) := by unfold a_act; rw [aGS_t hg hs, hn]
        have cw : ¬ m_why 1 S (2 * g + s) (Int32.ofNat k) ≤ 0 := c3
        exact Pv.ret rfl (by rw [hQ]; exact ⟨by rw [e], (RKX.fp RKX.rf (Or.inl rfl)), HKX.f (HSX.same hH b3 (fp_ne (Or.inr (by decide))) (fun k => fp_ne (Or.inl (by decide)))) (by rw [e]; exact decide_eq_false (fun q => cw ((why_le (d := 1) (by decide)).mpr q))), by rw [m_act_y hg hs hn, try_n (d := 1) (fun q => cw ((why_le (d := 1) (by decide)).mpr q))]; exact XS.sd hS b3 (by decide)⟩)
    · skip
      replace c2 : decide (b2i (decide (1 ≤ z) && decide (z ≤ 250)) = 0) = true := by simpa using c2
      replace c2 := of_decide_eq_true c2
      replace c2 := b2z.mp c2
      refine Pv.lit rfl ?_
      have e : a_act 1 T S (Int32.ofNat g) (Int32.ofNat s) z = -1 := by unfold a_act; rw [aGS_t hg hs, ndr_f ((ndr_in (a := 1) (b := 250) (by omega) (by omega)).symm.trans c2)]
      exact Pv.ret rfl (by rw [hQ]; exact ⟨by rw [e], (RKX.fp RKX.rf (Or.inl rfl)), HKX.f (HSX.same hH b3 (fp_ne (Or.inr (by decide))) (fun k => fp_ne (Or.inl (by decide)))) (by rw [e]; rfl), by rw [m_act_n hg hs (ndr_f ((ndr_in (a := 1) (b := 250) (by omega) (by omega)).symm.trans c2))]; exact XS.sd hS b3 (by decide)⟩)
set_option maxRecDepth 100000 in
set_option maxHeartbeats 4000000 in
theorem q_waste {F : FW} {T : St} {S : Sh} (hT : XT F T) (hS : XS F (t_m T) S) (hG : GW F) {n : Nat} {H : Nat → Sh} (hH : HSX F (t_m T) n H) (x y z : Int32) : Pm Z_X11_waste [.ref 69, .int x, .int y, .int z] F (fun r F' => r = some (.int (a_act 2 T S x y z)) ∧ RKX F F' ∧ HKX (decide (a_act 2 T S x y z = 0)) F' (t_m T) n H S ∧ XS F' (t_m T) (m_act 2 T S x y z)) := by
  refine Pm.of fun N => ?_
  obtain ⟨Q, hQ⟩ : ∃ Q : Option Value → FW → Prop, Q = (fun r F' => r = some (.int (a_act 2 T S x y z)) ∧ RKX F F' ∧ HKX (decide (a_act 2 T S x y z = 0)) F' (t_m T) n H S ∧ XS F' (t_m T) (m_act 2 T S x y z)) := ⟨_, rfl⟩
  rw [← hQ]
  have b3 := hT.mb
  have b4 := hT.nb
  have b5 := hT.gb
  have b6 := m_from_lt S
  have b7 := hS.db
  refine (show Pv (ab_T (L_X11_waste Z_X11_isPlace Z_X11_isIn Z_X11_cell Z_X11_whyHoard Z_X11_keep)) N 0 [some (.ref 69), some (.int x), some (.int y), some (.int z)] [] F Q from ?_)
  refine Pv.aload rfl rfl ?_
  refine Pv.lit rfl ?_
  refine Pv.putI rfl rfl ?_
  refine Pv.aload rfl rfl ?_
  refine Pv.iload rfl rfl ?_
  refine Pv.iload rfl rfl ?_
  refine Pv.callVI (as := [.ref 69, .int x, .int y]) (rest := []) (z := b2i ((nd (t_g T) x).isSome && (nd 2 y).isSome)) rfl rfl rfl (q_isPlace (hT.fx (P := fun q => q = 69) (((FX.rf (P := fun q => q = 69))).fp rfl) (by decide)) (hG.fx (P := fun _ => True) (((FX.rf (P := fun _ => True))).fp trivial)) x y) ?_
  refine Pv.if0 rfl (fun c1 => ?_) (fun c1 => ?_)
  · skip
    replace c1 := of_decide_eq_true c1
    replace c1 := b2z.mp c1
    refine Pv.lit rfl ?_
    have e : a_act 2 T S x y z = -1 := by unfold a_act; rw [aGS_f c1]
    exact Pv.ret rfl (by rw [hQ]; exact ⟨by rw [e], (RKX.fp RKX.rf (Or.inl rfl)), HKX.f (HSX.same hH b3 (fp_ne (Or.inr (by decide))) (fun k => fp_ne (Or.inl (by decide)))) (by rw [e]; rfl), by rw [m_act_f c1]; exact XS.sd hS b3 (by decide)⟩)
  · skip
    replace c1 := of_decide_eq_false c1
    replace c1 := b2n.mp c1
    obtain ⟨g, s, hg, hs, hgl, hsl, rfl, rfl⟩ := gs_t c1
    refine Pv.iload rfl rfl ?_
    refine Pv.lit rfl ?_
    refine Pv.lit rfl ?_
    refine Pv.callI (as := [.int z, .int 1, .int 250]) (rest := []) (z := b2i (decide (1 ≤ z) && decide (z ≤ 250))) rfl rfl rfl (q_isIn z 1 250) ?_
    refine Pv.if0 rfl (fun c2 => ?_) (fun c2 => ?_)
    · skip
      replace c2 : decide (b2i (decide (1 ≤ z) && decide (z ≤ 250)) = 0) = false := by simpa using c2
      replace c2 := of_decide_eq_false c2
      replace c2 := b2n.mp c2
      obtain ⟨k, hn, hna, hnb, rfl⟩ := ndr_t ((ndr_in (a := 1) (b := 250) (by omega) (by omega)).symm.trans c2)
      refine Pv.aload rfl rfl ?_
      refine Pv.iload rfl rfl ?_
      refine Pv.iload rfl rfl ?_
      refine Pv.callI (as := [.int (Int32.ofNat g), .int (Int32.ofNat s)]) (rest := [.ref 69]) (z := Int32.ofNat (2 * g + s)) rfl rfl rfl (g_cell (g := g) (s := s)) ?_
      refine Pv.iload rfl rfl ?_
      refine Pv.callVI (as := [.ref 69, .int (Int32.ofNat (2 * g + s)), .int (Int32.ofNat k)]) (rest := []) (z := m_why 0 S (2 * g + s) (Int32.ofNat k)) rfl rfl rfl (g_whyHoard (k := 2 * g + s) (n := Int32.ofNat k) (XS.sd (a := 69) (k := 0) (v := 0) hS b3 (by decide)) (GW.fpp (a := 69) (k := 0) (v := 0) hG) (by omega)) ?_
      refine Pv.if0 rfl (fun c3 => ?_) (fun c3 => ?_)
      · skip
        replace c3 := of_decide_eq_true c3
        refine Pv.aload rfl rfl ?_
        refine Pv.callV (as := [.ref 69]) (rest := []) rfl rfl rfl (g_keep b3 (XS.sd (a := 69) (k := 0) (v := 0) hS b3 (by decide)) (GW.fpp (a := 69) (k := 0) (v := 0) hG) (HSX.same hH b3 (fp_ne (Or.inr (by decide))) (fun k => fp_ne (Or.inl (by decide))))) ?_
        rintro _ G4 ⟨rfl, x5, x6, x7, hk8⟩
        have rk9 := RKX.kp (RKX.fp RKX.rf (Or.inl rfl)) x5 x6 x7
        have hs10 := XS.of (XS.sd (a := 69) (k := 0) (v := 0) hS b3 (by decide)) b3 (fun k _ _ => x6 k)
        have hx11 := RKX.T rk9 hT
        have hx12 := RKX.G rk9 hG
        refine (show Pv _ _ 46 [some (.ref 69), some (.int (Int32.ofNat g)), some (.int (Int32.ofNat s)), some (.int (Int32.ofNat k))] [] G4 Q from ?_)
        refine Pv.aload rfl rfl ?_
        refine Pv.getR (v := .ref 71) rfl rfl (GW.at (a := 69) (k := 6) (b := 71) hx12 (by decide)) ?_
        refine Pv.lit rfl ?_
        refine Pv.iload rfl rfl ?_
        refine Pv.iload rfl rfl ?_
        refine Pv.callI (as := [.int (Int32.ofNat g), .int (Int32.ofNat s)]) (rest := [.int 124, .ref 71]) (z := Int32.ofNat (2 * g + s)) rfl rfl rfl (g_cell (g := g) (s := s)) ?_
        refine Pv.bin (z := Int32.ofNat (124 + (2 * g + s))) rfl (i_add 124 (2 * g + s)) ?_
        refine Pv.dup2 rfl ?_
        refine Pv.ald (z := h_s S (2 * g + s)) rfl (by rw [i_toNat (by omega)]; exact hs10.s _ (by omega)) ?_
        refine Pv.iload rfl rfl ?_
        refine Pv.bin (z := (h_s S (2 * g + s)) - (Int32.ofNat k)) rfl (rfl) ?_
        refine Pv.astk (k := 124 + (2 * g + s)) (z := (h_s S (2 * g + s)) - (Int32.ofNat k)) rfl (i_toNat (by omega)) (rfl) ?_
        refine Pv.lit rfl ?_
        have e : a_act 2 T S (Int32.ofNat g) (Int32.ofNat s) (Int32.ofNat k) = m_why 2 S (2 * g + s) (Int32.ofNat k) := by unfold a_act; rw [aGS_t hg hs, hn]
        have cw : m_why 2 S (2 * g + s) (Int32.ofNat k) ≤ 0 := c3
        exact Pv.ret rfl (by rw [hQ]; exact ⟨by rw [e, (show m_why 2 S (2 * g + s) (Int32.ofNat k) = 0 from (why_le (d := 2) (by decide)).mp cw)], (RKX.st rk9 (by omega) (by omega)), HKX.t (HSX.same hk8 b3 (fp_ne (Or.inl (by decide))) (fun k => fp_ne (Or.inl (by decide)))) (by rw [e]; exact decide_eq_true (show m_why 2 S (2 * g + s) (Int32.ofNat k) = 0 from (why_le (d := 2) (by decide)).mp cw)), by rw [m_act_y hg hs hn, try_y (d := 2) (show m_why 2 S (2 * g + s) (Int32.ofNat k) = 0 from (why_le (d := 2) (by decide)).mp cw)]; exact XS.do2 hs10 b3 (by omega)⟩)
      · skip
        replace c3 := of_decide_eq_false c3
        refine Pv.lit rfl ?_
        have e : a_act 2 T S (Int32.ofNat g) (Int32.ofNat s) (Int32.ofNat k) = m_why 2 S (2 * g + s) (Int32.ofNat k) := by unfold a_act; rw [aGS_t hg hs, hn]
        have cw : ¬ m_why 2 S (2 * g + s) (Int32.ofNat k) ≤ 0 := c3
        exact Pv.ret rfl (by rw [hQ]; exact ⟨by rw [e, whyh_1 (d := 2) (by decide) cw], (RKX.fp RKX.rf (Or.inl rfl)), HKX.f (HSX.same hH b3 (fp_ne (Or.inr (by decide))) (fun k => fp_ne (Or.inl (by decide)))) (by rw [e]; exact decide_eq_false (fun q => cw ((why_le (d := 2) (by decide)).mpr q))), by rw [m_act_y hg hs hn, try_n (d := 2) (fun q => cw ((why_le (d := 2) (by decide)).mpr q))]; exact XS.sd hS b3 (by decide)⟩)
    · skip
      replace c2 : decide (b2i (decide (1 ≤ z) && decide (z ≤ 250)) = 0) = true := by simpa using c2
      replace c2 := of_decide_eq_true c2
      replace c2 := b2z.mp c2
      refine Pv.lit rfl ?_
      have e : a_act 2 T S (Int32.ofNat g) (Int32.ofNat s) z = -1 := by unfold a_act; rw [aGS_t hg hs, ndr_f ((ndr_in (a := 1) (b := 250) (by omega) (by omega)).symm.trans c2)]
      exact Pv.ret rfl (by rw [hQ]; exact ⟨by rw [e], (RKX.fp RKX.rf (Or.inl rfl)), HKX.f (HSX.same hH b3 (fp_ne (Or.inr (by decide))) (fun k => fp_ne (Or.inl (by decide)))) (by rw [e]; rfl), by rw [m_act_n hg hs (ndr_f ((ndr_in (a := 1) (b := 250) (by omega) (by omega)).symm.trans c2))]; exact XS.sd hS b3 (by decide)⟩)
set_option maxRecDepth 100000 in
set_option maxHeartbeats 4000000 in
theorem q_die {F : FW} {T : St} {S : Sh} (hT : XT F T) (hS : XS F (t_m T) S) (hG : GW F) {n : Nat} {H : Nat → Sh} (hH : HSX F (t_m T) n H) (x : Int32) : Pm Z_X11_die [.ref 69, .int x] F (fun r F' => r = some (.int (a_die T S x)) ∧ RKX F F' ∧ HKX (decide (a_die T S x = 0)) F' (t_m T) n H S ∧ XS F' (t_m T) (m_die T S x)) := by
  refine Pm.of fun N => ?_
  obtain ⟨Q, hQ⟩ : ∃ Q : Option Value → FW → Prop, Q = (fun r F' => r = some (.int (a_die T S x)) ∧ RKX F F' ∧ HKX (decide (a_die T S x = 0)) F' (t_m T) n H S ∧ XS F' (t_m T) (m_die T S x)) := ⟨_, rfl⟩
  rw [← hQ]
  have b3 := hT.mb
  have b4 := hT.nb
  have b5 := hT.gb
  have b6 := m_from_lt S
  have b7 := hS.db
  refine (show Pv (ab_T (L_X11_die Z_X11_isMan Z_X11_isDead Z_X11_keep)) N 0 [some (.ref 69), some (.int x)] [] F Q from ?_)
  refine Pv.aload rfl rfl ?_
  refine Pv.lit rfl ?_
  refine Pv.putI rfl rfl ?_
  refine Pv.aload rfl rfl ?_
  refine Pv.iload rfl rfl ?_
  refine Pv.callVI (as := [.ref 69, .int x]) (rest := []) (z := b2i (nd (t_m T) x).isSome) rfl rfl rfl (q_isMan (hT.fx (P := fun q => q = 69) (((FX.rf (P := fun q => q = 69))).fp rfl) (by decide)) (hG.fx (P := fun _ => True) (((FX.rf (P := fun _ => True))).fp trivial)) x) ?_
  refine Pv.if0 rfl (fun c1 => ?_) (fun c1 => ?_)
  · skip
    replace c1 : decide (b2i (nd (t_m T) x).isSome = 0) = false := by simpa using c1
    replace c1 := of_decide_eq_false c1
    replace c1 := b2n.mp c1
    obtain ⟨k, hn, hnl, rfl⟩ := nd_t c1
    refine Pv.aload rfl rfl ?_
    refine Pv.iload rfl rfl ?_
    refine Pv.callVI (as := [.ref 69, .int (Int32.ofNat k)]) (rest := []) (z := b2i (!m_alive S k)) rfl rfl rfl (g_isDead (o := 0) (m := k) (hS.xd.fx (P := fun q => q = 69) (((FX.rf (P := fun q => q = 69))).fp rfl) (by decide)) (hG.fx (P := fun _ => True) (((FX.rf (P := fun _ => True))).fp trivial)) (by omega)) ?_
    refine Pv.if0 rfl (fun c2 => ?_) (fun c2 => ?_)
    · skip
      replace c2 := of_decide_eq_true c2
      replace c2 := b2z.mp c2
      refine Pv.aload rfl rfl ?_
      refine Pv.callV (as := [.ref 69]) (rest := []) rfl rfl rfl (g_keep b3 (XS.sd (a := 69) (k := 0) (v := 0) hS b3 (by decide)) (GW.fpp (a := 69) (k := 0) (v := 0) hG) (HSX.same hH b3 (fp_ne (Or.inr (by decide))) (fun k => fp_ne (Or.inl (by decide))))) ?_
      rintro _ G3 ⟨rfl, x4, x5, x6, hk7⟩
      have rk8 := RKX.kp (RKX.fp RKX.rf (Or.inl rfl)) x4 x5 x6
      have hs9 := XS.of (XS.sd (a := 69) (k := 0) (v := 0) hS b3 (by decide)) b3 (fun k _ _ => x5 k)
      have hx10 := RKX.T rk8 hT
      have hx11 := RKX.G rk8 hG
      refine (show Pv _ _ 29 [some (.ref 69), some (.int (Int32.ofNat k))] [] G3 Q from ?_)
      refine Pv.aload rfl rfl ?_
      refine Pv.getR (v := .ref 71) rfl rfl (GW.at (a := 69) (k := 6) (b := 71) hx11 (by decide)) ?_
      refine Pv.lit rfl ?_
      refine Pv.dup2 rfl ?_
      refine Pv.ald (z := G3.1 71 180) rfl (rfl) ?_
      refine Pv.lit rfl ?_
      refine Pv.iload rfl rfl ?_
      refine Pv.bin (z := 1 <<< ((Int32.ofNat k) &&& 31)) rfl (rfl) ?_
      refine Pv.bin (z := (G3.1 71 180) ||| (1 <<< ((Int32.ofNat k) &&& 31))) rfl (rfl) ?_
      refine Pv.astk (k := 180) (z := (G3.1 71 180) ||| (1 <<< ((Int32.ofNat k) &&& 31))) rfl (rfl) (rfl) ?_
      refine Pv.lit rfl ?_
      have e : a_die T S (Int32.ofNat k) = m_why 3 S k 0 := by unfold a_die; rw [hn]
      have w : m_why 3 S k 0 = 0 := if_pos (by simpa using c2)
      exact Pv.ret rfl (by rw [hQ]; exact ⟨by rw [e, w], (RKX.st rk8 (by omega) (by omega)), HKX.t (HSX.same hk7 b3 (fp_ne (Or.inl (by decide))) (fun k => fp_ne (Or.inl (by decide)))) (by rw [e]; exact decide_eq_true w), by unfold m_die; rw [hn]; exact XS.die3b hs9 b3 (by omega) rfl⟩)
    · skip
      replace c2 := of_decide_eq_false c2
      replace c2 := b2n.mp c2
      refine Pv.lit rfl ?_
      have e : a_die T S (Int32.ofNat k) = m_why 3 S k 0 := by unfold a_die; rw [hn]
      have w : m_why 3 S k 0 = 1 := if_neg (by have q := c2; simp at q; rw [q]; decide)
      exact Pv.ret rfl (by rw [hQ]; exact ⟨by rw [e, w], (RKX.fp RKX.rf (Or.inl rfl)), HKX.f (HSX.same hH b3 (fp_ne (Or.inr (by decide))) (fun k => fp_ne (Or.inl (by decide)))) (by rw [e, w]; rfl), by unfold m_die; rw [hn]; dsimp only; rw [try_n (d := 3) (by rw [w]; decide)]; exact XS.sd hS b3 (by decide)⟩)
  · skip
    replace c1 : decide (b2i (nd (t_m T) x).isSome = 0) = true := by simpa using c1
    replace c1 := of_decide_eq_true c1
    replace c1 := b2z.mp c1
    refine Pv.lit rfl ?_
    have e : a_die T S x = -1 := by unfold a_die; rw [nd_f c1]
    exact Pv.ret rfl (by rw [hQ]; exact ⟨by rw [e], (RKX.fp RKX.rf (Or.inl rfl)), HKX.f (HSX.same hH b3 (fp_ne (Or.inr (by decide))) (fun k => fp_ne (Or.inl (by decide)))) (by rw [e]; rfl), by unfold m_die; rw [nd_f c1]; exact XS.sd hS b3 (by decide)⟩)
set_option maxRecDepth 100000 in
set_option maxHeartbeats 4000000 in
theorem q_days {F : FW} {T : St} {S : Sh} (hT : XT F T) (hS : XS F (t_m T) S) (hG : GW F) {n : Nat} {H : Nat → Sh} (hH : HSX F (t_m T) n H) (hTB : TBB T) (hI : INV T S) (x : Int32) : Pm Z_X11_days [.ref 69, .int x] F (fun r F' => r = some (.int (a_days T S x)) ∧ RKX F F' ∧ HKX ((ndr 1 60 x).isSome && decide (h_d S < 400)) F' (t_m T) n H S ∧ XS F' (t_m T) (m_dys T S x)) := by
  refine Pm.of fun N => ?_
  obtain ⟨Q, hQ⟩ : ∃ Q : Option Value → FW → Prop, Q = (fun r F' => r = some (.int (a_days T S x)) ∧ RKX F F' ∧ HKX ((ndr 1 60 x).isSome && decide (h_d S < 400)) F' (t_m T) n H S ∧ XS F' (t_m T) (m_dys T S x)) := ⟨_, rfl⟩
  rw [← hQ]
  have b3 := hT.mb
  have b4 := hT.nb
  have b5 := hT.gb
  have b6 := m_from_lt S
  have b7 := hS.db
  have hSB := hI.sb
  refine (show Pv (ab_T (L_X11_days Z_X11_isIn Z_X11_keep Z_X11_goesOn)) N 0 [some (.ref 69), some (.int x)] [] F Q from ?_)
  refine Pv.aload rfl rfl ?_
  refine Pv.lit rfl ?_
  refine Pv.putI rfl rfl ?_
  refine Pv.iload rfl rfl ?_
  refine Pv.lit rfl ?_
  refine Pv.lit rfl ?_
  refine Pv.callI (as := [.int x, .int 1, .int 60]) (rest := []) (z := b2i (decide (1 ≤ x) && decide (x ≤ 60))) rfl rfl rfl (q_isIn x 1 60) ?_
  refine Pv.if0 rfl (fun c1 => ?_) (fun c1 => ?_)
  · skip
    replace c1 : decide (b2i (decide (1 ≤ x) && decide (x ≤ 60)) = 0) = false := by simpa using c1
    replace c1 := of_decide_eq_false c1
    replace c1 := b2n.mp c1
    obtain ⟨k, hn, hna, hnb, rfl⟩ := ndr_t ((ndr_in (a := 1) (b := 60) (by omega) (by omega)).symm.trans c1)
    refine Pv.aload rfl rfl ?_
    refine Pv.getR (v := .ref 71) rfl rfl (GW.at (a := 69) (k := 6) (b := 71) hG (by decide)) ?_
    refine Pv.lit rfl ?_
    refine Pv.ald (z := Int32.ofNat (h_d S)) rfl ((fp_ne (Or.inl (by decide))).trans (hS.d)) ?_
    refine Pv.lit rfl ?_
    refine Pv.icmp rfl (fun c2 => ?_) (fun c2 => ?_)
    · skip
      replace c2 : decide (Int32.ofNat (h_d S) = 400) = false := by simpa using c2
      replace c2 := mt (i_eq (a := h_d S) (b := 400) (by omega) (by omega)).mpr (of_decide_eq_false c2)
      refine Pv.aload rfl rfl ?_
      refine Pv.callV (as := [.ref 69]) (rest := []) rfl rfl rfl (g_keep b3 (XS.sd (a := 69) (k := 0) (v := 0) hS b3 (by decide)) (GW.fpp (a := 69) (k := 0) (v := 0) hG) (HSX.same hH b3 (fp_ne (Or.inr (by decide))) (fun k => fp_ne (Or.inl (by decide))))) ?_
      rintro _ G3 ⟨rfl, x4, x5, x6, hk7⟩
      have rk8 := RKX.kp (RKX.fp RKX.rf (Or.inl rfl)) x4 x5 x6
      have hs9 := XS.of (XS.sd (a := 69) (k := 0) (v := 0) hS b3 (by decide)) b3 (fun k _ _ => x5 k)
      have hx10 := RKX.T rk8 hT
      have hx11 := RKX.G rk8 hG
      refine (show Pv _ _ 36 [some (.ref 69), some (.int (Int32.ofNat k))] [] G3 Q from ?_)
      refine Pv.aload rfl rfl ?_
      refine Pv.iload rfl rfl ?_
      refine Pv.callV (as := [.ref 69, .int (Int32.ofNat k)]) (rest := []) rfl rfl rfl (g_goesOn (n := k) hx10 hs9 hx11 hTB hI.sb (by omega)) ?_
      rintro _ G12 ⟨rfl, x13, hs14⟩
      have rk15 := RKX.rx rk8 x13
      have hk16 := HSX.same hk7 b3 (x13.2.1 25 (by decide)) (fun k => x13.1.1 77 k (by decide))
      refine (show Pv _ _ 41 [some (.ref 69), some (.int (Int32.ofNat k))] [.int (Int32.ofNat (h_d (m_days T S k) - h_d S))] G12 Q from ?_)
      exact Pv.ret rfl (by rw [hQ]; exact ⟨by unfold a_days; rw [hn]; exact congrArg (fun q => some (Value.int q)) (i_subN (days_ge T S k)).symm, rk15, HKX.t hk16 (by rw [hn]; exact decide_eq_true (by omega)), by unfold m_dys; rw [hn]; exact hs14⟩)
    · skip
      replace c2 : decide (Int32.ofNat (h_d S) = 400) = true := by simpa using c2
      replace c2 := (i_eq (a := h_d S) (b := 400) (by omega) (by omega)).mp (of_decide_eq_true c2)
      refine Pv.lit rfl ?_
      exact Pv.ret rfl (by rw [hQ]; exact ⟨by unfold a_days; rw [hn]; dsimp only; rw [days_400 (by omega), Int32.sub_self], (RKX.fp RKX.rf (Or.inl rfl)), HKX.f (HSX.same hH b3 (fp_ne (Or.inr (by decide))) (fun k => fp_ne (Or.inl (by decide)))) (by rw [hn]; exact decide_eq_false (by omega)), by unfold m_dys; rw [hn]; dsimp only; rw [days_400 (by omega)]; exact XS.sd hS b3 (by decide)⟩)
  · skip
    replace c1 : decide (b2i (decide (1 ≤ x) && decide (x ≤ 60)) = 0) = true := by simpa using c1
    replace c1 := of_decide_eq_true c1
    replace c1 := b2z.mp c1
    refine Pv.lit rfl ?_
    exact Pv.ret rfl (by rw [hQ]; exact ⟨by unfold a_days; rw [ndr_f ((ndr_in (a := 1) (b := 60) (by omega) (by omega)).symm.trans c1)], (RKX.fp RKX.rf (Or.inl rfl)), HKX.f (HSX.same hH b3 (fp_ne (Or.inr (by decide))) (fun k => fp_ne (Or.inl (by decide)))) (by rw [ndr_f ((ndr_in (a := 1) (b := 60) (by omega) (by omega)).symm.trans c1)]; rfl), by unfold m_dys; rw [ndr_f ((ndr_in (a := 1) (b := 60) (by omega) (by omega)).symm.trans c1)]; exact XS.sd hS b3 (by decide)⟩)
set_option maxRecDepth 100000 in
set_option maxHeartbeats 4000000 in
theorem q_drawn {F : FW} {T : St} {S : Sh} (hT : XT F T) (hS : XS F (t_m T) S) (hG : GW F) {n : Nat} {H : Nat → Sh} (hH : HSX F (t_m T) n H) (hTB : TBB T) (hI : INV T S) (x z : Int32) : Pm Z_X11_drawn [.ref 69, .int x, .int z] F (fun r F' => r = some (.int (a_drawn T S x z)) ∧ RKX F F' ∧ HKX ((ndr 1 60 x).isSome && decide (0 < t_g T) && decide (h_d S < 400)) F' (t_m T) n H S ∧ XS F' (t_m T) (m_dwn T S x z)) := by
  refine Pm.of fun N => ?_
  obtain ⟨Q, hQ⟩ : ∃ Q : Option Value → FW → Prop, Q = (fun r F' => r = some (.int (a_drawn T S x z)) ∧ RKX F F' ∧ HKX ((ndr 1 60 x).isSome && decide (0 < t_g T) && decide (h_d S < 400)) F' (t_m T) n H S ∧ XS F' (t_m T) (m_dwn T S x z)) := ⟨_, rfl⟩
  rw [← hQ]
  have b3 := hT.mb
  have b4 := hT.nb
  have b5 := hT.gb
  have b6 := m_from_lt S
  have b7 := hS.db
  have hSB := hI.sb
  refine (show Pv (ab_T (L_X11_drawn Z_X11_isIn Z_X11_keep Z_X11_draws)) N 0 [some (.ref 69), some (.int x), some (.int z)] [] F Q from ?_)
  refine Pv.aload rfl rfl ?_
  refine Pv.lit rfl ?_
  refine Pv.putI rfl rfl ?_
  refine Pv.iload rfl rfl ?_
  refine Pv.lit rfl ?_
  refine Pv.lit rfl ?_
  refine Pv.callI (as := [.int x, .int 1, .int 60]) (rest := []) (z := b2i (decide (1 ≤ x) && decide (x ≤ 60))) rfl rfl rfl (q_isIn x 1 60) ?_
  refine Pv.if0 rfl (fun c1 => ?_) (fun c1 => ?_)
  · skip
    replace c1 := of_decide_eq_true c1
    replace c1 := b2z.mp c1
    refine Pv.lit rfl ?_
    exact Pv.ret rfl (by rw [hQ]; exact ⟨by unfold a_drawn; rw [ndr_f ((ndr_in (a := 1) (b := 60) (by omega) (by omega)).symm.trans c1)], (RKX.fp RKX.rf (Or.inl rfl)), HKX.f (HSX.same hH b3 (fp_ne (Or.inr (by decide))) (fun k => fp_ne (Or.inl (by decide)))) (by rw [ndr_f ((ndr_in (a := 1) (b := 60) (by omega) (by omega)).symm.trans c1)]; rfl), by unfold m_dwn; rw [ndr_f ((ndr_in (a := 1) (b := 60) (by omega) (by omega)).symm.trans c1)]; exact XS.sd hS b3 (by decide)⟩)
  · skip
    replace c1 := of_decide_eq_false c1
    replace c1 := b2n.mp c1
    obtain ⟨k, hn, hna, hnb, rfl⟩ := ndr_t ((ndr_in (a := 1) (b := 60) (by omega) (by omega)).symm.trans c1)
    refine Pv.aload rfl rfl ?_
    refine Pv.getR (v := .ref 71) rfl rfl (GW.at (a := 69) (k := 6) (b := 71) hG (by decide)) ?_
    refine Pv.lit rfl ?_
    refine Pv.ald (z := Int32.ofNat (t_g T)) rfl ((fp_ne (Or.inl (by decide))).trans (hT.g)) ?_
    refine Pv.if0 rfl (fun c2 => ?_) (fun c2 => ?_)
    · skip
      replace c2 : decide (Int32.ofNat (t_g T) = 0) = false := by simpa using c2
      replace c2 := mt (i_eq (a := t_g T) (b := 0) (by omega) (by omega)).mpr (of_decide_eq_false c2)
      have hg0 : 0 < t_g T := by omega
      refine Pv.aload rfl rfl ?_
      refine Pv.getR (v := .ref 71) rfl rfl (GW.at (a := 69) (k := 6) (b := 71) hG (by decide)) ?_
      refine Pv.lit rfl ?_
      refine Pv.ald (z := Int32.ofNat (h_d S)) rfl ((fp_ne (Or.inl (by decide))).trans (hS.d)) ?_
      refine Pv.lit rfl ?_
      refine Pv.icmp rfl (fun c3 => ?_) (fun c3 => ?_)
      · skip
        replace c3 := (i_le (a := 400) (b := h_d S) (by omega) (by omega)).mp (of_decide_eq_true c3)
        refine Pv.aload rfl rfl ?_
        refine Pv.iload rfl rfl ?_
        refine Pv.iload rfl rfl ?_
        refine Pv.callV (as := [.ref 69, .int (Int32.ofNat k), .int z]) (rest := []) rfl rfl rfl (g_draws (n := k) (hT.fx (P := fun q => q = 69) (((FX.rf (P := fun q => q = 69))).fp rfl) (by decide)) (XS.sd (a := 69) (k := 0) (v := 0) hS b3 (by decide)) (GW.fpp (a := 69) (k := 0) (v := 0) hG) hTB hI (z) hg0 (by omega)) ?_
        rintro _ G4 ⟨rfl, x5, hs6, y7⟩
        have rk8 := RKX.rxs (RKX.fp RKX.rf (Or.inl rfl)) x5
        have hk9 := HSX.same (HSX.same hH b3 (fp_ne (Or.inr (by decide))) (fun k => fp_ne (Or.inl (by decide)))) b3 (x5.2.1 25 (by decide) (by decide)) (fun k => x5.1.1 77 k (by decide))
        refine (show Pv _ _ 49 [some (.ref 69), some (.int (Int32.ofNat k)), some (.int z)] [.int (Int32.ofNat (h_d (m_drawn T (S, z) k).1 - h_d S))] G4 Q from ?_)
        exact Pv.ret rfl (by rw [hQ]; exact ⟨by unfold a_drawn; rw [hn]; dsimp only; rw [if_neg (by omega)]; exact congrArg (fun q => some (Value.int q)) (i_subN (drawn_ge T S z k)).symm, rk8, HKX.f hk9 (by rw [hn, decide_eq_true (show 0 < t_g T by omega)]; exact decide_eq_false (by omega)), by unfold m_dwn; rw [hn]; dsimp only; rw [if_neg (by omega)]; exact hs6⟩)
      · skip
        replace c3 := mt (i_le (a := 400) (b := h_d S) (by omega) (by omega)).mpr (of_decide_eq_false c3)
        refine Pv.aload rfl rfl ?_
        refine Pv.callV (as := [.ref 69]) (rest := []) rfl rfl rfl (g_keep b3 (XS.sd (a := 69) (k := 0) (v := 0) hS b3 (by decide)) (GW.fpp (a := 69) (k := 0) (v := 0) hG) (HSX.same hH b3 (fp_ne (Or.inr (by decide))) (fun k => fp_ne (Or.inl (by decide))))) ?_
        rintro _ G10 ⟨rfl, x11, x12, x13, hk14⟩
        have rk15 := RKX.kp (RKX.fp RKX.rf (Or.inl rfl)) x11 x12 x13
        have hs16 := XS.of (XS.sd (a := 69) (k := 0) (v := 0) hS b3 (by decide)) b3 (fun k _ _ => x12 k)
        have hx17 := RKX.T rk15 hT
        have hx18 := RKX.G rk15 hG
        refine (show Pv _ _ 43 [some (.ref 69), some (.int (Int32.ofNat k)), some (.int z)] [] G10 Q from ?_)
        refine Pv.aload rfl rfl ?_
        refine Pv.iload rfl rfl ?_
        refine Pv.iload rfl rfl ?_
        refine Pv.callV (as := [.ref 69, .int (Int32.ofNat k), .int z]) (rest := []) rfl rfl rfl (g_draws (n := k) hx17 hs16 hx18 hTB hI (z) hg0 (by omega)) ?_
        rintro _ G19 ⟨rfl, x20, hs21, y22⟩
        have rk23 := RKX.rxs rk15 x20
        have hk24 := HSX.same hk14 b3 (x20.2.1 25 (by decide) (by decide)) (fun k => x20.1.1 77 k (by decide))
        refine (show Pv _ _ 49 [some (.ref 69), some (.int (Int32.ofNat k)), some (.int z)] [.int (Int32.ofNat (h_d (m_drawn T (S, z) k).1 - h_d S))] G19 Q from ?_)
        exact Pv.ret rfl (by rw [hQ]; exact ⟨by unfold a_drawn; rw [hn]; dsimp only; rw [if_neg (by omega)]; exact congrArg (fun q => some (Value.int q)) (i_subN (drawn_ge T S z k)).symm, rk23, HKX.t hk24 (by rw [hn, decide_eq_true (show 0 < t_g T by omega)]; exact decide_eq_true (by omega)), by unfold m_dwn; rw [hn]; dsimp only; rw [if_neg (by omega)]; exact hs21⟩)
    · skip
      replace c2 : decide (Int32.ofNat (t_g T) = 0) = true := by simpa using c2
      replace c2 := (i_eq (a := t_g T) (b := 0) (by omega) (by omega)).mp (of_decide_eq_true c2)
      refine Pv.lit rfl ?_
      exact Pv.ret rfl (by rw [hQ]; exact ⟨by unfold a_drawn; rw [hn]; dsimp only; rw [if_pos (by omega)], (RKX.fp RKX.rf (Or.inl rfl)), HKX.f (HSX.same hH b3 (fp_ne (Or.inr (by decide))) (fun k => fp_ne (Or.inl (by decide)))) (by rw [hn, decide_eq_false (show ¬ 0 < t_g T by omega)]; rfl), by unfold m_dwn; rw [hn]; dsimp only; rw [if_pos (by omega)]; exact XS.sd hS b3 (by decide)⟩)
end
-- 63.b69.pure4.lean.txt
section
/-! ===== bytes, and what WHICH wants ===== -/
theorem oct_b (x : Int32) : 0 ≤ (x &&& 255).toInt ∧ (x &&& 255).toInt ≤ 255 := by
  have h : (x &&& 255).toBitVec.toNat ≤ 255 := by
    show (x.toBitVec &&& 255#32).toNat ≤ 255
    rw [BitVec.toNat_and]
    exact Nat.and_le_right
  have e : (x &&& 255).toInt = ((x &&& 255).toBitVec.toNat : Int) := BitVec.toInt_eq_toNat_of_lt (by omega)
  omega
theorem oct_2 {x : Int32} (h : x &&& 255 ≤ 1) : ∃ s, nd 2 (x &&& 255) = some s ∧ s < 2 ∧ x &&& 255 = Int32.ofNat s := by
  have b := oct_b x
  rw [Int32.le_iff_toInt_le, i_1] at h
  refine nd_t ?_
  unfold nd
  rw [if_pos ⟨b.1, by show _ < (2 : Int); omega⟩]
  rfl
theorem oct_n {x : Int32} (h : ¬ x &&& 255 ≤ 1) : nd 2 (x &&& 255) = none := by
  rw [Int32.le_iff_toInt_le, i_1] at h
  unfold nd
  exact if_neg (fun c => h (by have := c.2; omega))
theorem ndr_y {a b n : Nat} (hn : n < 2147483648) (h : (ndr a b (Int32.ofNat n)).isSome = true) : a ≤ n ∧ n ≤ b := by
  unfold ndr at h
  rw [i_toInt hn] at h
  split at h
  · omega
  · cases h
theorem ndr_z {a b n : Nat} (hn : n < 2147483648) (h : (ndr a b (Int32.ofNat n)).isSome = false) : ¬ (a ≤ n ∧ n ≤ b) := by
  unfold ndr at h
  rw [i_toInt hn] at h
  split at h
  · cases h
  · omega
theorem mx_ge {y : Int32} (h : 0 ≤ y) : ab_max 0 y = y := by
  rw [Int32.le_iff_toInt_le] at h
  rcases mx_c 0 y with ⟨a, e⟩ | ⟨a, e⟩
  · exact e
  · rw [e]
    exact (Int32.toInt_inj.mp (by omega))
theorem mx_lt {y : Int32} (h : ¬ 0 ≤ y) : ab_max 0 y = 0 := by
  rw [Int32.le_iff_toInt_le] at h
  rcases mx_c 0 y with ⟨a, e⟩ | ⟨a, e⟩
  · omega
  · exact e
theorem left_less (T : St) (k : Nat) (x : Int32) : m_less 999 (x + t_a T (36 + k)) - t_a T (24 + k) = m_left T k x := by
  unfold m_left
  rw [less_min]
theorem wh_s {T : St} {j i : Nat} {B : Nat → Int32} (hi : 2 ≤ i) : m_wh T j B (i + 1 - 2) = (m_wh T j B (i - 2) && decide (ab_max 0 (m_left T j (B (i - 1))) = B i)) := by
  rw [show i + 1 - 2 = i - 2 + 1 by omega]
  show (m_wh T j B (i - 2) && decide (ab_max 0 (m_left T j (B (i - 2 + 1))) = B (i - 2 + 2))) = _
  rw [show i - 2 + 1 = i - 1 by omega, show i - 2 + 2 = i by omega]
theorem i_remN {a b : Nat} (ha : a < 2147483648) (hb : b < 2147483648) (h0 : 0 < b) : Int32.ofNat a - Int32.ofNat a / Int32.ofNat b * Int32.ofNat b = Int32.ofNat (a % b) := by
  have e1 : (Int32.ofNat a).toInt = a := i_toInt ha
  have e2 : (Int32.ofNat b).toInt = b := i_toInt hb
  have hm : a % b < b := Nat.mod_lt _ h0
  have hl : a % b ≤ a := Nat.mod_le _ _
  rw [← Int32.toInt_inj, Int32.toInt_sub, Int32.toInt_mul, Int32.toInt_div, e1, e2, i_toInt (by omega)]
  have q : ((a : Int).tdiv b) = ((a / b : Nat) : Int) := by
    rw [Int.tdiv_eq_ediv_of_nonneg (by omega)]
    rfl
  rw [q]
  have hd : a / b * b ≤ a := Nat.div_mul_le_self _ _
  have hd2 : a / b ≤ a := Nat.div_le_self _ _
  have hda := Nat.div_add_mod' a b
  clear q hm
  generalize a % b = r at *
  generalize a / b = q at *
  have b1 : Int.bmod ((q : Nat) : Int) (2 ^ 32) = ((q : Nat) : Int) := Int.bmod_eq_of_le (by omega) (by omega)
  rw [b1]
  have hp : ((q : Nat) : Int) * (b : Int) = ((q * b : Nat) : Int) := by rw [Int.natCast_mul]
  rw [hp]
  generalize q * b = p at *
  have b2 : Int.bmod ((p : Nat) : Int) (2 ^ 32) = ((p : Nat) : Int) := Int.bmod_eq_of_le (by omega) (by omega)
  rw [b2]
  have hs : (a : Int) - ((p : Nat) : Int) = ((r : Nat) : Int) := by omega
  rw [hs]
  exact Int.bmod_eq_of_le (by omega) (by omega)
theorem RT.lay {F G K : FW} (h : RT F G) (x : FX (fun q => q = 79) G K) : RT F K :=
  ⟨h.1.tr (x.wd fun q (c : q = 79) => Or.inr (Or.inr (Or.inr c))), fun k hk => (x.1 78 k (by decide)).trans (h.2.1 k hk), fun k hk => (x.1 71 k (by decide)).trans (h.2.2.1 k hk), fun k h1 h2 h3 => (x.1 69 k (by decide)).trans (h.2.2.2 k h1 h2 h3)⟩
theorem nd_in2 {n m : Nat} {x : Int32} (hn : n = m + 1) (hm : n < 2147483648) : (decide (0 ≤ x) && decide (x ≤ Int32.ofNat m)) = (nd n x).isSome := by
  subst hn
  rw [← nd_in hm, show Int32.ofNat (m + 1) - 1 = Int32.ofNat m from i_subN (a := m + 1) (b := 1) (by omega)]
theorem nd_54 {w : Int32} (h : nd 5 w = none) : ¬ w = 4 := fun c => by
  rw [c] at h
  exact absurd h (by decide)
theorem nd_53 {w : Int32} (h : nd 5 w = none) : nd 4 w = none := by
  cases e : nd 4 w with
  | none => rfl
  | some k =>
    obtain ⟨a, rfl⟩ := nd_some e
    rw [nd_of (by omega) (by decide)] at h
    cases h
end
-- 63.b69a.lean.txt
section
set_option maxRecDepth 100000 in
set_option maxHeartbeats 4000000 in
theorem q_which {F : FW} {T : St} {S : Sh} (hT : XT F T) (hS : XS F (t_m T) S) (hG : GW F) {n : Nat} (hn : F.1 69 2 = Int32.ofNat n) (hn9 : n ≤ 940) : Pm Z_X11_which [.ref 69] F (fun r F' => r = some (.int (a_which T n (fun q => F.1 70 q &&& 255))) ∧ F' = fp (fp (fp (fp (fp F 69 0 0) 69 3 (Int32.ofNat n)) 69 2 0) 69 4 0) 69 5 940) := by
  refine Pm.of fun N => ?_
  obtain ⟨Q, hQ⟩ : ∃ Q : Option Value → FW → Prop, Q = (fun r F' => r = some (.int (a_which T n (fun q => F.1 70 q &&& 255))) ∧ F' = fp (fp (fp (fp (fp F 69 0 0) 69 3 (Int32.ofNat n)) 69 2 0) 69 4 0) 69 5 940) := ⟨_, rfl⟩
  rw [← hQ]
  have b3 := hT.mb
  have b4 := hT.nb
  have b5 := hT.gb
  have b6 := m_from_lt S
  have b7 := hS.db
  refine (show Pv (ab_T (L_X11_which Z_X11_taken Z_X11_isIn Z_X11_octet Z_X11_cell Z_X11_lesser)) N 0 [some (.ref 69), none, none, none, none, none, none] [] F Q from ?_)
  refine Pv.aload rfl rfl ?_
  refine Pv.lit rfl ?_
  refine Pv.putI rfl rfl ?_
  refine Pv.aload rfl rfl ?_
  refine Pv.lit rfl ?_
  refine Pv.callV (as := [.ref 69, .int 940]) (rest := []) (Q' := (fun r F' => Pv (ab_T (L_X11_which Z_X11_taken Z_X11_isIn Z_X11_octet Z_X11_cell Z_X11_lesser)) N 12 [some (.ref 69), none, none, none, none, none, none] (r.toList ++ []) F' Q)) rfl rfl rfl ?_ (fun r F' h => h)
  refine Pm.of fun N2 => ?_
  obtain ⟨Q1, hQ1⟩ : ∃ Qx : Option Value → FW → Prop, Qx = (fun r F' => Pv (ab_T (L_X11_which Z_X11_taken Z_X11_isIn Z_X11_octet Z_X11_cell Z_X11_lesser)) N 12 [some (.ref 69), none, none, none, none, none, none] (r.toList ++ []) F' Q) := ⟨_, rfl⟩
  rw [← hQ1]
  refine (show Pv (ab_T L_X11_taken) N2 0 [some (.ref 69), some (.int 940)] [] (fp F 69 0 0) Q1 from ?_)
  refine Pv.aload rfl rfl ?_
  refine Pv.aload rfl rfl ?_
  refine Pv.getI (z := Int32.ofNat n) rfl rfl ((fp_ne (Or.inr (by decide))).trans (hn)) ?_
  refine Pv.putI rfl rfl ?_
  refine Pv.aload rfl rfl ?_
  refine Pv.lit rfl ?_
  refine Pv.putI rfl rfl ?_
  refine Pv.aload rfl rfl ?_
  refine Pv.lit rfl ?_
  refine Pv.putI rfl rfl ?_
  refine Pv.aload rfl rfl ?_
  refine Pv.iload rfl rfl ?_
  refine Pv.putI rfl rfl ?_
  refine Pv.vret rfl ?_
  rw [hQ1]
  refine (show Pv (ab_T (L_X11_which Z_X11_taken Z_X11_isIn Z_X11_octet Z_X11_cell Z_X11_lesser)) N 12 [some (.ref 69), none, none, none, none, none, none] [] (fp (fp (fp (fp (fp F 69 0 0) 69 3 (Int32.ofNat n)) 69 2 0) 69 4 0) 69 5 940) Q from ?_)
  refine Pv.aload rfl rfl ?_
  refine Pv.getI (z := Int32.ofNat n) rfl rfl ((fp_ne (Or.inr (by decide))).trans ((fp_ne (Or.inr (by decide))).trans ((fp_ne (Or.inr (by decide))).trans (fp_eq)))) ?_
  refine Pv.lit rfl ?_
  refine Pv.lit rfl ?_
  refine Pv.callI (as := [.int (Int32.ofNat n), .int 3, .int 31]) (rest := []) (z := b2i (decide (3 ≤ (Int32.ofNat n)) && decide ((Int32.ofNat n) ≤ 31))) rfl rfl rfl (q_isIn (Int32.ofNat n) 3 31) ?_
  refine Pv.if0 rfl (fun c3 => ?_) (fun c3 => ?_)
  · skip
    replace c3 := of_decide_eq_true c3
    replace c3 := b2z.mp c3
    refine Pv.lit rfl ?_
    exact Pv.ret rfl (by rw [hQ]; exact ⟨by unfold a_which; rw [if_neg (ndr_z (by omega) ((ndr_in (a := 3) (b := 31) (by omega) (by omega)).symm.trans c3))], rfl⟩)
  · skip
    replace c3 := of_decide_eq_false c3
    replace c3 := b2n.mp c3
    refine Pv.aload rfl rfl ?_
    refine Pv.lit rfl ?_
    refine Pv.callV (as := [.ref 69, .int 0]) (rest := []) (Q' := (fun r F' => Pv (ab_T (L_X11_which Z_X11_taken Z_X11_isIn Z_X11_octet Z_X11_cell Z_X11_lesser)) N 30 [some (.ref 69), none, none, none, none, none, none] (r.toList ++ []) F' Q)) rfl rfl rfl ?_ (fun r F' h => h)
    refine Pm.of fun N5 => ?_
    obtain ⟨Q4, hQ4⟩ : ∃ Qx : Option Value → FW → Prop, Qx = (fun r F' => Pv (ab_T (L_X11_which Z_X11_taken Z_X11_isIn Z_X11_octet Z_X11_cell Z_X11_lesser)) N 30 [some (.ref 69), none, none, none, none, none, none] (r.toList ++ []) F' Q) := ⟨_, rfl⟩
    rw [← hQ4]
    refine (show Pv (ab_T L_X11_octet) N5 0 [some (.ref 69), some (.int 0)] [] (fp (fp (fp (fp (fp F 69 0 0) 69 3 (Int32.ofNat n)) 69 2 0) 69 4 0) 69 5 940) Q4 from ?_)
    refine Pv.aload rfl rfl ?_
    refine Pv.getR (v := .ref 70) rfl rfl (GW.at (a := 69) (k := 1) (b := 70) hG (by decide)) ?_
    refine Pv.iload rfl rfl ?_
    refine Pv.ald (z := F.1 70 0) rfl ((fp_ne (Or.inl (by decide))).trans ((fp_ne (Or.inl (by decide))).trans ((fp_ne (Or.inl (by decide))).trans ((fp_ne (Or.inl (by decide))).trans (fp_ne (Or.inl (by decide))))))) ?_
    refine Pv.lit rfl ?_
    refine Pv.bin (z := (F.1 70 0) &&& 255) rfl (rfl) ?_
    refine Pv.ret rfl ?_
    rw [hQ4]
    refine (show Pv (ab_T (L_X11_which Z_X11_taken Z_X11_isIn Z_X11_octet Z_X11_cell Z_X11_lesser)) N 30 [some (.ref 69), none, none, none, none, none, none] [.int ((F.1 70 0) &&& 255)] (fp (fp (fp (fp (fp F 69 0 0) 69 3 (Int32.ofNat n)) 69 2 0) 69 4 0) 69 5 940) Q from ?_)
    refine Pv.lit rfl ?_
    refine Pv.icmp rfl (fun c6 => ?_) (fun c6 => ?_)
    · skip
      replace c6 := of_decide_eq_true c6
      obtain ⟨hn3, hn31⟩ := ndr_y (by omega) ((ndr_in (a := 3) (b := 31) (by omega) (by omega)).symm.trans c3)
      obtain ⟨s, hs, hsl, es⟩ := oct_2 c6
      refine Pv.lit rfl ?_
      refine Pv.istore (lo' := [some (.ref 69), some (.int 0), none, none, none, none, none]) rfl rfl ?_
      refine Pv.lit rfl ?_
      refine Pv.istore (lo' := [some (.ref 69), some (.int 0), some (.int 0), none, none, none, none]) rfl rfl ?_
      refine Pv.lp (ι := Nat × Int32 × (Option Value) × (Option Value) × (Option Value) × (Option Value)) (lof := fun ⟨k, b, o7, o8, o9, o10⟩ => [some (.ref 69), some (.int b), some (.int (Int32.ofNat k)), o7, o8, o9, o10]) (Ff := fun ⟨k, b, o7, o8, o9, o10⟩ => (fp (fp (fp (fp (fp F 69 0 0) 69 3 (Int32.ofNat n)) 69 2 0) 69 4 0) 69 5 940)) (P := fun ⟨k, b, o7, o8, o9, o10⟩ => k ≤ t_g T ∧ b = m_bits (fun g => m_wh T (2 * g + s) (fun q => F.1 70 q &&& 255) (n - 2)) id k) ?_ (0, 0, none, none, none, none) (⟨Nat.zero_le _, rfl⟩)
      rintro N11 hN12 ⟨k, b, o7, o8, o9, o10⟩ hi13 ih14
      refine (show Pv _ _ 40 [some (.ref 69), some (.int b), some (.int (Int32.ofNat k)), o7, o8, o9, o10] [] (fp (fp (fp (fp (fp F 69 0 0) 69 3 (Int32.ofNat n)) 69 2 0) 69 4 0) 69 5 940) Q from ?_)
      obtain ⟨hk, hb⟩ := hi13
      refine Pv.iloadS rfl rfl ?_
      refine Pv.aload rfl rfl ?_
      refine Pv.getR (v := .ref 71) rfl rfl (GW.at (a := 69) (k := 6) (b := 71) hG (by decide)) ?_
      refine Pv.lit rfl ?_
      refine Pv.ald (z := Int32.ofNat (t_g T)) rfl ((fp_ne (Or.inl (by decide))).trans ((fp_ne (Or.inl (by decide))).trans ((fp_ne (Or.inl (by decide))).trans ((fp_ne (Or.inl (by decide))).trans ((fp_ne (Or.inl (by decide))).trans (hT.g)))))) ?_
      refine Pv.icmp rfl (fun c15 => ?_) (fun c15 => ?_)
      · skip
        replace c15 := (i_le (a := t_g T) (b := k) (by omega) (by omega)).mp (of_decide_eq_true c15)
        refine Pv.iload rfl rfl ?_
        exact Pv.ret rfl (by rw [hQ]; exact ⟨by unfold a_which; rw [if_pos ⟨hn3, hn31⟩, hs]; dsimp only; rw [hb, show k = t_g T by omega], rfl⟩)
      · skip
        replace c15 := mt (i_le (a := t_g T) (b := k) (by omega) (by omega)).mpr (of_decide_eq_false c15)
        refine Pv.iload rfl rfl ?_
        refine Pv.aload rfl rfl ?_
        refine Pv.lit rfl ?_
        refine Pv.callV (as := [.ref 69, .int 0]) (rest := [.int (Int32.ofNat k)]) (Q' := (fun r F' => Pv (ab_T (L_X11_which Z_X11_taken Z_X11_isIn Z_X11_octet Z_X11_cell Z_X11_lesser)) N11 56 [some (.ref 69), some (.int b), some (.int (Int32.ofNat k)), o7, o8, o9, o10] (r.toList ++ [.int (Int32.ofNat k)]) F' Q)) rfl rfl rfl ?_ (fun r F' h => h)
        refine Pm.of fun N17 => ?_
        obtain ⟨Q16, hQ16⟩ : ∃ Qx : Option Value → FW → Prop, Qx = (fun r F' => Pv (ab_T (L_X11_which Z_X11_taken Z_X11_isIn Z_X11_octet Z_X11_cell Z_X11_lesser)) N11 56 [some (.ref 69), some (.int b), some (.int (Int32.ofNat k)), o7, o8, o9, o10] (r.toList ++ [.int (Int32.ofNat k)]) F' Q) := ⟨_, rfl⟩
        rw [← hQ16]
        refine (show Pv (ab_T L_X11_octet) N17 0 [some (.ref 69), some (.int 0)] [] (fp (fp (fp (fp (fp F 69 0 0) 69 3 (Int32.ofNat n)) 69 2 0) 69 4 0) 69 5 940) Q16 from ?_)
        refine Pv.aload rfl rfl ?_
        refine Pv.getR (v := .ref 70) rfl rfl (GW.at (a := 69) (k := 1) (b := 70) hG (by decide)) ?_
        refine Pv.iload rfl rfl ?_
        refine Pv.ald (z := F.1 70 0) rfl ((fp_ne (Or.inl (by decide))).trans ((fp_ne (Or.inl (by decide))).trans ((fp_ne (Or.inl (by decide))).trans ((fp_ne (Or.inl (by decide))).trans (fp_ne (Or.inl (by decide))))))) ?_
        refine Pv.lit rfl ?_
        refine Pv.bin (z := (F.1 70 0) &&& 255) rfl (rfl) ?_
        refine Pv.ret rfl ?_
        rw [hQ16]
        refine (show Pv (ab_T (L_X11_which Z_X11_taken Z_X11_isIn Z_X11_octet Z_X11_cell Z_X11_lesser)) N11 56 [some (.ref 69), some (.int b), some (.int (Int32.ofNat k)), o7, o8, o9, o10] [.int ((F.1 70 0) &&& 255), .int (Int32.ofNat k)] (fp (fp (fp (fp (fp F 69 0 0) 69 3 (Int32.ofNat n)) 69 2 0) 69 4 0) 69 5 940) Q from ?_)
        rw [show ((F.1 70 0) &&& 255) = Int32.ofNat s from es]
        refine Pv.callI (as := [.int (Int32.ofNat k), .int (Int32.ofNat s)]) (rest := []) (z := Int32.ofNat (2 * k + s)) rfl rfl rfl (g_cell (g := k) (s := s)) ?_
        refine Pv.istore (lo' := [some (.ref 69), some (.int b), some (.int (Int32.ofNat k)), some (.int (Int32.ofNat (2 * k + s))), o8, o9, o10]) rfl rfl ?_
        refine Pv.lit rfl ?_
        refine Pv.istore (lo' := [some (.ref 69), some (.int b), some (.int (Int32.ofNat k)), some (.int (Int32.ofNat (2 * k + s))), some (.int 1), o9, o10]) rfl rfl ?_
        refine Pv.lit rfl ?_
        refine Pv.istore (lo' := [some (.ref 69), some (.int b), some (.int (Int32.ofNat k)), some (.int (Int32.ofNat (2 * k + s))), some (.int 1), some (.int 2), o10]) rfl rfl ?_
        refine Pv.lp (ι := Nat × Int32 × (Option Value)) (lof := fun ⟨i, w, o18⟩ => [some (.ref 69), some (.int b), some (.int (Int32.ofNat k)), some (.int (Int32.ofNat (2 * k + s))), some (.int w), some (.int (Int32.ofNat i)), o18]) (Ff := fun ⟨i, w, o18⟩ => (fp (fp (fp (fp (fp F 69 0 0) 69 3 (Int32.ofNat n)) 69 2 0) 69 4 0) 69 5 940)) (P := fun ⟨i, w, o18⟩ => 2 ≤ i ∧ i ≤ n ∧ w = b2i (m_wh T (2 * k + s) (fun q => F.1 70 q &&& 255) (i - 2))) ?_ (2, 1, o10) (⟨Nat.le_refl _, by omega, rfl⟩)
        rintro N19 hN20 ⟨i, w, o18⟩ hi21 ih22
        refine (show Pv _ _ 66 [some (.ref 69), some (.int b), some (.int (Int32.ofNat k)), some (.int (Int32.ofNat (2 * k + s))), some (.int w), some (.int (Int32.ofNat i)), o18] [] (fp (fp (fp (fp (fp F 69 0 0) 69 3 (Int32.ofNat n)) 69 2 0) 69 4 0) 69 5 940) Q from ?_)
        obtain ⟨hi2, hin, hw⟩ := hi21
        refine Pv.iloadS rfl rfl ?_
        refine Pv.aload rfl rfl ?_
        refine Pv.getI (z := Int32.ofNat n) rfl rfl ((fp_ne (Or.inr (by decide))).trans ((fp_ne (Or.inr (by decide))).trans ((fp_ne (Or.inr (by decide))).trans (fp_eq)))) ?_
        refine Pv.icmp rfl (fun c23 => ?_) (fun c23 => ?_)
        · skip
          replace c23 := (i_le (a := n) (b := i) (by omega) (by omega)).mp (of_decide_eq_true c23)
          refine Pv.iload rfl rfl ?_
          refine Pv.iload rfl rfl ?_
          refine Pv.if0 rfl (fun c24 => ?_) (fun c24 => ?_)
          · skip
            replace c24 := of_decide_eq_true c24
            refine Pv.lit rfl ?_
            refine Pv.bin (z := b ||| 0) rfl (rfl) ?_
            refine Pv.istore (lo' := [some (.ref 69), some (.int (b ||| 0)), some (.int (Int32.ofNat k)), some (.int (Int32.ofNat (2 * k + s))), some (.int w), some (.int (Int32.ofNat i)), o18]) rfl rfl ?_
            refine Pv.iinc (y := Int32.ofNat (k + 1)) (lo' := [some (.ref 69), some (.int (b ||| 0)), some (.int (Int32.ofNat (k + 1))), some (.int (Int32.ofNat (2 * k + s))), some (.int w), some (.int (Int32.ofNat i)), o18]) rfl rfl (i_add k 1) rfl ?_
            refine Pv.goto rfl ?_
            exact (ih14 (k + 1, b ||| 0, (some (.int (Int32.ofNat (2 * k + s)))), (some (.int w)), (some (.int (Int32.ofNat i))), o18) (⟨by omega, by rw [m_bits_f (f := (fun g => m_wh T (2 * g + s) (fun q => F.1 70 q &&& 255) (n - 2))) (g := id) (k := k) (by show m_wh T (2 * k + s) (fun q => F.1 70 q &&& 255) (n - 2) = _; rw [show n - 2 = i - 2 by omega]; exact b2z.mp (hw.symm.trans c24)), ← hb]; exact i_or0 _⟩)).mono (by omega)
          · skip
            replace c24 := of_decide_eq_false c24
            refine Pv.lit rfl ?_
            refine Pv.iload rfl rfl ?_
            refine Pv.bin (z := 1 <<< ((Int32.ofNat k) &&& 31)) rfl (rfl) ?_
            refine Pv.goto rfl ?_
            refine Pv.bin (z := b ||| (1 <<< ((Int32.ofNat k) &&& 31))) rfl (rfl) ?_
            refine Pv.istore (lo' := [some (.ref 69), some (.int (b ||| (1 <<< ((Int32.ofNat k) &&& 31)))), some (.int (Int32.ofNat k)), some (.int (Int32.ofNat (2 * k + s))), some (.int w), some (.int (Int32.ofNat i)), o18]) rfl rfl ?_
            refine Pv.iinc (y := Int32.ofNat (k + 1)) (lo' := [some (.ref 69), some (.int (b ||| (1 <<< ((Int32.ofNat k) &&& 31)))), some (.int (Int32.ofNat (k + 1))), some (.int (Int32.ofNat (2 * k + s))), some (.int w), some (.int (Int32.ofNat i)), o18]) rfl rfl (i_add k 1) rfl ?_
            refine Pv.goto rfl ?_
            exact (ih14 (k + 1, b ||| (1 <<< ((Int32.ofNat k) &&& 31)), (some (.int (Int32.ofNat (2 * k + s)))), (some (.int w)), (some (.int (Int32.ofNat i))), o18) (⟨by omega, by rw [m_bits_t (f := (fun g => m_wh T (2 * g + s) (fun q => F.1 70 q &&& 255) (n - 2))) (g := id) (k := k) (by show m_wh T (2 * k + s) (fun q => F.1 70 q &&& 255) (n - 2) = _; rw [show n - 2 = i - 2 by omega]; exact b2n.mp (fun z => c24 (hw.trans z))), hb]; rfl⟩)).mono (by omega)
        · skip
          replace c23 := mt (i_le (a := n) (b := i) (by omega) (by omega)).mpr (of_decide_eq_false c23)
          refine Pv.lit rfl ?_
          refine Pv.aload rfl rfl ?_
          refine Pv.iload rfl rfl ?_
          refine Pv.lit rfl ?_
          refine Pv.bin (z := Int32.ofNat (i - 1)) rfl (i_subN (a := i) (b := 1) (by omega)) ?_
          refine Pv.callV (as := [.ref 69, .int (Int32.ofNat (i - 1))]) (rest := [.int 999]) (Q' := (fun r F' => Pv (ab_T (L_X11_which Z_X11_taken Z_X11_isIn Z_X11_octet Z_X11_cell Z_X11_lesser)) N19 86 [some (.ref 69), some (.int b), some (.int (Int32.ofNat k)), some (.int (Int32.ofNat (2 * k + s))), some (.int w), some (.int (Int32.ofNat i)), o18] (r.toList ++ [.int 999]) F' Q)) rfl rfl rfl ?_ (fun r F' h => h)
          refine Pm.of fun N26 => ?_
          obtain ⟨Q25, hQ25⟩ : ∃ Qx : Option Value → FW → Prop, Qx = (fun r F' => Pv (ab_T (L_X11_which Z_X11_taken Z_X11_isIn Z_X11_octet Z_X11_cell Z_X11_lesser)) N19 86 [some (.ref 69), some (.int b), some (.int (Int32.ofNat k)), some (.int (Int32.ofNat (2 * k + s))), some (.int w), some (.int (Int32.ofNat i)), o18] (r.toList ++ [.int 999]) F' Q) := ⟨_, rfl⟩
          rw [← hQ25]
          refine (show Pv (ab_T L_X11_octet) N26 0 [some (.ref 69), some (.int (Int32.ofNat (i - 1)))] [] (fp (fp (fp (fp (fp F 69 0 0) 69 3 (Int32.ofNat n)) 69 2 0) 69 4 0) 69 5 940) Q25 from ?_)
          refine Pv.aload rfl rfl ?_
          refine Pv.getR (v := .ref 70) rfl rfl (GW.at (a := 69) (k := 1) (b := 70) hG (by decide)) ?_
          refine Pv.iload rfl rfl ?_
          refine Pv.ald (z := F.1 70 (i - 1)) rfl (by rw [i_toNat (by omega)]; exact (fp_ne (Or.inl (by decide))).trans ((fp_ne (Or.inl (by decide))).trans ((fp_ne (Or.inl (by decide))).trans ((fp_ne (Or.inl (by decide))).trans (fp_ne (Or.inl (by decide))))))) ?_
          refine Pv.lit rfl ?_
          refine Pv.bin (z := (F.1 70 (i - 1)) &&& 255) rfl (rfl) ?_
          refine Pv.ret rfl ?_
          rw [hQ25]
          refine (show Pv (ab_T (L_X11_which Z_X11_taken Z_X11_isIn Z_X11_octet Z_X11_cell Z_X11_lesser)) N19 86 [some (.ref 69), some (.int b), some (.int (Int32.ofNat k)), some (.int (Int32.ofNat (2 * k + s))), some (.int w), some (.int (Int32.ofNat i)), o18] [.int ((F.1 70 (i - 1)) &&& 255), .int 999] (fp (fp (fp (fp (fp F 69 0 0) 69 3 (Int32.ofNat n)) 69 2 0) 69 4 0) 69 5 940) Q from ?_)
          refine Pv.aload rfl rfl ?_
          refine Pv.getR (v := .ref 71) rfl rfl (GW.at (a := 69) (k := 6) (b := 71) hG (by decide)) ?_
          refine Pv.lit rfl ?_
          refine Pv.iload rfl rfl ?_
          refine Pv.bin (z := Int32.ofNat (40 + (2 * k + s))) rfl (i_add 40 (2 * k + s)) ?_
          refine Pv.ald (z := t_a T (36 + (2 * k + s))) rfl (by rw [i_toNat (by omega)]; exact (fp_ne (Or.inl (by decide))).trans ((fp_ne (Or.inl (by decide))).trans ((fp_ne (Or.inl (by decide))).trans ((fp_ne (Or.inl (by decide))).trans ((fp_ne (Or.inl (by decide))).trans (hT.k _ (by omega))))))) ?_
          refine Pv.bin (z := ((F.1 70 (i - 1)) &&& 255) + (t_a T (36 + (2 * k + s)))) rfl (rfl) ?_
          refine Pv.callI (as := [.int 999, .int (((F.1 70 (i - 1)) &&& 255) + (t_a T (36 + (2 * k + s))))]) (rest := []) (z := m_less 999 (((F.1 70 (i - 1)) &&& 255) + (t_a T (36 + (2 * k + s))))) rfl rfl rfl (g_lesser (x := 999) (y := ((F.1 70 (i - 1)) &&& 255) + (t_a T (36 + (2 * k + s))))) ?_
          refine Pv.aload rfl rfl ?_
          refine Pv.getR (v := .ref 71) rfl rfl (GW.at (a := 69) (k := 6) (b := 71) hG (by decide)) ?_
          refine Pv.lit rfl ?_
          refine Pv.iload rfl rfl ?_
          refine Pv.bin (z := Int32.ofNat (28 + (2 * k + s))) rfl (i_add 28 (2 * k + s)) ?_
          refine Pv.ald (z := t_a T (24 + (2 * k + s))) rfl (by rw [i_toNat (by omega)]; exact (fp_ne (Or.inl (by decide))).trans ((fp_ne (Or.inl (by decide))).trans ((fp_ne (Or.inl (by decide))).trans ((fp_ne (Or.inl (by decide))).trans ((fp_ne (Or.inl (by decide))).trans (hT.e _ (by omega))))))) ?_
          refine Pv.bin (z := (m_less 999 (((F.1 70 (i - 1)) &&& 255) + (t_a T (36 + (2 * k + s))))) - (t_a T (24 + (2 * k + s)))) rfl (rfl) ?_
          rw [show ((m_less 999 (((F.1 70 (i - 1)) &&& 255) + (t_a T (36 + (2 * k + s))))) - (t_a T (24 + (2 * k + s)))) = m_left T (2 * k + s) ((fun q => F.1 70 q &&& 255) (i - 1)) from left_less T (2 * k + s) _]
          refine Pv.istore (lo' := [some (.ref 69), some (.int b), some (.int (Int32.ofNat k)), some (.int (Int32.ofNat (2 * k + s))), some (.int w), some (.int (Int32.ofNat i)), some (.int (m_left T (2 * k + s) ((fun q => F.1 70 q &&& 255) (i - 1))))]) rfl rfl ?_
          refine Pv.iload rfl rfl ?_
          refine Pv.if0 rfl (fun c27 => ?_) (fun c27 => ?_)
          · skip
            replace c27 := of_decide_eq_true c27
            refine Pv.lit rfl ?_
            refine Pv.istore (lo' := [some (.ref 69), some (.int b), some (.int (Int32.ofNat k)), some (.int (Int32.ofNat (2 * k + s))), some (.int 0), some (.int (Int32.ofNat i)), some (.int (m_left T (2 * k + s) ((fun q => F.1 70 q &&& 255) (i - 1))))]) rfl rfl ?_
            refine Pv.iinc (y := Int32.ofNat (i + 1)) (lo' := [some (.ref 69), some (.int b), some (.int (Int32.ofNat k)), some (.int (Int32.ofNat (2 * k + s))), some (.int 0), some (.int (Int32.ofNat (i + 1))), some (.int (m_left T (2 * k + s) ((fun q => F.1 70 q &&& 255) (i - 1))))]) rfl rfl (i_add i 1) rfl ?_
            refine Pv.goto rfl ?_
            exact ih22 (i + 1, 0, (some (.int (m_left T (2 * k + s) ((fun q => F.1 70 q &&& 255) (i - 1)))))) (⟨by omega, by omega, by rw [wh_s (by omega), b2z.mp (hw.symm.trans c27), Bool.false_and]; rfl⟩)
          · skip
            replace c27 := of_decide_eq_false c27
            refine Pv.aload rfl rfl ?_
            refine Pv.iload rfl rfl ?_
            refine Pv.callV (as := [.ref 69, .int (Int32.ofNat i)]) (rest := []) (Q' := (fun r F' => Pv (ab_T (L_X11_which Z_X11_taken Z_X11_isIn Z_X11_octet Z_X11_cell Z_X11_lesser)) N19 122 [some (.ref 69), some (.int b), some (.int (Int32.ofNat k)), some (.int (Int32.ofNat (2 * k + s))), some (.int w), some (.int (Int32.ofNat i)), some (.int (m_left T (2 * k + s) ((fun q => F.1 70 q &&& 255) (i - 1))))] (r.toList ++ []) F' Q)) rfl rfl rfl ?_ (fun r F' h => h)
            refine Pm.of fun N29 => ?_
            obtain ⟨Q28, hQ28⟩ : ∃ Qx : Option Value → FW → Prop, Qx = (fun r F' => Pv (ab_T (L_X11_which Z_X11_taken Z_X11_isIn Z_X11_octet Z_X11_cell Z_X11_lesser)) N19 122 [some (.ref 69), some (.int b), some (.int (Int32.ofNat k)), some (.int (Int32.ofNat (2 * k + s))), some (.int w), some (.int (Int32.ofNat i)), some (.int (m_left T (2 * k + s) ((fun q => F.1 70 q &&& 255) (i - 1))))] (r.toList ++ []) F' Q) := ⟨_, rfl⟩
            rw [← hQ28]
            refine (show Pv (ab_T L_X11_octet) N29 0 [some (.ref 69), some (.int (Int32.ofNat i))] [] (fp (fp (fp (fp (fp F 69 0 0) 69 3 (Int32.ofNat n)) 69 2 0) 69 4 0) 69 5 940) Q28 from ?_)
            refine Pv.aload rfl rfl ?_
            refine Pv.getR (v := .ref 70) rfl rfl (GW.at (a := 69) (k := 1) (b := 70) hG (by decide)) ?_
            refine Pv.iload rfl rfl ?_
            refine Pv.ald (z := F.1 70 i) rfl (by rw [i_toNat (by omega)]; exact (fp_ne (Or.inl (by decide))).trans ((fp_ne (Or.inl (by decide))).trans ((fp_ne (Or.inl (by decide))).trans ((fp_ne (Or.inl (by decide))).trans (fp_ne (Or.inl (by decide))))))) ?_
            refine Pv.lit rfl ?_
            refine Pv.bin (z := (F.1 70 i) &&& 255) rfl (rfl) ?_
            refine Pv.ret rfl ?_
            rw [hQ28]
            refine (show Pv (ab_T (L_X11_which Z_X11_taken Z_X11_isIn Z_X11_octet Z_X11_cell Z_X11_lesser)) N19 122 [some (.ref 69), some (.int b), some (.int (Int32.ofNat k)), some (.int (Int32.ofNat (2 * k + s))), some (.int w), some (.int (Int32.ofNat i)), some (.int (m_left T (2 * k + s) ((fun q => F.1 70 q &&& 255) (i - 1))))] [.int ((F.1 70 i) &&& 255)] (fp (fp (fp (fp (fp F 69 0 0) 69 3 (Int32.ofNat n)) 69 2 0) 69 4 0) 69 5 940) Q from ?_)
            refine Pv.iload rfl rfl ?_
            refine Pv.if0 rfl (fun c30 => ?_) (fun c30 => ?_)
            · skip
              replace c30 := of_decide_eq_true c30
              refine Pv.iload rfl rfl ?_
              refine Pv.icmp rfl (fun c31 => ?_) (fun c31 => ?_)
              · skip
                replace c31 : decide ((F.1 70 i) &&& 255 = m_left T (2 * k + s) ((fun q => F.1 70 q &&& 255) (i - 1))) = false := by simpa using c31
                replace c31 := of_decide_eq_false c31
                refine Pv.lit rfl ?_
                refine Pv.istore (lo' := [some (.ref 69), some (.int b), some (.int (Int32.ofNat k)), some (.int (Int32.ofNat (2 * k + s))), some (.int 0), some (.int (Int32.ofNat i)), some (.int (m_left T (2 * k + s) ((fun q => F.1 70 q &&& 255) (i - 1))))]) rfl rfl ?_
                refine Pv.iinc (y := Int32.ofNat (i + 1)) (lo' := [some (.ref 69), some (.int b), some (.int (Int32.ofNat k)), some (.int (Int32.ofNat (2 * k + s))), some (.int 0), some (.int (Int32.ofNat (i + 1))), some (.int (m_left T (2 * k + s) ((fun q => F.1 70 q &&& 255) (i - 1))))]) rfl rfl (i_add i 1) rfl ?_
                refine Pv.goto rfl ?_
                exact ih22 (i + 1, 0, (some (.int (m_left T (2 * k + s) ((fun q => F.1 70 q &&& 255) (i - 1)))))) (⟨by omega, by omega, by rw [wh_s (by omega), b2n.mp (fun z => c27 (hw.trans z)), mx_ge c30, Bool.true_and]; exact (congrArg b2i (decide_eq_false (fun z => c31 (Eq.symm z)))).symm⟩)
              · skip
                replace c31 : decide ((F.1 70 i) &&& 255 = m_left T (2 * k + s) ((fun q => F.1 70 q &&& 255) (i - 1))) = true := by simpa using c31
                replace c31 := of_decide_eq_true c31
                refine Pv.lit rfl ?_
                refine Pv.goto rfl ?_
                refine Pv.istore (lo' := [some (.ref 69), some (.int b), some (.int (Int32.ofNat k)), some (.int (Int32.ofNat (2 * k + s))), some (.int 1), some (.int (Int32.ofNat i)), some (.int (m_left T (2 * k + s) ((fun q => F.1 70 q &&& 255) (i - 1))))]) rfl rfl ?_
                refine Pv.iinc (y := Int32.ofNat (i + 1)) (lo' := [some (.ref 69), some (.int b), some (.int (Int32.ofNat k)), some (.int (Int32.ofNat (2 * k + s))), some (.int 1), some (.int (Int32.ofNat (i + 1))), some (.int (m_left T (2 * k + s) ((fun q => F.1 70 q &&& 255) (i - 1))))]) rfl rfl (i_add i 1) rfl ?_
                refine Pv.goto rfl ?_
                exact ih22 (i + 1, 1, (some (.int (m_left T (2 * k + s) ((fun q => F.1 70 q &&& 255) (i - 1)))))) (⟨by omega, by omega, by rw [wh_s (by omega), b2n.mp (fun z => c27 (hw.trans z)), mx_ge c30, Bool.true_and]; exact (congrArg b2i (decide_eq_true (Eq.symm c31))).symm⟩)
            · skip
              replace c30 := of_decide_eq_false c30
              refine Pv.lit rfl ?_
              refine Pv.goto rfl ?_
              refine Pv.icmp rfl (fun c32 => ?_) (fun c32 => ?_)
              · skip
                replace c32 : decide ((F.1 70 i) &&& 255 = 0) = false := by simpa using c32
                replace c32 := of_decide_eq_false c32
                refine Pv.lit rfl ?_
                refine Pv.istore (lo' := [some (.ref 69), some (.int b), some (.int (Int32.ofNat k)), some (.int (Int32.ofNat (2 * k + s))), some (.int 0), some (.int (Int32.ofNat i)), some (.int (m_left T (2 * k + s) ((fun q => F.1 70 q &&& 255) (i - 1))))]) rfl rfl ?_
                refine Pv.iinc (y := Int32.ofNat (i + 1)) (lo' := [some (.ref 69), some (.int b), some (.int (Int32.ofNat k)), some (.int (Int32.ofNat (2 * k + s))), some (.int 0), some (.int (Int32.ofNat (i + 1))), some (.int (m_left T (2 * k + s) ((fun q => F.1 70 q &&& 255) (i - 1))))]) rfl rfl (i_add i 1) rfl ?_
                refine Pv.goto rfl ?_
                exact ih22 (i + 1, 0, (some (.int (m_left T (2 * k + s) ((fun q => F.1 70 q &&& 255) (i - 1)))))) (⟨by omega, by omega, by rw [wh_s (by omega), b2n.mp (fun z => c27 (hw.trans z)), mx_lt c30, Bool.true_and]; exact (congrArg b2i (decide_eq_false (fun z => c32 (Eq.symm z)))).symm⟩)
              · skip
                replace c32 : decide ((F.1 70 i) &&& 255 = 0) = true := by simpa using c32
                replace c32 := of_decide_eq_true c32
                refine Pv.lit rfl ?_
                refine Pv.goto rfl ?_
                refine Pv.istore (lo' := [some (.ref 69), some (.int b), some (.int (Int32.ofNat k)), some (.int (Int32.ofNat (2 * k + s))), some (.int 1), some (.int (Int32.ofNat i)), some (.int (m_left T (2 * k + s) ((fun q => F.1 70 q &&& 255) (i - 1))))]) rfl rfl ?_
                refine Pv.iinc (y := Int32.ofNat (i + 1)) (lo' := [some (.ref 69), some (.int b), some (.int (Int32.ofNat k)), some (.int (Int32.ofNat (2 * k + s))), some (.int 1), some (.int (Int32.ofNat (i + 1))), some (.int (m_left T (2 * k + s) ((fun q => F.1 70 q &&& 255) (i - 1))))]) rfl rfl (i_add i 1) rfl ?_
                refine Pv.goto rfl ?_
                exact ih22 (i + 1, 1, (some (.int (m_left T (2 * k + s) ((fun q => F.1 70 q &&& 255) (i - 1)))))) (⟨by omega, by omega, by rw [wh_s (by omega), b2n.mp (fun z => c27 (hw.trans z)), mx_lt c30, Bool.true_and]; exact (congrArg b2i (decide_eq_true (Eq.symm c32))).symm⟩)
    · skip
      replace c6 := of_decide_eq_false c6
      refine Pv.lit rfl ?_
      exact Pv.ret rfl (by rw [hQ]; exact ⟨by unfold a_which; rw [if_pos (ndr_y (by omega) ((ndr_in (a := 3) (b := 31) (by omega) (by omega)).symm.trans c3)), oct_n c6], rfl⟩)
set_option maxRecDepth 100000 in
set_option maxHeartbeats 4000000 in
theorem o_looksLike {F : FW} {p r : Nat} (hp : O7 F p) (hr : O7 F r) : Pm Z_X6_looksLike [.ref p, .ref r] F (fun r F' => (∃ z, r = some (.int z)) ∧ F' = F) := by
  refine Pm.of fun N => ?_
  obtain ⟨Q, hQ⟩ : ∃ Q : Option Value → FW → Prop, Q = (fun r F' => (∃ z, r = some (.int z)) ∧ F' = F) := ⟨_, rfl⟩
  rw [← hQ]
  refine (show Pv (ab_T L_X6_looksLike) N 0 [some (.ref p), some (.ref r), none] [] F Q from ?_)
  refine Pv.lit rfl ?_
  refine Pv.istore (lo' := [some (.ref p), some (.ref r), some (.int 0)]) rfl rfl ?_
  refine Pv.lp (ι := Nat) (lof := fun k => [some (.ref p), some (.ref r), some (.int (Int32.ofNat k))]) (Ff := fun k => F) (P := fun k => k ≤ 12) ?_ 0 (Nat.zero_le _)
  rintro N1 hN2 k hi3 ih4
  refine (show Pv _ _ 2 [some (.ref p), some (.ref r), some (.int (Int32.ofNat k))] [] F Q from ?_)
  have hk := hi3
  refine Pv.iloadS rfl rfl ?_
  refine Pv.lit rfl ?_
  refine Pv.icmp rfl (fun c5 => ?_) (fun c5 => ?_)
  · skip
    replace c5 := (i_le (a := 12) (b := k) (by omega) (by omega)).mp (of_decide_eq_true c5)
    refine Pv.lit rfl ?_
    refine Pv.istore (lo' := [some (.ref p), some (.ref r), some (.int 0)]) rfl rfl ?_
    refine Pv.lp (ι := Nat) (lof := fun k => [some (.ref p), some (.ref r), some (.int (Int32.ofNat k))]) (Ff := fun k => F) (P := fun k => k ≤ 8) ?_ 0 (Nat.zero_le _)
    rintro N6 hN7 k hi8 ih9
    refine (show Pv _ _ 33 [some (.ref p), some (.ref r), some (.int (Int32.ofNat k))] [] F Q from ?_)
    have hk := hi8
    refine Pv.iloadS rfl rfl ?_
    refine Pv.lit rfl ?_
    refine Pv.icmp rfl (fun c10 => ?_) (fun c10 => ?_)
    · skip
      replace c10 := (i_le (a := 8) (b := k) (by omega) (by omega)).mp (of_decide_eq_true c10)
      refine Pv.lit rfl ?_
      exact Pv.zret rfl (by rw [hQ]; exact ⟨⟨_, rfl⟩, rfl⟩)
    · skip
      replace c10 := mt (i_le (a := 8) (b := k) (by omega) (by omega)).mpr (of_decide_eq_false c10)
      refine Pv.aload rfl rfl ?_
      refine Pv.getR (v := .ref (p + 5)) rfl rfl ((hp 4 (by decide))) ?_
      refine Pv.iload rfl rfl ?_
      refine Pv.ald (z := F.1 (p + 5) k) rfl (by rw [i_toNat (by omega)]) ?_
      refine Pv.aload rfl rfl ?_
      refine Pv.getR (v := .ref (r + 5)) rfl rfl ((hr 4 (by decide))) ?_
      refine Pv.iload rfl rfl ?_
      refine Pv.ald (z := F.1 (r + 5) k) rfl (by rw [i_toNat (by omega)]) ?_
      refine Pv.icmp rfl (fun c11 => ?_) (fun c11 => ?_)
      · skip
        replace c11 := of_decide_eq_true c11
        refine Pv.iinc (y := Int32.ofNat (k + 1)) (lo' := [some (.ref p), some (.ref r), some (.int (Int32.ofNat (k + 1)))]) rfl rfl (i_add k 1) rfl ?_
        refine Pv.goto rfl ?_
        exact ih9 (k + 1) (by omega)
      · skip
        replace c11 := of_decide_eq_false c11
        refine Pv.lit rfl ?_
        exact Pv.zret rfl (by rw [hQ]; exact ⟨⟨_, rfl⟩, rfl⟩)
  · skip
    replace c5 := mt (i_le (a := 12) (b := k) (by omega) (by omega)).mpr (of_decide_eq_false c5)
    refine Pv.aload rfl rfl ?_
    refine Pv.getR (v := .ref (p + 1)) rfl rfl ((hp 0 (by decide))) ?_
    refine Pv.iload rfl rfl ?_
    refine Pv.ald (z := F.1 (p + 1) k) rfl (by rw [i_toNat (by omega)]) ?_
    refine Pv.aload rfl rfl ?_
    refine Pv.getR (v := .ref (r + 1)) rfl rfl ((hr 0 (by decide))) ?_
    refine Pv.iload rfl rfl ?_
    refine Pv.ald (z := F.1 (r + 1) k) rfl (by rw [i_toNat (by omega)]) ?_
    refine Pv.icmp rfl (fun c12 => ?_) (fun c12 => ?_)
    · skip
      replace c12 := of_decide_eq_true c12
      refine Pv.iinc (y := Int32.ofNat (k + 1)) (lo' := [some (.ref p), some (.ref r), some (.int (Int32.ofNat (k + 1)))]) rfl rfl (i_add k 1) rfl ?_
      refine Pv.goto rfl ?_
      exact ih4 (k + 1) (by omega)
    · skip
      replace c12 := of_decide_eq_false c12
      refine Pv.lit rfl ?_
      exact Pv.zret rfl (by rw [hQ]; exact ⟨⟨_, rfl⟩, rfl⟩)
set_option maxRecDepth 100000 in
set_option maxHeartbeats 4000000 in
theorem o_settles {F : FW} {t : Nat} {T : St} {S : Sh} (hG : GW F) (ht : F.2.1 0 13 = .ref t) (hT : TR F t T) (hS : SHR F 12 (t_m T) S) (j0 : t = 45 ∨ t = 53) : Pm Z_X10_settles [.ref 0] F (fun r F' => (∃ z, r = some (.int z)) ∧ CDR F F') := by
  refine Pm.of fun N => ?_
  obtain ⟨Q, hQ⟩ : ∃ Q : Option Value → FW → Prop, Q = (fun r F' => (∃ z, r = some (.int z)) ∧ CDR F F') := ⟨_, rfl⟩
  rw [← hQ]
  have b3 := hT.mb
  have b4 := hT.nb
  have b5 := hT.gb
  have b6 := m_from_lt S
  have b7 := hS.db
  refine (show Pv (ab_T (L_X10_settles Z_X6_copyFrom Z_X1_passDays Z_X6_looksLike)) N 0 [some (.ref 0), none] [] F Q from ?_)
  refine Pv.aload rfl rfl ?_
  refine Pv.getR (v := .ref 28) rfl rfl (GW.at (a := 0) (k := 6) (b := 28) hG (by decide)) ?_
  refine Pv.aload rfl rfl ?_
  refine Pv.getR (v := .ref 12) rfl rfl (GW.at (a := 0) (k := 4) (b := 12) hG (by decide)) ?_
  refine Pv.callV (as := [.ref 28, .ref 12]) (rest := []) rfl rfl rfl (f_shCopy (GW.o28 hG) hS b3 (by omega)) ?_
  rintro _ G1 ⟨rfl, x2, sr4⟩
  have hx3 := FX.tr (P := fun q => (7 ≤ q ∧ q ≤ 9) ∨ (20 ≤ q ∧ q ≤ 35) ∨ q = 40 ∨ q = 43) FX.rf (x2.wd (fun q (c : 28 ≤ q ∧ q ≤ 28 + 7) => (show (7 ≤ q ∧ q ≤ 9) ∨ (20 ≤ q ∧ q ≤ 35) ∨ q = 40 ∨ q = 43 by omega)))
  have hx5 := hT.fx (P := fun q => 28 ≤ q ∧ q ≤ 28 + 7) x2 (fun q h1 h2 (c : 28 ≤ q ∧ q ≤ 28 + 7) => by omega)
  have hx6 := hS.fx (P := fun q => 28 ≤ q ∧ q ≤ 28 + 7) x2 (fun q h1 h2 (c : 28 ≤ q ∧ q ≤ 28 + 7) => by omega)
  have hx7 := hG.fx (P := fun q => 28 ≤ q ∧ q ≤ 28 + 7) x2
  have hr8 : G1.2.1 0 13 = .ref t := by rw [x2.2.2.1]; exact ht
  refine (show Pv _ _ 11 [some (.ref 0), none] [] G1 Q from ?_)
  refine Pv.aload rfl rfl ?_
  refine Pv.getR (v := .ref 20) rfl rfl (GW.at (a := 0) (k := 5) (b := 20) hx7 (by decide)) ?_
  refine Pv.aload rfl rfl ?_
  refine Pv.getR (v := .ref 12) rfl rfl (GW.at (a := 0) (k := 4) (b := 12) hx7 (by decide)) ?_
  refine Pv.callV (as := [.ref 20, .ref 12]) (rest := []) rfl rfl rfl (f_shCopy (GW.o20 hx7) hx6 b3 (by omega)) ?_
  rintro _ G9 ⟨rfl, x10, sr12⟩
  have hx11 := FX.tr (P := fun q => (7 ≤ q ∧ q ≤ 9) ∨ (20 ≤ q ∧ q ≤ 35) ∨ q = 40 ∨ q = 43) hx3 (x10.wd (fun q (c : 20 ≤ q ∧ q ≤ 20 + 7) => (show (7 ≤ q ∧ q ≤ 9) ∨ (20 ≤ q ∧ q ≤ 35) ∨ q = 40 ∨ q = 43 by omega)))
  have hx13 := hx5.fx (P := fun q => 20 ≤ q ∧ q ≤ 20 + 7) x10 (fun q h1 h2 (c : 20 ≤ q ∧ q ≤ 20 + 7) => by omega)
  have hx14 := hx6.fx (P := fun q => 20 ≤ q ∧ q ≤ 20 + 7) x10 (fun q h1 h2 (c : 20 ≤ q ∧ q ≤ 20 + 7) => by omega)
  have hx15 := sr4.fx (P := fun q => 20 ≤ q ∧ q ≤ 20 + 7) x10 (fun q h1 h2 (c : 20 ≤ q ∧ q ≤ 20 + 7) => by omega)
  have hx16 := hx7.fx (P := fun q => 20 ≤ q ∧ q ≤ 20 + 7) x10
  have hr17 : G9.2.1 0 13 = .ref t := by rw [x10.2.2.1]; exact hr8
  refine (show Pv _ _ 22 [some (.ref 0), none] [] G9 Q from ?_)
  refine Pv.aload rfl rfl ?_
  refine Pv.getR (v := .ref 7) rfl rfl (GW.at (a := 0) (k := 2) (b := 7) hx16 (by decide)) ?_
  refine Pv.aload rfl rfl ?_
  refine Pv.getR (v := .ref t) rfl rfl (hr17) ?_
  refine Pv.aload rfl rfl ?_
  refine Pv.getR (v := .ref 20) rfl rfl (GW.at (a := 0) (k := 5) (b := 20) hx16 (by decide)) ?_
  refine Pv.lit rfl ?_
  refine Pv.callV (as := [.ref 7, .ref t, .ref 20, .int 2]) (rest := []) rfl rfl rfl (f_passDays (n := 2) hx13 sr12 hx16 (by omega) (by omega) (by omega) (by omega)) ?_
  rintro _ G18 ⟨rfl, x19, sr21, pl22⟩
  have hx20 := FX.tr (P := fun q => (7 ≤ q ∧ q ≤ 9) ∨ (20 ≤ q ∧ q ≤ 35) ∨ q = 40 ∨ q = 43) hx11 (x19.wd (fun q (c : (20 ≤ q ∧ q ≤ 20 + 7) ∨ (7 ≤ q ∧ q ≤ 9)) => (show (7 ≤ q ∧ q ≤ 9) ∨ (20 ≤ q ∧ q ≤ 35) ∨ q = 40 ∨ q = 43 by omega)))
  have hx23 := hx13.fx (P := fun q => (20 ≤ q ∧ q ≤ 20 + 7) ∨ (7 ≤ q ∧ q ≤ 9)) x19 (fun q h1 h2 (c : (20 ≤ q ∧ q ≤ 20 + 7) ∨ (7 ≤ q ∧ q ≤ 9)) => by omega)
  have hx24 := hx14.fx (P := fun q => (20 ≤ q ∧ q ≤ 20 + 7) ∨ (7 ≤ q ∧ q ≤ 9)) x19 (fun q h1 h2 (c : (20 ≤ q ∧ q ≤ 20 + 7) ∨ (7 ≤ q ∧ q ≤ 9)) => by omega)
  have hx25 := hx15.fx (P := fun q => (20 ≤ q ∧ q ≤ 20 + 7) ∨ (7 ≤ q ∧ q ≤ 9)) x19 (fun q h1 h2 (c : (20 ≤ q ∧ q ≤ 20 + 7) ∨ (7 ≤ q ∧ q ≤ 9)) => by omega)
  have hx26 := hx16.fx (P := fun q => (20 ≤ q ∧ q ≤ 20 + 7) ∨ (7 ≤ q ∧ q ≤ 9)) x19
  have hr27 : G18.2.1 0 13 = .ref t := by rw [x19.2.2.1]; exact hr17
  refine (show Pv _ _ 38 [some (.ref 0), none] [.int (Int32.ofNat (h_d (m_days T S 2)) - Int32.ofNat (h_d S))] G18 Q from ?_)
  refine Pv.lit rfl ?_
  refine Pv.icmp rfl (fun c28 => ?_) (fun c28 => ?_)
  · skip
    replace c28 := of_decide_eq_true c28
    refine Pv.lit rfl ?_
    refine Pv.istore (lo' := [some (.ref 0), some (.int 0)]) rfl rfl ?_
    refine Pv.lp (ι := Nat × FW) (lof := fun ⟨k, G⟩ => [some (.ref 0), some (.int (Int32.ofNat k))]) (Ff := fun ⟨k, G⟩ => G) (P := fun ⟨k, G⟩ => FX (fun q => (7 ≤ q ∧ q ≤ 9) ∨ (20 ≤ q ∧ q ≤ 35) ∨ q = 40 ∨ q = 43) F G ∧ (k ≤ 200) ∧ (SHR G 20 (t_m T) (m_days T S (k + 2))) ∧ (SHR G 28 (t_m T) (m_days T S k))) ?_ (0, G18) (⟨hx20, Nat.zero_le _, sr21, hx25⟩)
    rintro N29 hN30 ⟨k, G⟩ hi31 ih32
    refine (show Pv _ _ 46 [some (.ref 0), some (.int (Int32.ofNat k))] [] G Q from ?_)
    obtain ⟨hxG, hk, hA, hB⟩ := hi31
    have hx33 := hT.fx (P := fun q => (7 ≤ q ∧ q ≤ 9) ∨ (20 ≤ q ∧ q ≤ 35) ∨ q = 40 ∨ q = 43) hxG (fun q h1 h2 (c : (7 ≤ q ∧ q ≤ 9) ∨ (20 ≤ q ∧ q ≤ 35) ∨ q = 40 ∨ q = 43) => by omega)
    have hx34 := hS.fx (P := fun q => (7 ≤ q ∧ q ≤ 9) ∨ (20 ≤ q ∧ q ≤ 35) ∨ q = 40 ∨ q = 43) hxG (fun q h1 h2 (c : (7 ≤ q ∧ q ≤ 9) ∨ (20 ≤ q ∧ q ≤ 35) ∨ q = 40 ∨ q = 43) => by omega)
    have hx35 := hG.fx (P := fun q => (7 ≤ q ∧ q ≤ 9) ∨ (20 ≤ q ∧ q ≤ 35) ∨ q = 40 ∨ q = 43) hxG
    have hx36 : G.2.1 0 13 = .ref t := by rw [hxG.2.2.1]; exact ht
    have bD := hA.db
    have bE := hB.db
    refine Pv.iloadS rfl rfl ?_
    refine Pv.lit rfl ?_
    refine Pv.icmp rfl (fun c37 => ?_) (fun c37 => ?_)
    · skip
      replace c37 := (i_le (a := 200) (b := k) (by omega) (by omega)).mp (of_decide_eq_true c37)
      refine Pv.lit rfl ?_
      exact Pv.ret rfl (by rw [hQ]; exact ⟨⟨_, rfl⟩, hxG⟩)
    · skip
      replace c37 := mt (i_le (a := 200) (b := k) (by omega) (by omega)).mpr (of_decide_eq_false c37)
      refine Pv.aload rfl rfl ?_
      refine Pv.getR (v := .ref 20) rfl rfl (GW.at (a := 0) (k := 5) (b := 20) hx35 (by decide)) ?_
      refine Pv.aload rfl rfl ?_
      refine Pv.getR (v := .ref 28) rfl rfl (GW.at (a := 0) (k := 6) (b := 28) hx35 (by decide)) ?_
      refine Pv.callV (as := [.ref 20, .ref 28]) (rest := []) rfl rfl rfl (o_looksLike hA.o hB.o) ?_
      rintro _ Fe ⟨⟨z38, rfl⟩, ee⟩
      obtain rfl := ee.symm
      refine (show Pv _ _ 64 [some (.ref 0), some (.int (Int32.ofNat k))] [.int z38] G Q from ?_)
      refine Pv.if0 rfl (fun c39 => ?_) (fun c39 => ?_)
      · skip
        replace c39 := of_decide_eq_true c39
        refine Pv.aload rfl rfl ?_
        refine Pv.getR (v := .ref 20) rfl rfl (GW.at (a := 0) (k := 5) (b := 20) hx35 (by decide)) ?_
        refine Pv.getI (z := Int32.ofNat (h_d (m_days T S (k + 2)))) rfl rfl (hA.d) ?_
        refine Pv.lit rfl ?_
        refine Pv.icmp rfl (fun c40 => ?_) (fun c40 => ?_)
        · skip
          replace c40 := (i_lt (a := h_d (m_days T S (k + 2))) (b := 400) (by omega) (by omega)).mp (of_decide_eq_true c40)
          refine Pv.aload rfl rfl ?_
          refine Pv.getR (v := .ref 7) rfl rfl (GW.at (a := 0) (k := 2) (b := 7) hx35 (by decide)) ?_
          refine Pv.aload rfl rfl ?_
          refine Pv.getR (v := .ref t) rfl rfl (hx36) ?_
          refine Pv.aload rfl rfl ?_
          refine Pv.getR (v := .ref 20) rfl rfl (GW.at (a := 0) (k := 5) (b := 20) hx35 (by decide)) ?_
          refine Pv.lit rfl ?_
          refine Pv.callV (as := [.ref 7, .ref t, .ref 20, .int 1]) (rest := []) rfl rfl rfl (f_passDays (n := 1) hx33 hA hx35 (by omega) (by omega) (by omega) (by omega)) ?_
          rintro _ G41 ⟨rfl, x42, sr44, pl45⟩
          have hx43 := FX.tr (P := fun q => (7 ≤ q ∧ q ≤ 9) ∨ (20 ≤ q ∧ q ≤ 35) ∨ q = 40 ∨ q = 43) hxG (x42.wd (fun q (c : (20 ≤ q ∧ q ≤ 20 + 7) ∨ (7 ≤ q ∧ q ≤ 9)) => (show (7 ≤ q ∧ q ≤ 9) ∨ (20 ≤ q ∧ q ≤ 35) ∨ q = 40 ∨ q = 43 by omega)))
          have hx46 := hx33.fx (P := fun q => (20 ≤ q ∧ q ≤ 20 + 7) ∨ (7 ≤ q ∧ q ≤ 9)) x42 (fun q h1 h2 (c : (20 ≤ q ∧ q ≤ 20 + 7) ∨ (7 ≤ q ∧ q ≤ 9)) => by omega)
          have hx47 := hx34.fx (P := fun q => (20 ≤ q ∧ q ≤ 20 + 7) ∨ (7 ≤ q ∧ q ≤ 9)) x42 (fun q h1 h2 (c : (20 ≤ q ∧ q ≤ 20 + 7) ∨ (7 ≤ q ∧ q ≤ 9)) => by omega)
          have hx48 := hB.fx (P := fun q => (20 ≤ q ∧ q ≤ 20 + 7) ∨ (7 ≤ q ∧ q ≤ 9)) x42 (fun q h1 h2 (c : (20 ≤ q ∧ q ≤ 20 + 7) ∨ (7 ≤ q ∧ q ≤ 9)) => by omega)
          have hx49 := hx35.fx (P := fun q => (20 ≤ q ∧ q ≤ 20 + 7) ∨ (7 ≤ q ∧ q ≤ 9)) x42
          have hr50 : G41.2.1 0 13 = .ref t := by rw [x42.2.2.1]; exact hx36
          refine (show Pv _ _ 106 [some (.ref 0), some (.int (Int32.ofNat k))] [.int (Int32.ofNat (h_d (m_days T (m_days T S (k + 2)) 1)) - Int32.ofNat (h_d (m_days T S (k + 2))))] G41 Q from ?_)
          refine Pv.pop rfl ?_
          refine Pv.aload rfl rfl ?_
          refine Pv.getR (v := .ref 7) rfl rfl (GW.at (a := 0) (k := 2) (b := 7) hx49 (by decide)) ?_
          refine Pv.aload rfl rfl ?_
          refine Pv.getR (v := .ref t) rfl rfl (hr50) ?_
          refine Pv.aload rfl rfl ?_
          refine Pv.getR (v := .ref 28) rfl rfl (GW.at (a := 0) (k := 6) (b := 28) hx49 (by decide)) ?_
          refine Pv.lit rfl ?_
          refine Pv.callV (as := [.ref 7, .ref t, .ref 28, .int 1]) (rest := []) rfl rfl rfl (f_passDays (n := 1) hx46 hx48 hx49 (by omega) (by omega) (by omega) (by omega)) ?_
          rintro _ G51 ⟨rfl, x52, sr54, pl55⟩
          have hx53 := FX.tr (P := fun q => (7 ≤ q ∧ q ≤ 9) ∨ (20 ≤ q ∧ q ≤ 35) ∨ q = 40 ∨ q = 43) hx43 (x52.wd (fun q (c : (28 ≤ q ∧ q ≤ 28 + 7) ∨ (7 ≤ q ∧ q ≤ 9)) => (show (7 ≤ q ∧ q ≤ 9) ∨ (20 ≤ q ∧ q ≤ 35) ∨ q = 40 ∨ q = 43 by omega)))
          have hx56 := hx46.fx (P := fun q => (28 ≤ q ∧ q ≤ 28 + 7) ∨ (7 ≤ q ∧ q ≤ 9)) x52 (fun q h1 h2 (c : (28 ≤ q ∧ q ≤ 28 + 7) ∨ (7 ≤ q ∧ q ≤ 9)) => by omega)
          have hx57 := hx47.fx (P := fun q => (28 ≤ q ∧ q ≤ 28 + 7) ∨ (7 ≤ q ∧ q ≤ 9)) x52 (fun q h1 h2 (c : (28 ≤ q ∧ q ≤ 28 + 7) ∨ (7 ≤ q ∧ q ≤ 9)) => by omega)
          have hx58 := sr44.fx (P := fun q => (28 ≤ q ∧ q ≤ 28 + 7) ∨ (7 ≤ q ∧ q ≤ 9)) x52 (fun q h1 h2 (c : (28 ≤ q ∧ q ≤ 28 + 7) ∨ (7 ≤ q ∧ q ≤ 9)) => by omega)
          have hx59 := hx49.fx (P := fun q => (28 ≤ q ∧ q ≤ 28 + 7) ∨ (7 ≤ q ∧ q ≤ 9)) x52
          have hr60 : G51.2.1 0 13 = .ref t := by rw [x52.2.2.1]; exact hr50
          refine (show Pv _ _ 123 [some (.ref 0), some (.int (Int32.ofNat k))] [.int (Int32.ofNat (h_d (m_days T (m_days T S k) 1)) - Int32.ofNat (h_d (m_days T S k)))] G51 Q from ?_)
          refine Pv.pop rfl ?_
          refine Pv.iinc (y := Int32.ofNat (k + 1)) (lo' := [some (.ref 0), some (.int (Int32.ofNat (k + 1)))]) rfl rfl (i_add k 1) rfl ?_
          refine Pv.goto rfl ?_
          exact ih32 (k + 1, G51) (⟨hx53, by omega, (show SHR G51 20 (t_m T) (m_days T S (k + 1 + 2)) from hx58), (show SHR G51 28 (t_m T) (m_days T S (k + 1)) from sr54)⟩)
        · skip
          replace c40 := mt (i_lt (a := h_d (m_days T S (k + 2))) (b := 400) (by omega) (by omega)).mpr (of_decide_eq_false c40)
          refine Pv.lit rfl ?_
          exact Pv.ret rfl (by rw [hQ]; exact ⟨⟨_, rfl⟩, hxG⟩)
      · skip
        replace c39 := of_decide_eq_false c39
        refine Pv.aload rfl rfl ?_
        refine Pv.getR (v := .ref 28) rfl rfl (GW.at (a := 0) (k := 6) (b := 28) hx35 (by decide)) ?_
        refine Pv.getI (z := Int32.ofNat (h_d (m_days T S k))) rfl rfl (hB.d) ?_
        exact Pv.ret rfl (by rw [hQ]; exact ⟨⟨_, rfl⟩, hxG⟩)
  · skip
    replace c28 := of_decide_eq_false c28
    refine Pv.lit rfl ?_
    exact Pv.ret rfl (by rw [hQ]; exact ⟨⟨_, rfl⟩, hx20⟩)
set_option maxRecDepth 100000 in
set_option maxHeartbeats 4000000 in
theorem g_lays {F : FW} {k : Nat} (hG : GW F) (hk3 : k < 3) : Pm Z_X11_lays [.ref 69, .int (Int32.ofNat k)] F (fun r F' => r = none ∧ FX (fun q => q = 79) F F') := by
  refine Pm.of fun N => ?_
  obtain ⟨Q, hQ⟩ : ∃ Q : Option Value → FW → Prop, Q = (fun r F' => r = none ∧ FX (fun q => q = 79) F F') := ⟨_, rfl⟩
  rw [← hQ]
  refine (show Pv (ab_T L_X11_lays) N 0 [some (.ref 69), some (.int (Int32.ofNat k)), none] [] F Q from ?_)
  refine Pv.lit rfl ?_
  refine Pv.istore (lo' := [some (.ref 69), some (.int (Int32.ofNat k)), some (.int 0)]) rfl rfl ?_
  refine Pv.lp (ι := Nat × FW) (lof := fun ⟨i, G⟩ => [some (.ref 69), some (.int (Int32.ofNat k)), some (.int (Int32.ofNat i))]) (Ff := fun ⟨i, G⟩ => G) (P := fun ⟨i, G⟩ => (i ≤ 12) ∧ (FX (fun q => q = 79) F G)) ?_ (0, F) (⟨Nat.zero_le _, FX.rf⟩)
  rintro N1 hN2 ⟨i, G⟩ hi3 ih4
  refine (show Pv _ _ 2 [some (.ref 69), some (.int (Int32.ofNat k)), some (.int (Int32.ofNat i))] [] G Q from ?_)
  obtain ⟨hi, hxG⟩ := hi3
  have hx5 := hG.fx (P := fun q => q = 79) hxG
  refine Pv.iloadS rfl rfl ?_
  refine Pv.lit rfl ?_
  refine Pv.icmp rfl (fun c6 => ?_) (fun c6 => ?_)
  · skip
    replace c6 := (i_le (a := 12) (b := i) (by omega) (by omega)).mp (of_decide_eq_true c6)
    refine Pv.lit rfl ?_
    refine Pv.istore (lo' := [some (.ref 69), some (.int (Int32.ofNat k)), some (.int 0)]) rfl rfl ?_
    refine Pv.lp (ι := Nat × FW) (lof := fun ⟨i, G2⟩ => [some (.ref 69), some (.int (Int32.ofNat k)), some (.int (Int32.ofNat i))]) (Ff := fun ⟨i, G2⟩ => G2) (P := fun ⟨i, G2⟩ => (i ≤ 8) ∧ (FX (fun q => q = 79) F G2)) ?_ (0, G) (⟨Nat.zero_le _, hxG⟩)
    rintro N7 hN8 ⟨i, G2⟩ hi9 ih10
    refine (show Pv _ _ 36 [some (.ref 69), some (.int (Int32.ofNat k)), some (.int (Int32.ofNat i))] [] G2 Q from ?_)
    obtain ⟨hi, hxG2⟩ := hi9
    have hx11 := hG.fx (P := fun q => q = 79) hxG2
    refine Pv.iloadS rfl rfl ?_
    refine Pv.lit rfl ?_
    refine Pv.icmp rfl (fun c12 => ?_) (fun c12 => ?_)
    · skip
      replace c12 := (i_le (a := 8) (b := i) (by omega) (by omega)).mp (of_decide_eq_true c12)
      exact Pv.vret rfl (by rw [hQ]; exact ⟨rfl, hxG2⟩)
    · skip
      replace c12 := mt (i_le (a := 8) (b := i) (by omega) (by omega)).mpr (of_decide_eq_false c12)
      refine Pv.aload rfl rfl ?_
      refine Pv.getR (v := .ref 79) rfl rfl (GW.at (a := 69) (k := 26) (b := 79) hx11 (by decide)) ?_
      refine Pv.lit rfl ?_
      refine Pv.iload rfl rfl ?_
      refine Pv.bin (z := Int32.ofNat (20 * k)) rfl (i_mul 20 k) ?_
      refine Pv.lit rfl ?_
      refine Pv.bin (z := Int32.ofNat ((20 * k) + 12)) rfl (i_add (20 * k) 12) ?_
      refine Pv.iload rfl rfl ?_
      refine Pv.bin (z := Int32.ofNat (((20 * k) + 12) + i)) rfl (i_add ((20 * k) + 12) i) ?_
      refine Pv.aload rfl rfl ?_
      refine Pv.getR (v := .ref 71) rfl rfl (GW.at (a := 69) (k := 6) (b := 71) hx11 (by decide)) ?_
      refine Pv.lit rfl ?_
      refine Pv.iload rfl rfl ?_
      refine Pv.bin (z := Int32.ofNat (172 + i)) rfl (i_add 172 i) ?_
      refine Pv.ald (z := F.1 71 (172 + i)) rfl (by rw [i_toNat (by omega)]; exact hxG2.1 71 _ (by decide)) ?_
      refine Pv.astk (k := ((20 * k) + 12) + i) (z := F.1 71 (172 + i)) rfl (i_toNat (by omega)) (rfl) ?_
      refine Pv.iinc (y := Int32.ofNat (i + 1)) (lo' := [some (.ref 69), some (.int (Int32.ofNat k)), some (.int (Int32.ofNat (i + 1)))]) rfl rfl (i_add i 1) rfl ?_
      refine Pv.goto rfl ?_
      exact ih10 (i + 1, (fp G2 79 (((20 * k) + 12) + i) (F.1 71 (172 + i)))) (⟨by omega, (hxG2).fp (show 79 = 79 by omega)⟩)
  · skip
    replace c6 := mt (i_le (a := 12) (b := i) (by omega) (by omega)).mpr (of_decide_eq_false c6)
    refine Pv.aload rfl rfl ?_
    refine Pv.getR (v := .ref 79) rfl rfl (GW.at (a := 69) (k := 26) (b := 79) hx5 (by decide)) ?_
    refine Pv.lit rfl ?_
    refine Pv.iload rfl rfl ?_
    refine Pv.bin (z := Int32.ofNat (20 * k)) rfl (i_mul 20 k) ?_
    refine Pv.iload rfl rfl ?_
    refine Pv.bin (z := Int32.ofNat ((20 * k) + i)) rfl (i_add (20 * k) i) ?_
    refine Pv.aload rfl rfl ?_
    refine Pv.getR (v := .ref 71) rfl rfl (GW.at (a := 69) (k := 6) (b := 71) hx5 (by decide)) ?_
    refine Pv.lit rfl ?_
    refine Pv.iload rfl rfl ?_
    refine Pv.bin (z := Int32.ofNat (124 + i)) rfl (i_add 124 i) ?_
    refine Pv.ald (z := F.1 71 (124 + i)) rfl (by rw [i_toNat (by omega)]; exact hxG.1 71 _ (by decide)) ?_
    refine Pv.astk (k := (20 * k) + i) (z := F.1 71 (124 + i)) rfl (i_toNat (by omega)) (rfl) ?_
    refine Pv.iinc (y := Int32.ofNat (i + 1)) (lo' := [some (.ref 69), some (.int (Int32.ofNat k)), some (.int (Int32.ofNat (i + 1)))]) rfl rfl (i_add i 1) rfl ?_
    refine Pv.goto rfl ?_
    exact ih4 (i + 1, (fp G 79 ((20 * k) + i) (F.1 71 (124 + i)))) (⟨by omega, (hxG).fp (show 79 = 79 by omega)⟩)
set_option maxRecDepth 100000 in
set_option maxHeartbeats 4000000 in
theorem g_areAlike {F : FW} {k j : Nat} (hG : GW F) (hk3 : k < 3) (hj3 : j < 3) : Pm Z_X11_areAlike [.ref 69, .int (Int32.ofNat k), .int (Int32.ofNat j)] F (fun r F' => (∃ z, r = some (.int z)) ∧ F' = F) := by
  refine Pm.of fun N => ?_
  obtain ⟨Q, hQ⟩ : ∃ Q : Option Value → FW → Prop, Q = (fun r F' => (∃ z, r = some (.int z)) ∧ F' = F) := ⟨_, rfl⟩
  rw [← hQ]
  refine (show Pv (ab_T L_X11_areAlike) N 0 [some (.ref 69), some (.int (Int32.ofNat k)), some (.int (Int32.ofNat j)), none] [] F Q from ?_)
  refine Pv.lit rfl ?_
  refine Pv.istore (lo' := [some (.ref 69), some (.int (Int32.ofNat k)), some (.int (Int32.ofNat j)), some (.int 0)]) rfl rfl ?_
  refine Pv.lp (ι := Nat) (lof := fun i => [some (.ref 69), some (.int (Int32.ofNat k)), some (.int (Int32.ofNat j)), some (.int (Int32.ofNat i))]) (Ff := fun i => F) (P := fun i => i ≤ 20) ?_ 0 (Nat.zero_le _)
  rintro N1 hN2 i hi3 ih4
  refine (show Pv _ _ 2 [some (.ref 69), some (.int (Int32.ofNat k)), some (.int (Int32.ofNat j)), some (.int (Int32.ofNat i))] [] F Q from ?_)
  have hi0 := hi3
  refine Pv.iloadS rfl rfl ?_
  refine Pv.lit rfl ?_
  refine Pv.icmp rfl (fun c5 => ?_) (fun c5 => ?_)
  · skip
    replace c5 := (i_le (a := 20) (b := i) (by omega) (by omega)).mp (of_decide_eq_true c5)
    refine Pv.lit rfl ?_
    exact Pv.zret rfl (by rw [hQ]; exact ⟨⟨_, rfl⟩, rfl⟩)
  · skip
    replace c5 := mt (i_le (a := 20) (b := i) (by omega) (by omega)).mpr (of_decide_eq_false c5)
    refine Pv.aload rfl rfl ?_
    refine Pv.getR (v := .ref 79) rfl rfl (GW.at (a := 69) (k := 26) (b := 79) hG (by decide)) ?_
    refine Pv.lit rfl ?_
    refine Pv.iload rfl rfl ?_
    refine Pv.bin (z := Int32.ofNat (20 * k)) rfl (i_mul 20 k) ?_
    refine Pv.iload rfl rfl ?_
    refine Pv.bin (z := Int32.ofNat ((20 * k) + i)) rfl (i_add (20 * k) i) ?_
    refine Pv.ald (z := F.1 79 ((20 * k) + i)) rfl (by rw [i_toNat (by omega)]) ?_
    refine Pv.aload rfl rfl ?_
    refine Pv.getR (v := .ref 79) rfl rfl (GW.at (a := 69) (k := 26) (b := 79) hG (by decide)) ?_
    refine Pv.lit rfl ?_
    refine Pv.iload rfl rfl ?_
    refine Pv.bin (z := Int32.ofNat (20 * j)) rfl (i_mul 20 j) ?_
    refine Pv.iload rfl rfl ?_
    refine Pv.bin (z := Int32.ofNat ((20 * j) + i)) rfl (i_add (20 * j) i) ?_
    refine Pv.ald (z := F.1 79 ((20 * j) + i)) rfl (by rw [i_toNat (by omega)]) ?_
    refine Pv.icmp rfl (fun c6 => ?_) (fun c6 => ?_)
    · skip
      replace c6 := of_decide_eq_true c6
      refine Pv.iinc (y := Int32.ofNat (i + 1)) (lo' := [some (.ref 69), some (.int (Int32.ofNat k)), some (.int (Int32.ofNat j)), some (.int (Int32.ofNat (i + 1)))]) rfl rfl (i_add i 1) rfl ?_
      refine Pv.goto rfl ?_
      exact ih4 (i + 1) (by omega)
    · skip
      replace c6 := of_decide_eq_false c6
      refine Pv.lit rfl ?_
      exact Pv.zret rfl (by rw [hQ]; exact ⟨⟨_, rfl⟩, rfl⟩)
set_option maxRecDepth 100000 in
set_option maxHeartbeats 4000000 in
theorem q_settles {F : FW} {T : St} {S : Sh} (hT : XT F T) (hS : XS F (t_m T) S) (hG : GW F) (hTB : TBB T) (hI : INV T S) : Pm Z_X11_settles [.ref 69] F (fun r F' => (∃ z, r = some (.int z)) ∧ RDR F F') := by
  refine Pm.of fun N => ?_
  obtain ⟨Q, hQ⟩ : ∃ Q : Option Value → FW → Prop, Q = (fun r F' => (∃ z, r = some (.int z)) ∧ RDR F F') := ⟨_, rfl⟩
  rw [← hQ]
  have b3 := hT.mb
  have b4 := hT.nb
  have b5 := hT.gb
  have b6 := m_from_lt S
  have b7 := hS.db
  have hSB := hI.sb
  refine (show Pv (ab_T (L_X11_settles Z_X11_tries Z_X11_lays Z_X11_areAlike Z_X11_goesOn Z_X11_back)) N 0 [some (.ref 69), none, none] [] F Q from ?_)
  refine Pv.aload rfl rfl ?_
  refine Pv.lit rfl ?_
  refine Pv.putI rfl rfl ?_
  refine Pv.aload rfl rfl ?_
  refine Pv.callV (as := [.ref 69]) (rest := []) rfl rfl rfl (g_tries (hG.fx (P := fun _ => True) (((FX.rf (P := fun _ => True))).fp trivial))) ?_
  rintro _ G1 ⟨rfl, x2, y3⟩
  have rt4 := RT.of ((RDR.rf).fp (Or.inl rfl)) x2 y3
  have hs5 := RT.ofS ((RDR.rf).fp (Or.inl rfl)) x2 b3 hS
  have hx6 := RT.T rt4 hT
  have hx7 := RT.G rt4 hG
  refine (show Pv _ _ 9 [some (.ref 69), none, none] [] G1 Q from ?_)
  refine Pv.lit rfl ?_
  refine Pv.istore (lo' := [some (.ref 69), some (.int (-1)), none]) rfl rfl ?_
  refine Pv.lit rfl ?_
  refine Pv.istore (lo' := [some (.ref 69), some (.int (-1)), some (.int 0)]) rfl rfl ?_
  refine Pv.lp (ι := Nat × Int32 × FW × Nat) (lof := fun ⟨k, w, G, j⟩ => [some (.ref 69), some (.int w), some (.int (Int32.ofNat k))]) (Ff := fun ⟨k, w, G, j⟩ => G) (P := fun ⟨k, w, G, j⟩ => (k ≤ 203) ∧ (RT F G) ∧ (XS G (t_m T) (m_days T S j))) ?_ (0, (-1), G1, 0) (⟨Nat.zero_le _, rt4, hs5⟩)
  rintro N8 hN9 ⟨k, w, G, j⟩ hi10 ih11
  refine (show Pv _ _ 13 [some (.ref 69), some (.int w), some (.int (Int32.ofNat k))] [] G Q from ?_)
  obtain ⟨hk, rt, hxs⟩ := hi10
  have hx12 := RT.T rt hT
  have hx13 := RT.G rt hG
  have bD14 := XS.db hxs
  refine Pv.iloadS rfl rfl ?_
  refine Pv.lit rfl ?_
  refine Pv.icmp rfl (fun c15 => ?_) (fun c15 => ?_)
  · skip
    replace c15 := (i_lt (a := 202) (b := k) (by omega) (by omega)).mp (of_decide_eq_true c15)
    refine Pv.aload rfl rfl ?_
    refine Pv.callV (as := [.ref 69]) (rest := []) rfl rfl rfl (g_back hx13) ?_
    rintro _ G16 ⟨rfl, x17, y18, z19⟩
    have rd20 := RT.bk rt x17 y18 z19
    refine (show Pv _ _ 86 [some (.ref 69), some (.int w), some (.int (Int32.ofNat k))] [] G16 Q from ?_)
    refine Pv.iload rfl rfl ?_
    exact Pv.ret rfl (by rw [hQ]; exact ⟨⟨_, rfl⟩, rd20⟩)
  · skip
    replace c15 := mt (i_lt (a := 202) (b := k) (by omega) (by omega)).mpr (of_decide_eq_false c15)
    refine Pv.iload rfl rfl ?_
    refine Pv.if0 rfl (fun c21 => ?_) (fun c21 => ?_)
    · skip
      replace c21 := of_decide_eq_true c21
      refine Pv.aload rfl rfl ?_
      refine Pv.callV (as := [.ref 69]) (rest := []) rfl rfl rfl (g_back hx13) ?_
      rintro _ G22 ⟨rfl, x23, y24, z25⟩
      have rd26 := RT.bk rt x23 y24 z25
      refine (show Pv _ _ 86 [some (.ref 69), some (.int w), some (.int (Int32.ofNat k))] [] G22 Q from ?_)
      refine Pv.iload rfl rfl ?_
      exact Pv.ret rfl (by rw [hQ]; exact ⟨⟨_, rfl⟩, rd26⟩)
    · skip
      replace c21 := of_decide_eq_false c21
      refine Pv.aload rfl rfl ?_
      refine Pv.iload rfl rfl ?_
      refine Pv.lit rfl ?_
      refine Pv.irem (z := Int32.ofNat (k % 3)) rfl (i_remN (by omega) (by decide) (by decide)) ?_
      refine Pv.callV (as := [.ref 69, .int (Int32.ofNat (k % 3))]) (rest := []) rfl rfl rfl (g_lays (k := k % 3) hx13 (Nat.mod_lt _ (by decide))) ?_
      rintro _ G27 ⟨rfl, x28⟩
      have rt29 := RT.lay rt x28
      have hs30 := XS.fx hxs b3 x28 (by decide)
      have hx31 := RT.T rt29 hT
      have hx32 := RT.G rt29 hG
      refine (show Pv _ _ 31 [some (.ref 69), some (.int w), some (.int (Int32.ofNat k))] [] G27 Q from ?_)
      refine Pv.iload rfl rfl ?_
      refine Pv.lit rfl ?_
      refine Pv.icmp rfl (fun c33 => ?_) (fun c33 => ?_)
      · skip
        replace c33 := (i_le (a := k) (b := 1) (by omega) (by omega)).mp (of_decide_eq_true c33)
        refine Pv.aload rfl rfl ?_
        refine Pv.lit rfl ?_
        refine Pv.callV (as := [.ref 69, .int 1]) (rest := []) rfl rfl rfl (g_goesOn (n := 1) hx31 hs30 hx32 hTB (INV.sb (INV_days hTB hT.gb hI j)) (by omega)) ?_
        rintro _ G34 ⟨rfl, x35, hs36⟩
        have rt37 := RT.rx rt29 x35
        have hx38 := RT.T rt37 hT
        have hx39 := RT.G rt37 hG
        have bD40 := XS.db hs36
        refine (show Pv _ _ 69 [some (.ref 69), some (.int w), some (.int (Int32.ofNat k))] [.int (Int32.ofNat (h_d (m_days T (m_days T S j) 1) - h_d (m_days T S j)))] G34 Q from ?_)
        refine Pv.if0 rfl (fun c41 => ?_) (fun c41 => ?_)
        · skip
          replace c41 : decide (Int32.ofNat (h_d (m_days T (m_days T S j) 1) - h_d (m_days T S j)) = 0) = false := by simpa using c41
          replace c41 := mt (i_eq (a := h_d (m_days T (m_days T S j) 1) - h_d (m_days T S j)) (b := 0) (by omega) (by omega)).mpr (of_decide_eq_false c41)
          refine Pv.iinc (y := Int32.ofNat (k + 1)) (lo' := [some (.ref 69), some (.int w), some (.int (Int32.ofNat (k + 1)))]) rfl rfl (i_add k 1) rfl ?_
          refine Pv.goto rfl ?_
          exact ih11 (k + 1, w, G34, (j + 1)) (⟨by omega, rt37, hs36⟩)
        · skip
          replace c41 : decide (Int32.ofNat (h_d (m_days T (m_days T S j) 1) - h_d (m_days T S j)) = 0) = true := by simpa using c41
          replace c41 := (i_eq (a := h_d (m_days T (m_days T S j) 1) - h_d (m_days T S j)) (b := 0) (by omega) (by omega)).mp (of_decide_eq_true c41)
          refine Pv.lit rfl ?_
          refine Pv.istore (lo' := [some (.ref 69), some (.int w), some (.int 202)]) rfl rfl ?_
          refine Pv.iinc (y := Int32.ofNat (202 + 1)) (lo' := [some (.ref 69), some (.int w), some (.int (Int32.ofNat (202 + 1)))]) rfl rfl (i_add 202 1) rfl ?_
          refine Pv.goto rfl ?_
          exact ih11 (202 + 1, w, G34, (j + 1)) (⟨by omega, rt37, hs36⟩)
      · skip
        replace c33 := mt (i_le (a := k) (b := 1) (by omega) (by omega)).mpr (of_decide_eq_false c33)
        refine Pv.aload rfl rfl ?_
        refine Pv.iload rfl rfl ?_
        refine Pv.lit rfl ?_
        refine Pv.irem (z := Int32.ofNat (k % 3)) rfl (i_remN (by omega) (by decide) (by decide)) ?_
        refine Pv.iload rfl rfl ?_
        refine Pv.lit rfl ?_
        refine Pv.bin (z := Int32.ofNat (k - 2)) rfl (i_subN (a := k) (b := 2) (by omega)) ?_
        refine Pv.lit rfl ?_
        refine Pv.irem (z := Int32.ofNat ((k - 2) % 3)) rfl (i_remN (by omega) (by decide) (by decide)) ?_
        refine Pv.callV (as := [.ref 69, .int (Int32.ofNat (k % 3)), .int (Int32.ofNat ((k - 2) % 3))]) (rest := []) rfl rfl rfl (g_areAlike (k := k % 3) (j := (k - 2) % 3) hx32 (Nat.mod_lt _ (by decide)) (Nat.mod_lt _ (by decide))) ?_
        rintro _ Fe ⟨⟨z42, rfl⟩, ee⟩
        obtain rfl := ee.symm
        refine (show Pv _ _ 48 [some (.ref 69), some (.int w), some (.int (Int32.ofNat k))] [.int z42] G27 Q from ?_)
        refine Pv.if0 rfl (fun c43 => ?_) (fun c43 => ?_)
        · skip
          replace c43 := of_decide_eq_true c43
          refine Pv.aload rfl rfl ?_
          refine Pv.lit rfl ?_
          refine Pv.callV (as := [.ref 69, .int 1]) (rest := []) rfl rfl rfl (g_goesOn (n := 1) hx31 hs30 hx32 hTB (INV.sb (INV_days hTB hT.gb hI j)) (by omega)) ?_
          rintro _ G44 ⟨rfl, x45, hs46⟩
          have rt47 := RT.rx rt29 x45
          have hx48 := RT.T rt47 hT
          have hx49 := RT.G rt47 hG
          have bD50 := XS.db hs46
          refine (show Pv _ _ 69 [some (.ref 69), some (.int w), some (.int (Int32.ofNat k))] [.int (Int32.ofNat (h_d (m_days T (m_days T S j) 1) - h_d (m_days T S j)))] G44 Q from ?_)
          refine Pv.if0 rfl (fun c51 => ?_) (fun c51 => ?_)
          · skip
            replace c51 : decide (Int32.ofNat (h_d (m_days T (m_days T S j) 1) - h_d (m_days T S j)) = 0) = false := by simpa using c51
            replace c51 := mt (i_eq (a := h_d (m_days T (m_days T S j) 1) - h_d (m_days T S j)) (b := 0) (by omega) (by omega)).mpr (of_decide_eq_false c51)
            refine Pv.iinc (y := Int32.ofNat (k + 1)) (lo' := [some (.ref 69), some (.int w), some (.int (Int32.ofNat (k + 1)))]) rfl rfl (i_add k 1) rfl ?_
            refine Pv.goto rfl ?_
            exact ih11 (k + 1, w, G44, (j + 1)) (⟨by omega, rt47, hs46⟩)
          · skip
            replace c51 : decide (Int32.ofNat (h_d (m_days T (m_days T S j) 1) - h_d (m_days T S j)) = 0) = true := by simpa using c51
            replace c51 := (i_eq (a := h_d (m_days T (m_days T S j) 1) - h_d (m_days T S j)) (b := 0) (by omega) (by omega)).mp (of_decide_eq_true c51)
            refine Pv.lit rfl ?_
            refine Pv.istore (lo' := [some (.ref 69), some (.int w), some (.int 202)]) rfl rfl ?_
            refine Pv.iinc (y := Int32.ofNat (202 + 1)) (lo' := [some (.ref 69), some (.int w), some (.int (Int32.ofNat (202 + 1)))]) rfl rfl (i_add 202 1) rfl ?_
            refine Pv.goto rfl ?_
            exact ih11 (202 + 1, w, G44, (j + 1)) (⟨by omega, rt47, hs46⟩)
        · skip
          replace c43 := of_decide_eq_false c43
          refine Pv.aload rfl rfl ?_
          refine Pv.getR (v := .ref 71) rfl rfl (GW.at (a := 69) (k := 6) (b := 71) hx32 (by decide)) ?_
          refine Pv.lit rfl ?_
          refine Pv.ald (z := Int32.ofNat (h_d (m_days T S j))) rfl (hs30.d) ?_
          refine Pv.lit rfl ?_
          refine Pv.bin (z := (Int32.ofNat (h_d (m_days T S j))) - 2) rfl (rfl) ?_
          refine Pv.istore (lo' := [some (.ref 69), some (.int ((Int32.ofNat (h_d (m_days T S j))) - 2)), some (.int (Int32.ofNat k))]) rfl rfl ?_
          refine Pv.goto rfl ?_
          refine Pv.iinc (y := Int32.ofNat (k + 1)) (lo' := [some (.ref 69), some (.int ((Int32.ofNat (h_d (m_days T S j))) - 2)), some (.int (Int32.ofNat (k + 1)))]) rfl rfl (i_add k 1) rfl ?_
          refine Pv.goto rfl ?_
          exact ih11 (k + 1, (Int32.ofNat (h_d (m_days T S j))) - 2, G27, j) (⟨by omega, rt29, hs30⟩)
set_option maxRecDepth 100000 in
set_option maxHeartbeats 4000000 in
theorem q_fault {F : FW} : Pm Z_X11_fault [.ref 69] F (fun r F' => r = some (.int (F.1 69 15)) ∧ F' = fp F 69 0 0) := by
  refine Pm.of fun N => ?_
  obtain ⟨Q, hQ⟩ : ∃ Q : Option Value → FW → Prop, Q = (fun r F' => r = some (.int (F.1 69 15)) ∧ F' = fp F 69 0 0) := ⟨_, rfl⟩
  rw [← hQ]
  refine (show Pv (ab_T L_X11_fault) N 0 [some (.ref 69)] [] F Q from ?_)
  refine Pv.aload rfl rfl ?_
  refine Pv.lit rfl ?_
  refine Pv.putI rfl rfl ?_
  refine Pv.aload rfl rfl ?_
  refine Pv.getI (z := F.1 69 15) rfl rfl (fp_ne (Or.inr (by decide))) ?_
  exact Pv.ret rfl (by rw [hQ]; exact ⟨rfl, rfl⟩)
set_option maxRecDepth 100000 in
set_option maxHeartbeats 4000000 in
theorem q_count0 {F : FW} {T : St} (hT : XT F T) (hG : GW F) {e : Int32} (he : F.1 69 2 = e) : Pm Z_X11_count [.ref 69, .int 0] F (fun r F' => r = some (.int (a_count T e 0)) ∧ F' = fp F 69 0 0) := by
  refine Pm.of fun N => ?_
  obtain ⟨Q, hQ⟩ : ∃ Q : Option Value → FW → Prop, Q = (fun r F' => r = some (.int (a_count T e 0)) ∧ F' = fp F 69 0 0) := ⟨_, rfl⟩
  rw [← hQ]
  refine (show Pv (ab_T (L_X11_count Z_X11_isIn)) N 0 [some (.ref 69), some (.int 0)] [] F Q from ?_)
  refine Pv.aload rfl rfl ?_
  refine Pv.lit rfl ?_
  refine Pv.putI rfl rfl ?_
  refine Pv.iload rfl rfl ?_
  refine Pv.lit rfl ?_
  refine Pv.icmp rfl (fun c1 => ?_) (fun c1 => ?_)
  · skip
    replace c1 : decide ((0 : Int32) = 4) = false := by simpa using c1
    replace c1 := mt (i_eq (a := 0) (b := 4) (by omega) (by omega)).mpr (of_decide_eq_false c1)
    refine Pv.iload rfl rfl ?_
    refine Pv.lit rfl ?_
    refine Pv.lit rfl ?_
    refine Pv.callI (as := [.int 0, .int 0, .int 3]) (rest := []) (z := b2i (decide (0 ≤ (0 : Int32)) && decide ((0 : Int32) ≤ 3))) rfl rfl rfl (q_isIn 0 0 3) ?_
    refine Pv.if0 rfl (fun c2 => ?_) (fun c2 => ?_)
    · skip
      replace c2 := of_decide_eq_true c2
      replace c2 := b2z.mp c2
      exact absurd c2 (by decide)
    · skip
      replace c2 := of_decide_eq_false c2
      replace c2 := b2n.mp c2
      refine Pv.aload rfl rfl ?_
      refine Pv.getR (v := .ref 71) rfl rfl (GW.at (a := 69) (k := 6) (b := 71) hG (by decide)) ?_
      refine Pv.iload rfl rfl ?_
      refine Pv.ald (z := Int32.ofNat (t_g T)) rfl ((fp_ne (Or.inl (by decide))).trans (hT.g)) ?_
      refine Pv.goto rfl ?_
      exact Pv.ret rfl (by rw [hQ]; exact ⟨rfl, rfl⟩)
  · skip
    replace c1 : decide ((0 : Int32) = 4) = true := by simpa using c1
    replace c1 := (i_eq (a := 0) (b := 4) (by omega) (by omega)).mp (of_decide_eq_true c1)
    omega
set_option maxRecDepth 100000 in
set_option maxHeartbeats 4000000 in
theorem q_count1 {F : FW} {T : St} (hT : XT F T) (hG : GW F) {e : Int32} (he : F.1 69 2 = e) : Pm Z_X11_count [.ref 69, .int 1] F (fun r F' => r = some (.int (a_count T e 1)) ∧ F' = fp F 69 0 0) := by
  refine Pm.of fun N => ?_
  obtain ⟨Q, hQ⟩ : ∃ Q : Option Value → FW → Prop, Q = (fun r F' => r = some (.int (a_count T e 1)) ∧ F' = fp F 69 0 0) := ⟨_, rfl⟩
  rw [← hQ]
  refine (show Pv (ab_T (L_X11_count Z_X11_isIn)) N 0 [some (.ref 69), some (.int 1)] [] F Q from ?_)
  refine Pv.aload rfl rfl ?_
  refine Pv.lit rfl ?_
  refine Pv.putI rfl rfl ?_
  refine Pv.iload rfl rfl ?_
  refine Pv.lit rfl ?_
  refine Pv.icmp rfl (fun c1 => ?_) (fun c1 => ?_)
  · skip
    replace c1 : decide ((1 : Int32) = 4) = false := by simpa using c1
    replace c1 := mt (i_eq (a := 1) (b := 4) (by omega) (by omega)).mpr (of_decide_eq_false c1)
    refine Pv.iload rfl rfl ?_
    refine Pv.lit rfl ?_
    refine Pv.lit rfl ?_
    refine Pv.callI (as := [.int 1, .int 0, .int 3]) (rest := []) (z := b2i (decide (0 ≤ (1 : Int32)) && decide ((1 : Int32) ≤ 3))) rfl rfl rfl (q_isIn 1 0 3) ?_
    refine Pv.if0 rfl (fun c2 => ?_) (fun c2 => ?_)
    · skip
      replace c2 := of_decide_eq_true c2
      replace c2 := b2z.mp c2
      exact absurd c2 (by decide)
    · skip
      replace c2 := of_decide_eq_false c2
      replace c2 := b2n.mp c2
      refine Pv.aload rfl rfl ?_
      refine Pv.getR (v := .ref 71) rfl rfl (GW.at (a := 69) (k := 6) (b := 71) hG (by decide)) ?_
      refine Pv.iload rfl rfl ?_
      refine Pv.ald (z := Int32.ofNat (t_m T)) rfl ((fp_ne (Or.inl (by decide))).trans (hT.m)) ?_
      refine Pv.goto rfl ?_
      exact Pv.ret rfl (by rw [hQ]; exact ⟨rfl, rfl⟩)
  · skip
    replace c1 : decide ((1 : Int32) = 4) = true := by simpa using c1
    replace c1 := (i_eq (a := 1) (b := 4) (by omega) (by omega)).mp (of_decide_eq_true c1)
    omega
set_option maxRecDepth 100000 in
set_option maxHeartbeats 4000000 in
theorem q_count2 {F : FW} {T : St} (hT : XT F T) (hG : GW F) {e : Int32} (he : F.1 69 2 = e) : Pm Z_X11_count [.ref 69, .int 2] F (fun r F' => r = some (.int (a_count T e 2)) ∧ F' = fp F 69 0 0) := by
  refine Pm.of fun N => ?_
  obtain ⟨Q, hQ⟩ : ∃ Q : Option Value → FW → Prop, Q = (fun r F' => r = some (.int (a_count T e 2)) ∧ F' = fp F 69 0 0) := ⟨_, rfl⟩
  rw [← hQ]
  refine (show Pv (ab_T (L_X11_count Z_X11_isIn)) N 0 [some (.ref 69), some (.int 2)] [] F Q from ?_)
  refine Pv.aload rfl rfl ?_
  refine Pv.lit rfl ?_
  refine Pv.putI rfl rfl ?_
  refine Pv.iload rfl rfl ?_
  refine Pv.lit rfl ?_
  refine Pv.icmp rfl (fun c1 => ?_) (fun c1 => ?_)
  · skip
    replace c1 : decide ((2 : Int32) = 4) = false := by simpa using c1
    replace c1 := mt (i_eq (a := 2) (b := 4) (by omega) (by omega)).mpr (of_decide_eq_false c1)
    refine Pv.iload rfl rfl ?_
    refine Pv.lit rfl ?_
    refine Pv.lit rfl ?_
    refine Pv.callI (as := [.int 2, .int 0, .int 3]) (rest := []) (z := b2i (decide (0 ≤ (2 : Int32)) && decide ((2 : Int32) ≤ 3))) rfl rfl rfl (q_isIn 2 0 3) ?_
    refine Pv.if0 rfl (fun c2 => ?_) (fun c2 => ?_)
    · skip
      replace c2 := of_decide_eq_true c2
      replace c2 := b2z.mp c2
      exact absurd c2 (by decide)
    · skip
      replace c2 := of_decide_eq_false c2
      replace c2 := b2n.mp c2
      refine Pv.aload rfl rfl ?_
      refine Pv.getR (v := .ref 71) rfl rfl (GW.at (a := 69) (k := 6) (b := 71) hG (by decide)) ?_
      refine Pv.iload rfl rfl ?_
      refine Pv.ald (z := t_l T) rfl ((fp_ne (Or.inl (by decide))).trans (hT.l)) ?_
      refine Pv.goto rfl ?_
      exact Pv.ret rfl (by rw [hQ]; exact ⟨rfl, rfl⟩)
  · skip
    replace c1 : decide ((2 : Int32) = 4) = true := by simpa using c1
    replace c1 := (i_eq (a := 2) (b := 4) (by omega) (by omega)).mp (of_decide_eq_true c1)
    omega
set_option maxRecDepth 100000 in
set_option maxHeartbeats 4000000 in
theorem q_count3 {F : FW} {T : St} (hT : XT F T) (hG : GW F) {e : Int32} (he : F.1 69 2 = e) : Pm Z_X11_count [.ref 69, .int 3] F (fun r F' => r = some (.int (a_count T e 3)) ∧ F' = fp F 69 0 0) := by
  refine Pm.of fun N => ?_
  obtain ⟨Q, hQ⟩ : ∃ Q : Option Value → FW → Prop, Q = (fun r F' => r = some (.int (a_count T e 3)) ∧ F' = fp F 69 0 0) := ⟨_, rfl⟩
  rw [← hQ]
  refine (show Pv (ab_T (L_X11_count Z_X11_isIn)) N 0 [some (.ref 69), some (.int 3)] [] F Q from ?_)
  refine Pv.aload rfl rfl ?_
  refine Pv.lit rfl ?_
  refine Pv.putI rfl rfl ?_
  refine Pv.iload rfl rfl ?_
  refine Pv.lit rfl ?_
  refine Pv.icmp rfl (fun c1 => ?_) (fun c1 => ?_)
  · skip
    replace c1 : decide ((3 : Int32) = 4) = false := by simpa using c1
    replace c1 := mt (i_eq (a := 3) (b := 4) (by omega) (by omega)).mpr (of_decide_eq_false c1)
    refine Pv.iload rfl rfl ?_
    refine Pv.lit rfl ?_
    refine Pv.lit rfl ?_
    refine Pv.callI (as := [.int 3, .int 0, .int 3]) (rest := []) (z := b2i (decide (0 ≤ (3 : Int32)) && decide ((3 : Int32) ≤ 3))) rfl rfl rfl (q_isIn 3 0 3) ?_
    refine Pv.if0 rfl (fun c2 => ?_) (fun c2 => ?_)
    · skip
      replace c2 := of_decide_eq_true c2
      replace c2 := b2z.mp c2
      exact absurd c2 (by decide)
    · skip
      replace c2 := of_decide_eq_false c2
      replace c2 := b2n.mp c2
      refine Pv.aload rfl rfl ?_
      refine Pv.getR (v := .ref 71) rfl rfl (GW.at (a := 69) (k := 6) (b := 71) hG (by decide)) ?_
      refine Pv.iload rfl rfl ?_
      refine Pv.ald (z := Int32.ofNat (t_n T)) rfl ((fp_ne (Or.inl (by decide))).trans (hT.n)) ?_
      refine Pv.goto rfl ?_
      exact Pv.ret rfl (by rw [hQ]; exact ⟨rfl, rfl⟩)
  · skip
    replace c1 : decide ((3 : Int32) = 4) = true := by simpa using c1
    replace c1 := (i_eq (a := 3) (b := 4) (by omega) (by omega)).mp (of_decide_eq_true c1)
    omega
set_option maxRecDepth 100000 in
set_option maxHeartbeats 4000000 in
theorem q_count4 {F : FW} {T : St} (hT : XT F T) (hG : GW F) {e : Int32} (he : F.1 69 2 = e) : Pm Z_X11_count [.ref 69, .int 4] F (fun r F' => r = some (.int (a_count T e 4)) ∧ F' = fp F 69 0 0) := by
  refine Pm.of fun N => ?_
  obtain ⟨Q, hQ⟩ : ∃ Q : Option Value → FW → Prop, Q = (fun r F' => r = some (.int (a_count T e 4)) ∧ F' = fp F 69 0 0) := ⟨_, rfl⟩
  rw [← hQ]
  refine (show Pv (ab_T (L_X11_count Z_X11_isIn)) N 0 [some (.ref 69), some (.int 4)] [] F Q from ?_)
  refine Pv.aload rfl rfl ?_
  refine Pv.lit rfl ?_
  refine Pv.putI rfl rfl ?_
  refine Pv.iload rfl rfl ?_
  refine Pv.lit rfl ?_
  refine Pv.icmp rfl (fun c1 => ?_) (fun c1 => ?_)
  · skip
    replace c1 : decide ((4 : Int32) = 4) = false := by simpa using c1
    replace c1 := mt (i_eq (a := 4) (b := 4) (by omega) (by omega)).mpr (of_decide_eq_false c1)
    omega
  · skip
    replace c1 : decide ((4 : Int32) = 4) = true := by simpa using c1
    replace c1 := (i_eq (a := 4) (b := 4) (by omega) (by omega)).mp (of_decide_eq_true c1)
    refine Pv.aload rfl rfl ?_
    refine Pv.getI (z := e) rfl rfl ((fp_ne (Or.inr (by decide))).trans (he)) ?_
    refine Pv.goto rfl ?_
    exact Pv.ret rfl (by rw [hQ]; exact ⟨rfl, rfl⟩)
set_option maxRecDepth 100000 in
set_option maxHeartbeats 4000000 in
theorem q_countn {F : FW} {T : St} (hT : XT F T) (hG : GW F) {e : Int32} (he : F.1 69 2 = e) {w : Int32} (hw : nd 5 w = none) : Pm Z_X11_count [.ref 69, .int w] F (fun r F' => r = some (.int (a_count T e w)) ∧ F' = fp F 69 0 0) := by
  refine Pm.of fun N => ?_
  obtain ⟨Q, hQ⟩ : ∃ Q : Option Value → FW → Prop, Q = (fun r F' => r = some (.int (a_count T e w)) ∧ F' = fp F 69 0 0) := ⟨_, rfl⟩
  rw [← hQ]
  refine (show Pv (ab_T (L_X11_count Z_X11_isIn)) N 0 [some (.ref 69), some (.int w)] [] F Q from ?_)
  refine Pv.aload rfl rfl ?_
  refine Pv.lit rfl ?_
  refine Pv.putI rfl rfl ?_
  refine Pv.iload rfl rfl ?_
  refine Pv.lit rfl ?_
  refine Pv.icmp rfl (fun c1 => ?_) (fun c1 => ?_)
  · skip
    replace c1 : decide (w = 4) = false := by simpa using c1
    replace c1 := of_decide_eq_false c1
    refine Pv.iload rfl rfl ?_
    refine Pv.lit rfl ?_
    refine Pv.lit rfl ?_
    refine Pv.callI (as := [.int w, .int 0, .int 3]) (rest := []) (z := b2i (decide (0 ≤ w) && decide (w ≤ 3))) rfl rfl rfl (q_isIn w 0 3) ?_
    refine Pv.if0 rfl (fun c2 => ?_) (fun c2 => ?_)
    · skip
      replace c2 := of_decide_eq_true c2
      replace c2 := b2z.mp c2
      refine Pv.lit rfl ?_
      exact Pv.ret rfl (by rw [hQ]; exact ⟨by unfold a_count; rw [hw], rfl⟩)
    · skip
      replace c2 := of_decide_eq_false c2
      replace c2 := b2n.mp c2
      exact absurd ((nd_in2 (n := 4) (m := 3) rfl (by decide)).symm.trans c2) (by rw [nd_53 hw]; decide)
  · skip
    replace c1 : decide (w = 4) = true := by simpa using c1
    replace c1 := of_decide_eq_true c1
    exact absurd c1 (nd_54 hw)
end
-- 63.b70.wo.lean.txt
section
/-! ===== WITHOUT ===== -/
def oN (q : Option Nat) : Int32 := match q with
  | none => -1
  | some k => Int32.ofNat k
theorem m_fst_lt {P : Nat → Bool} {j : Nat} : ∀ {n : Nat}, m_fst P n = some j → j < n ∧ P j = true
  | 0, h => by cases h
  | n + 1, h => by
    unfold m_fst at h
    split at h
    · rename_i i hi
      obtain rfl := Option.some.inj h
      have := m_fst_lt hi
      exact ⟨by omega, this.2⟩
    · split at h
      · rename_i c
        obtain rfl := Option.some.inj h
        exact ⟨Nat.lt_succ_self _, c⟩
      · cases h
theorem oN_n {P : Nat → Bool} {v : Nat} (hv : v < 2147483648) (h : oN (m_fst P v) < 0) : m_fst P v = none := by
  cases e : m_fst P v with
  | none => rfl
  | some j =>
    have b := (m_fst_lt e).1
    rw [e] at h
    have e1 : oN (some j) = Int32.ofNat j := rfl
    rw [e1, Int32.lt_iff_toInt_lt, i_toInt (by omega), i_0] at h
    omega
theorem m_fst_up {P : Nat → Bool} {k i : Nat} (e : m_fst P k = some i) : ∀ j, m_fst P (k + j) = some i
  | 0 => e
  | j + 1 => by
    have ih := m_fst_up e j
    show m_fst P (k + j + 1) = some i
    unfold m_fst
    rw [ih]
theorem oN_s {P : Nat → Bool} {k n : Nat} (hk : k ≤ n) (h : ¬ oN (m_fst P k) < 0) : oN (m_fst P n) = oN (m_fst P k) := by
  cases e : m_fst P k with
  | none =>
    rw [e] at h
    exact absurd (show (-1 : Int32) < 0 by decide) h
  | some i =>
    have t := m_fst_up e (n - k)
    rw [show k + (n - k) = n by omega] at t
    rw [t]
theorem nat_of {x : Int32} (h : 0 ≤ x.toInt) : ∃ n, x.toInt.toNat = n ∧ x = Int32.ofNat n ∧ n < 2147483648 := by
  have := Int32.toInt_lt x
  refine ⟨_, rfl, Int32.toInt_inj.mp ?_, by omega⟩
  rw [i_toInt (by omega)]
  omega
/-- so much wasted now -/
def m_ws (S : Sh) (k v : Nat) : Sh := (up1 (h_s S) k (h_s S k - Int32.ofNat v), S.2)
theorem INV_ws {T : St} {S : Sh} {k v : Nat} (h : INV T S) (hk : k < 12) (hv : (v : Int) ≤ (h_s S k).toInt) : INV T (m_ws S k v) := by
  have sk := h.sb k hk
  have en : (Int32.ofNat v).toInt = v := i_toInt (by omega)
  have e1 : (h_s S k - Int32.ofNat v).toInt = (h_s S k).toInt - v := by rw [i_subI (by omega) (by omega), en]
  refine ⟨fun j hj => ?_, fun j hj => ?_, h.ab, h.tr, h.cb, h.db⟩
  · show 0 ≤ (up1 (h_s S) k (h_s S k - Int32.ofNat v) j).toInt ∧ (up1 (h_s S) k (h_s S k - Int32.ofNat v) j).toInt ≤ 999
    by_cases e : j = k
    · rw [e, up1_eq, e1]
      omega
    · rw [up1_ne e]
      exact h.sb j hj
  · show 0 ≤ (h_h S j).toInt ∧ (up1 (h_s S) k (h_s S k - Int32.ofNat v) j).toInt + (h_h S j).toInt ≤ 250 + 290 * (h_d S : Int)
    have uj := h.hb j hj
    by_cases e : j = k
    · rw [e, up1_eq, e1]
      rw [e] at uj
      omega
    · rw [up1_ne e]
      exact uj
def pWo (T : St) (S : Sh) (g s n d v : Nat) : Bool := !decide (h_c (m_days T (m_ws S (2 * g + s) v) d) (2 * g + s) - h_c S (2 * g + s) < Int32.ofNat n)
def a_without (T : St) (S : Sh) (x y z w : Int32) : Int32 := aGS T x y fun g s => match ndr 1 250 z with
  | none => -1
  | some n => match ndr 1 60 w with
    | none => -1
    | some d => oN (m_fst (pWo T S g s n d) ((h_s S (2 * g + s)).toInt.toNat + 1))
/-! the class's way: the room that there will be, the two stocks day by day -/
def w_dn (S : Sh) (d : Nat) : Nat := if d ≤ 400 - h_d S then d else 400 - h_d S
def w_rm (T : St) (S : Sh) (g k : Nat) : Int32 := m_room T (m_days T S k) - m_pg T (m_days T S k) g
def w_rt (T : St) (S : Sh) (g s : Nat) : Nat → Int32
  | 0 => 0
  | k + 1 => if (h_d S + k) % 2 = s then w_rt T S g s k else w_rt T S g s k + w_rm T S g k
def w_s (T : St) (S : Sh) (g s w : Nat) : Nat → Int32 × Int32 × Int32
  | 0 => (h_s S (2 * g + s) - Int32.ofNat w, h_s S (2 * g + (1 - s)), 0)
  | k + 1 => if (h_d S + k) % 2 = s then
      (ab_max 0 (m_left T (2 * g + s) ((w_s T S g s w k).1 - m_moved (w_s T S g s w k).1 (t_a T (1 * 12 + (2 * g + (1 - s))) - (w_s T S g s w k).2.1) (w_rm T S g k))),
       ab_max 0 (m_left T (2 * g + (1 - s)) ((w_s T S g s w k).2.1 + m_moved (w_s T S g s w k).1 (t_a T (1 * 12 + (2 * g + (1 - s))) - (w_s T S g s w k).2.1) (w_rm T S g k))), (w_s T S g s w k).2.2)
    else
      (ab_max 0 (m_left T (2 * g + s) ((w_s T S g s w k).1 + m_moved (w_s T S g s w k).2.1 (t_a T (1 * 12 + (2 * g + s)) - (w_s T S g s w k).1) (w_rm T S g k))),
       ab_max 0 (m_left T (2 * g + (1 - s)) ((w_s T S g s w k).2.1 - m_moved (w_s T S g s w k).2.1 (t_a T (1 * 12 + (2 * g + s)) - (w_s T S g s w k).1) (w_rm T S g k))), (w_s T S g s w k).2.2 + m_moved (w_s T S g s w k).2.1 (t_a T (1 * 12 + (2 * g + s)) - (w_s T S g s w k).1) (w_rm T S g k))
theorem w_s_t {T : St} {S : Sh} {g s w k : Nat} (c : (h_d S + k) % 2 = s) : w_s T S g s w (k + 1) = (ab_max 0 (m_left T (2 * g + s) ((w_s T S g s w k).1 - m_moved (w_s T S g s w k).1 (t_a T (1 * 12 + (2 * g + (1 - s))) - (w_s T S g s w k).2.1) (w_rm T S g k))),
       ab_max 0 (m_left T (2 * g + (1 - s)) ((w_s T S g s w k).2.1 + m_moved (w_s T S g s w k).1 (t_a T (1 * 12 + (2 * g + (1 - s))) - (w_s T S g s w k).2.1) (w_rm T S g k))), (w_s T S g s w k).2.2) := if_pos c
theorem w_s_f {T : St} {S : Sh} {g s w k : Nat} (c : ¬ (h_d S + k) % 2 = s) : w_s T S g s w (k + 1) = (ab_max 0 (m_left T (2 * g + s) ((w_s T S g s w k).1 + m_moved (w_s T S g s w k).2.1 (t_a T (1 * 12 + (2 * g + s)) - (w_s T S g s w k).1) (w_rm T S g k))),
       ab_max 0 (m_left T (2 * g + (1 - s)) ((w_s T S g s w k).2.1 - m_moved (w_s T S g s w k).2.1 (t_a T (1 * 12 + (2 * g + s)) - (w_s T S g s w k).1) (w_rm T S g k))), (w_s T S g s w k).2.2 + m_moved (w_s T S g s w k).2.1 (t_a T (1 * 12 + (2 * g + s)) - (w_s T S g s w k).1) (w_rm T S g k)) := if_neg c
def pWc (T : St) (S : Sh) (g s n d v : Nat) : Bool := !decide ((w_s T S g s v (w_dn S d)).2.2 < Int32.ofNat n)
def c_without (T : St) (S : Sh) (x y z w : Int32) : Int32 := aGS T x y fun g s => match ndr 1 250 z with
  | none => -1
  | some n => match ndr 1 60 w with
    | none => -1
    | some d => if w_rt T S g s (w_dn S d) < Int32.ofNat n then -1 else oN (m_fst (pWc T S g s n d) ((h_s S (2 * g + s)).toInt.toNat + 1))
end
-- 63.b70a.lean.txt
section
set_option maxRecDepth 100000 in
set_option maxHeartbeats 4000000 in
theorem o_foreseeRoom {F : FW} {t : Nat} {T : St} {S : Sh} (hG : GW F) (ht : F.2.1 0 13 = .ref t) (hT : TR F t T) (hS : SHR F 12 (t_m T) S) (j0 : t = 45 ∨ t = 53) {g d : Nat} (hg : g < t_g T) (hd1 : 1 ≤ d) (hd : d ≤ 60) : Pm Z_X10_foreseeRoom [.ref 0, .int (Int32.ofNat g), .int (Int32.ofNat d)] F (fun r F' => r = some (.int (Int32.ofNat (w_dn S d))) ∧ CDR F F' ∧ AR F' 43 (w_dn S d) (w_rm T S g)) := by
  refine Pm.of fun N => ?_
  obtain ⟨Q, hQ⟩ : ∃ Q : Option Value → FW → Prop, Q = (fun r F' => r = some (.int (Int32.ofNat (w_dn S d))) ∧ CDR F F' ∧ AR F' 43 (w_dn S d) (w_rm T S g)) := ⟨_, rfl⟩
  rw [← hQ]
  have b3 := hT.mb
  have b4 := hT.nb
  have b5 := hT.gb
  have b6 := m_from_lt S
  have b7 := hS.db
  refine (show Pv (ab_T (L_X10_foreseeRoom Z_X6_copyFrom Z_X1_passDays)) N 0 [some (.ref 0), some (.int (Int32.ofNat g)), some (.int (Int32.ofNat d)), none, none] [] F Q from ?_)
  refine Pv.aload rfl rfl ?_
  refine Pv.getR (v := .ref 20) rfl rfl (GW.at (a := 0) (k := 5) (b := 20) hG (by decide)) ?_
  refine Pv.aload rfl rfl ?_
  refine Pv.getR (v := .ref 12) rfl rfl (GW.at (a := 0) (k := 4) (b := 12) hG (by decide)) ?_
  refine Pv.callV (as := [.ref 20, .ref 12]) (rest := []) rfl rfl rfl (f_shCopy (GW.o20 hG) hS b3 (by omega)) ?_
  rintro _ G1 ⟨rfl, x2, sr4⟩
  have hx3 := FX.tr (P := fun q => (7 ≤ q ∧ q ≤ 9) ∨ (20 ≤ q ∧ q ≤ 35) ∨ q = 40 ∨ q = 43) FX.rf (x2.wd (fun q (c : 20 ≤ q ∧ q ≤ 20 + 7) => (show (7 ≤ q ∧ q ≤ 9) ∨ (20 ≤ q ∧ q ≤ 35) ∨ q = 40 ∨ q = 43 by omega)))
  have hx5 := hT.fx (P := fun q => 20 ≤ q ∧ q ≤ 20 + 7) x2 (fun q h1 h2 (c : 20 ≤ q ∧ q ≤ 20 + 7) => by omega)
  have hx6 := hS.fx (P := fun q => 20 ≤ q ∧ q ≤ 20 + 7) x2 (fun q h1 h2 (c : 20 ≤ q ∧ q ≤ 20 + 7) => by omega)
  have hx7 := hG.fx (P := fun q => 20 ≤ q ∧ q ≤ 20 + 7) x2
  have hr8 : G1.2.1 0 13 = .ref t := by rw [x2.2.2.1]; exact ht
  refine (show Pv _ _ 11 [some (.ref 0), some (.int (Int32.ofNat g)), some (.int (Int32.ofNat d)), none, none] [] G1 Q from ?_)
  refine Pv.lit rfl ?_
  refine Pv.istore (lo' := [some (.ref 0), some (.int (Int32.ofNat g)), some (.int (Int32.ofNat d)), some (.int 0), none]) rfl rfl ?_
  refine Pv.lit rfl ?_
  refine Pv.istore (lo' := [some (.ref 0), some (.int (Int32.ofNat g)), some (.int (Int32.ofNat d)), some (.int 0), some (.int 0)]) rfl rfl ?_
  refine Pv.lp (ι := Nat × Nat × FW) (lof := fun ⟨k, e, G⟩ => [some (.ref 0), some (.int (Int32.ofNat g)), some (.int (Int32.ofNat d)), some (.int (Int32.ofNat e)), some (.int (Int32.ofNat k))]) (Ff := fun ⟨k, e, G⟩ => G) (P := fun ⟨k, e, G⟩ => FX (fun q => (7 ≤ q ∧ q ≤ 9) ∨ (20 ≤ q ∧ q ≤ 35) ∨ q = 40 ∨ q = 43) F G ∧ (k ≤ d ∧ e = k) ∧ (SHR G 20 (t_m T) (m_days T S k)) ∧ (h_d (m_days T S k) = h_d S + k) ∧ (AR G 43 k (w_rm T S g))) ?_ (0, 0, G1) (⟨hx3, ⟨Nat.zero_le _, rfl⟩, sr4, rfl, AR.z⟩)
  rintro N9 hN10 ⟨k, e, G⟩ hi11 ih12
  refine (show Pv _ _ 16 [some (.ref 0), some (.int (Int32.ofNat g)), some (.int (Int32.ofNat d)), some (.int (Int32.ofNat e)), some (.int (Int32.ofNat k))] [] G Q from ?_)
  obtain ⟨hxG, hke, hA, hkd, h43⟩ := hi11
  have hx13 := hT.fx (P := fun q => (7 ≤ q ∧ q ≤ 9) ∨ (20 ≤ q ∧ q ≤ 35) ∨ q = 40 ∨ q = 43) hxG (fun q h1 h2 (c : (7 ≤ q ∧ q ≤ 9) ∨ (20 ≤ q ∧ q ≤ 35) ∨ q = 40 ∨ q = 43) => by omega)
  have hx14 := hS.fx (P := fun q => (7 ≤ q ∧ q ≤ 9) ∨ (20 ≤ q ∧ q ≤ 35) ∨ q = 40 ∨ q = 43) hxG (fun q h1 h2 (c : (7 ≤ q ∧ q ≤ 9) ∨ (20 ≤ q ∧ q ≤ 35) ∨ q = 40 ∨ q = 43) => by omega)
  have hx15 := hG.fx (P := fun q => (7 ≤ q ∧ q ≤ 9) ∨ (20 ≤ q ∧ q ≤ 35) ∨ q = 40 ∨ q = 43) hxG
  have hx16 : G.2.1 0 13 = .ref t := by rw [hxG.2.2.1]; exact ht
  have bD := hA.db
  refine Pv.iloadS rfl rfl ?_
  refine Pv.iload rfl rfl ?_
  refine Pv.icmp rfl (fun c17 => ?_) (fun c17 => ?_)
  · skip
    replace c17 := (i_le (a := d) (b := k) (by omega) (by omega)).mp (of_decide_eq_true c17)
    refine Pv.iload rfl rfl ?_
    exact Pv.ret rfl (by rw [hQ]; exact ⟨congrArg (fun z => some (Value.int (Int32.ofNat z))) (show e = w_dn S d from (by unfold w_dn; split <;> omega)), hxG, h43.le (by unfold w_dn; split <;> omega)⟩)
  · skip
    replace c17 := mt (i_le (a := d) (b := k) (by omega) (by omega)).mpr (of_decide_eq_false c17)
    refine Pv.iload rfl rfl ?_
    refine Pv.lit rfl ?_
    refine Pv.icmp rfl (fun c18 => ?_) (fun c18 => ?_)
    · skip
      replace c18 := (i_le (a := 60) (b := k) (by omega) (by omega)).mp (of_decide_eq_true c18)
      refine Pv.iload rfl rfl ?_
      exact Pv.ret rfl (by rw [hQ]; exact ⟨congrArg (fun z => some (Value.int (Int32.ofNat z))) (show e = w_dn S d from (by unfold w_dn; split <;> omega)), hxG, h43.le (by unfold w_dn; split <;> omega)⟩)
    · skip
      replace c18 := mt (i_le (a := 60) (b := k) (by omega) (by omega)).mpr (of_decide_eq_false c18)
      refine Pv.aload rfl rfl ?_
      refine Pv.getR (v := .ref 20) rfl rfl (GW.at (a := 0) (k := 5) (b := 20) hx15 (by decide)) ?_
      refine Pv.getI (z := Int32.ofNat (h_d (m_days T S k))) rfl rfl (hA.d) ?_
      refine Pv.lit rfl ?_
      refine Pv.icmp rfl (fun c19 => ?_) (fun c19 => ?_)
      · skip
        replace c19 := (i_le (a := 400) (b := h_d (m_days T S k)) (by omega) (by omega)).mp (of_decide_eq_true c19)
        refine Pv.iload rfl rfl ?_
        exact Pv.ret rfl (by rw [hQ]; exact ⟨congrArg (fun z => some (Value.int (Int32.ofNat z))) (show e = w_dn S d from (by unfold w_dn; split <;> omega)), hxG, h43.le (by unfold w_dn; split <;> omega)⟩)
      · skip
        replace c19 := mt (i_le (a := 400) (b := h_d (m_days T S k)) (by omega) (by omega)).mpr (of_decide_eq_false c19)
        refine Pv.aload rfl rfl ?_
        refine Pv.getR (v := .ref 7) rfl rfl (GW.at (a := 0) (k := 2) (b := 7) hx15 (by decide)) ?_
        refine Pv.aload rfl rfl ?_
        refine Pv.getR (v := .ref t) rfl rfl (hx16) ?_
        refine Pv.aload rfl rfl ?_
        refine Pv.getR (v := .ref 20) rfl rfl (GW.at (a := 0) (k := 5) (b := 20) hx15 (by decide)) ?_
        refine Pv.lit rfl ?_
        refine Pv.callV (as := [.ref 7, .ref t, .ref 20, .int 1]) (rest := []) rfl rfl rfl (f_passDays (n := 1) hx13 hA hx15 (by omega) (by omega) (by omega) (by omega)) ?_
        rintro _ G20 ⟨rfl, x21, sr23, pl24⟩
        have hx22 := FX.tr (P := fun q => (7 ≤ q ∧ q ≤ 9) ∨ (20 ≤ q ∧ q ≤ 35) ∨ q = 40 ∨ q = 43) hxG (x21.wd (fun q (c : (20 ≤ q ∧ q ≤ 20 + 7) ∨ (7 ≤ q ∧ q ≤ 9)) => (show (7 ≤ q ∧ q ≤ 9) ∨ (20 ≤ q ∧ q ≤ 35) ∨ q = 40 ∨ q = 43 by omega)))
        have hx25 := hx13.fx (P := fun q => (20 ≤ q ∧ q ≤ 20 + 7) ∨ (7 ≤ q ∧ q ≤ 9)) x21 (fun q h1 h2 (c : (20 ≤ q ∧ q ≤ 20 + 7) ∨ (7 ≤ q ∧ q ≤ 9)) => by omega)
        have hx26 := hx14.fx (P := fun q => (20 ≤ q ∧ q ≤ 20 + 7) ∨ (7 ≤ q ∧ q ≤ 9)) x21 (fun q h1 h2 (c : (20 ≤ q ∧ q ≤ 20 + 7) ∨ (7 ≤ q ∧ q ≤ 9)) => by omega)
        have hx27 := hx15.fx (P := fun q => (20 ≤ q ∧ q ≤ 20 + 7) ∨ (7 ≤ q ∧ q ≤ 9)) x21
        have hr28 : G20.2.1 0 13 = .ref t := by rw [x21.2.2.1]; exact hx16
        refine (show Pv _ _ 58 [some (.ref 0), some (.int (Int32.ofNat g)), some (.int (Int32.ofNat d)), some (.int (Int32.ofNat e)), some (.int (Int32.ofNat k))] [.int (Int32.ofNat (h_d (m_days T (m_days T S k) 1)) - Int32.ofNat (h_d (m_days T S k)))] G20 Q from ?_)
        have hP := pl24 0 rfl (by show h_d (m_days T S k) < 400; omega)
        have hq29 : SHR G20 20 (t_m T) (m_day T (m_days T S k)) := by have q := sr23; rw [show m_days T (m_days T S k) 1 = m_day T (m_days T S k) from if_pos (by show h_d (m_days T S k) < 400; omega)] at q; exact q
        have h43b := AR.fx h43 x21 (by omega)
        refine Pv.pop rfl ?_
        refine Pv.aload rfl rfl ?_
        refine Pv.getR (v := .ref 43) rfl rfl (GW.at (a := 0) (k := 11) (b := 43) hx27 (by decide)) ?_
        refine Pv.iload rfl rfl ?_
        refine Pv.aload rfl rfl ?_
        refine Pv.getR (v := .ref 7) rfl rfl (GW.at (a := 0) (k := 2) (b := 7) hx27 (by decide)) ?_
        refine Pv.getR (v := .ref 9) rfl rfl (GW.at (a := 7) (k := 1) (b := 9) hx27 (by decide)) ?_
        refine Pv.iload rfl rfl ?_
        refine Pv.ald (z := m_room T (m_days T S k) - m_pg T (m_days T S k) g) rfl (by rw [i_toNat (by omega)]; exact hP.2.2.2 _ (by omega)) ?_
        refine Pv.astk (k := k) (z := m_room T (m_days T S k) - m_pg T (m_days T S k) g) rfl (i_toNat (by omega)) (rfl) ?_
        refine Pv.iinc (y := Int32.ofNat (e + 1)) (lo' := [some (.ref 0), some (.int (Int32.ofNat g)), some (.int (Int32.ofNat d)), some (.int (Int32.ofNat (e + 1))), some (.int (Int32.ofNat k))]) rfl rfl (i_add e 1) rfl ?_
        refine Pv.iinc (y := Int32.ofNat (k + 1)) (lo' := [some (.ref 0), some (.int (Int32.ofNat g)), some (.int (Int32.ofNat d)), some (.int (Int32.ofNat (e + 1))), some (.int (Int32.ofNat (k + 1)))]) rfl rfl (i_add k 1) rfl ?_
        refine Pv.goto rfl ?_
        exact ih12 (k + 1, e + 1, (fp G20 43 k (m_room T (m_days T S k) - m_pg T (m_days T S k) g))) (⟨(hx22).fp (show (7 ≤ 43 ∧ 43 ≤ 9) ∨ (20 ≤ 43 ∧ 43 ≤ 35) ∨ 43 = 40 ∨ 43 = 43 by omega), ⟨by omega, by omega⟩, by rw [m_days_s (by omega)]; exact hq29, by rw [m_days_s (by omega)]; show h_d (m_days T S k) + 1 = _; omega, (h43b).ext rfl⟩)
set_option maxRecDepth 100000 in
set_option maxHeartbeats 4000000 in
theorem o_roomTowards {F : FW} {t g s n : Nat} {T : St} {S : Sh} (hG : GW F) (ht : F.2.1 0 13 = .ref t) (hT : TR F t T) (hS : SHR F 12 (t_m T) S) (h43 : AR F 43 n (w_rm T S g)) (hg : g < t_g T) (hs : s < 2) (hn : n ≤ 60) : Pm Z_X10_roomTowards [.ref 0, .int (Int32.ofNat s), .int (Int32.ofNat n)] F (fun r F' => r = some (.int (w_rt T S g s n)) ∧ F' = F) := by
  refine Pm.of fun N => ?_
  obtain ⟨Q, hQ⟩ : ∃ Q : Option Value → FW → Prop, Q = (fun r F' => r = some (.int (w_rt T S g s n)) ∧ F' = F) := ⟨_, rfl⟩
  rw [← hQ]
  have b7 := hS.db
  refine (show Pv (ab_T L_X10_roomTowards) N 0 [some (.ref 0), some (.int (Int32.ofNat s)), some (.int (Int32.ofNat n)), none, none] [] F Q from ?_)
  refine Pv.lit rfl ?_
  refine Pv.istore (lo' := [some (.ref 0), some (.int (Int32.ofNat s)), some (.int (Int32.ofNat n)), some (.int 0), none]) rfl rfl ?_
  refine Pv.lit rfl ?_
  refine Pv.istore (lo' := [some (.ref 0), some (.int (Int32.ofNat s)), some (.int (Int32.ofNat n)), some (.int 0), some (.int 0)]) rfl rfl ?_
  refine Pv.lp (ι := Nat × Int32) (lof := fun ⟨k, b⟩ => [some (.ref 0), some (.int (Int32.ofNat s)), some (.int (Int32.ofNat n)), some (.int b), some (.int (Int32.ofNat k))]) (Ff := fun ⟨k, b⟩ => F) (P := fun ⟨k, b⟩ => k ≤ n ∧ b = w_rt T S g s k) ?_ (0, 0) (⟨Nat.zero_le _, rfl⟩)
  rintro N1 hN2 ⟨k, b⟩ hi3 ih4
  refine (show Pv _ _ 5 [some (.ref 0), some (.int (Int32.ofNat s)), some (.int (Int32.ofNat n)), some (.int b), some (.int (Int32.ofNat k))] [] F Q from ?_)
  obtain ⟨hk, hb⟩ := hi3
  refine Pv.iloadS rfl rfl ?_
  refine Pv.iload rfl rfl ?_
  refine Pv.icmp rfl (fun c5 => ?_) (fun c5 => ?_)
  · skip
    replace c5 := (i_le (a := n) (b := k) (by omega) (by omega)).mp (of_decide_eq_true c5)
    refine Pv.iload rfl rfl ?_
    exact Pv.ret rfl (by rw [hQ]; exact ⟨by rw [hb, show k = n by omega], rfl⟩)
  · skip
    replace c5 := mt (i_le (a := n) (b := k) (by omega) (by omega)).mpr (of_decide_eq_false c5)
    refine Pv.iload rfl rfl ?_
    refine Pv.lit rfl ?_
    refine Pv.icmp rfl (fun c6 => ?_) (fun c6 => ?_)
    · skip
      replace c6 := (i_le (a := 60) (b := k) (by omega) (by omega)).mp (of_decide_eq_true c6)
      refine Pv.iload rfl rfl ?_
      exact Pv.ret rfl (by rw [hQ]; exact ⟨by rw [hb, show k = n by omega], rfl⟩)
    · skip
      replace c6 := mt (i_le (a := 60) (b := k) (by omega) (by omega)).mpr (of_decide_eq_false c6)
      refine Pv.aload rfl rfl ?_
      refine Pv.getR (v := .ref 12) rfl rfl (GW.at (a := 0) (k := 4) (b := 12) hG (by decide)) ?_
      refine Pv.getI (z := Int32.ofNat (h_d S)) rfl rfl (hS.d) ?_
      refine Pv.iload rfl rfl ?_
      refine Pv.bin (z := Int32.ofNat ((h_d S) + k)) rfl (i_add (h_d S) k) ?_
      refine Pv.lit rfl ?_
      refine Pv.irem (z := Int32.ofNat (((h_d S) + k) % 2)) rfl (i_rem2 (by omega)) ?_
      refine Pv.iload rfl rfl ?_
      refine Pv.icmp rfl (fun c7 => ?_) (fun c7 => ?_)
      · skip
        replace c7 := (i_eq (a := ((h_d S) + k) % 2) (b := s) (by omega) (by omega)).mp (of_decide_eq_true c7)
        refine Pv.iinc (y := Int32.ofNat (k + 1)) (lo' := [some (.ref 0), some (.int (Int32.ofNat s)), some (.int (Int32.ofNat n)), some (.int b), some (.int (Int32.ofNat (k + 1)))]) rfl rfl (i_add k 1) rfl ?_
        refine Pv.goto rfl ?_
        exact ih4 (k + 1, b) (⟨by omega, by rw [hb]; exact (if_pos c7).symm⟩)
      · skip
        replace c7 := mt (i_eq (a := ((h_d S) + k) % 2) (b := s) (by omega) (by omega)).mpr (of_decide_eq_false c7)
        refine Pv.iload rfl rfl ?_
        refine Pv.aload rfl rfl ?_
        refine Pv.getR (v := .ref 43) rfl rfl (GW.at (a := 0) (k := 11) (b := 43) hG (by decide)) ?_
        refine Pv.iload rfl rfl ?_
        refine Pv.ald (z := w_rm T S g k) rfl (by rw [i_toNat (by omega)]; exact h43 _ (by omega)) ?_
        refine Pv.bin (z := b + (w_rm T S g k)) rfl (rfl) ?_
        refine Pv.istore (lo' := [some (.ref 0), some (.int (Int32.ofNat s)), some (.int (Int32.ofNat n)), some (.int (b + (w_rm T S g k))), some (.int (Int32.ofNat k))]) rfl rfl ?_
        refine Pv.iinc (y := Int32.ofNat (k + 1)) (lo' := [some (.ref 0), some (.int (Int32.ofNat s)), some (.int (Int32.ofNat n)), some (.int (b + (w_rm T S g k))), some (.int (Int32.ofNat (k + 1)))]) rfl rfl (i_add k 1) rfl ?_
        refine Pv.goto rfl ?_
        exact ih4 (k + 1, b + (w_rm T S g k)) (⟨by omega, by rw [hb]; exact (if_neg c7).symm⟩)
set_option maxRecDepth 100000 in
set_option maxHeartbeats 4000000 in
theorem o_wouldCome {F : FW} {t g s n w : Nat} {T : St} {S : Sh} (hG : GW F) (ht : F.2.1 0 13 = .ref t) (hT : TR F t T) (hS : SHR F 12 (t_m T) S) (h43 : AR F 43 n (w_rm T S g)) (hg : g < t_g T) (hs : s < 2) (hn : n ≤ 60) : Pm Z_X10_wouldCome [.ref 0, .int (Int32.ofNat g), .int (Int32.ofNat s), .int (Int32.ofNat w), .int (Int32.ofNat n)] F (fun r F' => r = some (.int ((w_s T S g s w n).2.2)) ∧ F' = F) := by
  refine Pm.of fun N => ?_
  obtain ⟨Q, hQ⟩ : ∃ Q : Option Value → FW → Prop, Q = (fun r F' => r = some (.int ((w_s T S g s w n).2.2)) ∧ F' = F) := ⟨_, rfl⟩
  rw [← hQ]
  have b7 := hS.db
  have b5 := hT.gb
  refine (show Pv (ab_T (L_X10_wouldCome Z_X10_slotOf Z_X7_amountOf Z_X1_amountMoved Z_X7_stockAfter)) N 0 [some (.ref 0), some (.int (Int32.ofNat g)), some (.int (Int32.ofNat s)), some (.int (Int32.ofNat w)), some (.int (Int32.ofNat n)), none, none, none, none, none, none, none, none, none] [] F Q from ?_)
  refine Pv.iload rfl rfl ?_
  refine Pv.iload rfl rfl ?_
  refine Pv.callI (as := [.int (Int32.ofNat g), .int (Int32.ofNat s)]) (rest := []) (z := Int32.ofNat (2 * g + s)) rfl rfl rfl (f_slotOf (g := g) (s := s)) ?_
  refine Pv.istore (lo' := [some (.ref 0), some (.int (Int32.ofNat g)), some (.int (Int32.ofNat s)), some (.int (Int32.ofNat w)), some (.int (Int32.ofNat n)), some (.int (Int32.ofNat (2 * g + s))), none, none, none, none, none, none, none, none]) rfl rfl ?_
  refine Pv.iload rfl rfl ?_
  refine Pv.lit rfl ?_
  refine Pv.iload rfl rfl ?_
  refine Pv.bin (z := Int32.ofNat (1 - s)) rfl (i_1m (by omega)) ?_
  refine Pv.callI (as := [.int (Int32.ofNat g), .int (Int32.ofNat (1 - s))]) (rest := []) (z := Int32.ofNat (2 * g + (1 - s))) rfl rfl rfl (f_slotOf (g := g) (s := 1 - s)) ?_
  refine Pv.istore (lo' := [some (.ref 0), some (.int (Int32.ofNat g)), some (.int (Int32.ofNat s)), some (.int (Int32.ofNat w)), some (.int (Int32.ofNat n)), some (.int (Int32.ofNat (2 * g + s))), some (.int (Int32.ofNat (2 * g + (1 - s)))), none, none, none, none, none, none, none]) rfl rfl ?_
  refine Pv.aload rfl rfl ?_
  refine Pv.getR (v := .ref t) rfl rfl (ht) ?_
  refine Pv.lit rfl ?_
  refine Pv.iload rfl rfl ?_
  refine Pv.callVI (as := [.ref t, .int 1, .int (Int32.ofNat (2 * g + s))]) (rest := []) (z := t_a T (1 * 12 + (2 * g + s))) rfl rfl rfl (f_amountOf (s := 1) (k := 2 * g + s) hT (by omega)) ?_
  refine Pv.istore (lo' := [some (.ref 0), some (.int (Int32.ofNat g)), some (.int (Int32.ofNat s)), some (.int (Int32.ofNat w)), some (.int (Int32.ofNat n)), some (.int (Int32.ofNat (2 * g + s))), some (.int (Int32.ofNat (2 * g + (1 - s)))), some (.int (t_a T (1 * 12 + (2 * g + s)))), none, none, none, none, none, none]) rfl rfl ?_
  refine Pv.aload rfl rfl ?_
  refine Pv.getR (v := .ref t) rfl rfl (ht) ?_
  refine Pv.lit rfl ?_
  refine Pv.iload rfl rfl ?_
  refine Pv.callVI (as := [.ref t, .int 1, .int (Int32.ofNat (2 * g + (1 - s)))]) (rest := []) (z := t_a T (1 * 12 + (2 * g + (1 - s)))) rfl rfl rfl (f_amountOf (s := 1) (k := 2 * g + (1 - s)) hT (by omega)) ?_
  refine Pv.istore (lo' := [some (.ref 0), some (.int (Int32.ofNat g)), some (.int (Int32.ofNat s)), some (.int (Int32.ofNat w)), some (.int (Int32.ofNat n)), some (.int (Int32.ofNat (2 * g + s))), some (.int (Int32.ofNat (2 * g + (1 - s)))), some (.int (t_a T (1 * 12 + (2 * g + s)))), some (.int (t_a T (1 * 12 + (2 * g + (1 - s))))), none, none, none, none, none]) rfl rfl ?_
  refine Pv.aload rfl rfl ?_
  refine Pv.getR (v := .ref 12) rfl rfl (GW.at (a := 0) (k := 4) (b := 12) hG (by decide)) ?_
  refine Pv.getR (v := .ref 13) rfl rfl (hS.o 0 (by decide)) ?_
  refine Pv.iload rfl rfl ?_
  refine Pv.ald (z := h_s S (2 * g + s)) rfl (by rw [i_toNat (by omega)]; exact hS.s _ (by omega)) ?_
  refine Pv.iload rfl rfl ?_
  refine Pv.bin (z := (h_s S (2 * g + s)) - (Int32.ofNat w)) rfl (rfl) ?_
  refine Pv.istore (lo' := [some (.ref 0), some (.int (Int32.ofNat g)), some (.int (Int32.ofNat s)), some (.int (Int32.ofNat w)), some (.int (Int32.ofNat n)), some (.int (Int32.ofNat (2 * g + s))), some (.int (Int32.ofNat (2 * g + (1 - s)))), some (.int (t_a T (1 * 12 + (2 * g + s)))), some (.int (t_a T (1 * 12 + (2 * g + (1 - s))))), some (.int ((h_s S (2 * g + s)) - (Int32.ofNat w))), none, none, none, none]) rfl rfl ?_
  refine Pv.aload rfl rfl ?_
  refine Pv.getR (v := .ref 12) rfl rfl (GW.at (a := 0) (k := 4) (b := 12) hG (by decide)) ?_
  refine Pv.getR (v := .ref 13) rfl rfl (hS.o 0 (by decide)) ?_
  refine Pv.iload rfl rfl ?_
  refine Pv.ald (z := h_s S (2 * g + (1 - s))) rfl (by rw [i_toNat (by omega)]; exact hS.s _ (by omega)) ?_
  refine Pv.istore (lo' := [some (.ref 0), some (.int (Int32.ofNat g)), some (.int (Int32.ofNat s)), some (.int (Int32.ofNat w)), some (.int (Int32.ofNat n)), some (.int (Int32.ofNat (2 * g + s))), some (.int (Int32.ofNat (2 * g + (1 - s)))), some (.int (t_a T (1 * 12 + (2 * g + s)))), some (.int (t_a T (1 * 12 + (2 * g + (1 - s))))), some (.int ((h_s S (2 * g + s)) - (Int32.ofNat w))), some (.int (h_s S (2 * g + (1 - s)))), none, none, none]) rfl rfl ?_
  refine Pv.lit rfl ?_
  refine Pv.istore (lo' := [some (.ref 0), some (.int (Int32.ofNat g)), some (.int (Int32.ofNat s)), some (.int (Int32.ofNat w)), some (.int (Int32.ofNat n)), some (.int (Int32.ofNat (2 * g + s))), some (.int (Int32.ofNat (2 * g + (1 - s)))), some (.int (t_a T (1 * 12 + (2 * g + s)))), some (.int (t_a T (1 * 12 + (2 * g + (1 - s))))), some (.int ((h_s S (2 * g + s)) - (Int32.ofNat w))), some (.int (h_s S (2 * g + (1 - s)))), some (.int 0), none, none]) rfl rfl ?_
  refine Pv.lit rfl ?_
  refine Pv.istore (lo' := [some (.ref 0), some (.int (Int32.ofNat g)), some (.int (Int32.ofNat s)), some (.int (Int32.ofNat w)), some (.int (Int32.ofNat n)), some (.int (Int32.ofNat (2 * g + s))), some (.int (Int32.ofNat (2 * g + (1 - s)))), some (.int (t_a T (1 * 12 + (2 * g + s)))), some (.int (t_a T (1 * 12 + (2 * g + (1 - s))))), some (.int ((h_s S (2 * g + s)) - (Int32.ofNat w))), some (.int (h_s S (2 * g + (1 - s)))), some (.int 0), some (.int 0), none]) rfl rfl ?_
  refine Pv.lp (ι := Nat × Int32 × Int32 × Int32 × (Option Value)) (lof := fun ⟨k, h, u, c, o1⟩ => [some (.ref 0), some (.int (Int32.ofNat g)), some (.int (Int32.ofNat s)), some (.int (Int32.ofNat w)), some (.int (Int32.ofNat n)), some (.int (Int32.ofNat (2 * g + s))), some (.int (Int32.ofNat (2 * g + (1 - s)))), some (.int (t_a T (1 * 12 + (2 * g + s)))), some (.int (t_a T (1 * 12 + (2 * g + (1 - s))))), some (.int h), some (.int u), some (.int c), some (.int (Int32.ofNat k)), o1]) (Ff := fun ⟨k, h, u, c, o1⟩ => F) (P := fun ⟨k, h, u, c, o1⟩ => k ≤ n ∧ h = (w_s T S g s w k).1 ∧ u = (w_s T S g s w k).2.1 ∧ c = (w_s T S g s w k).2.2) ?_ (0, (h_s S (2 * g + s)) - (Int32.ofNat w), h_s S (2 * g + (1 - s)), 0, none) (⟨Nat.zero_le _, rfl, rfl, rfl⟩)
  rintro N2 hN3 ⟨k, h, u, c, o1⟩ hi4 ih5
  refine (show Pv _ _ 72 [some (.ref 0), some (.int (Int32.ofNat g)), some (.int (Int32.ofNat s)), some (.int (Int32.ofNat w)), some (.int (Int32.ofNat n)), some (.int (Int32.ofNat (2 * g + s))), some (.int (Int32.ofNat (2 * g + (1 - s)))), some (.int (t_a T (1 * 12 + (2 * g + s)))), some (.int (t_a T (1 * 12 + (2 * g + (1 - s))))), some (.int h), some (.int u), some (.int c), some (.int (Int32.ofNat k)), o1] [] F Q from ?_)
  obtain ⟨hk, e1, e2, e3⟩ := hi4
  refine Pv.iloadS rfl rfl ?_
  refine Pv.iload rfl rfl ?_
  refine Pv.icmp rfl (fun c6 => ?_) (fun c6 => ?_)
  · skip
    replace c6 := (i_le (a := n) (b := k) (by omega) (by omega)).mp (of_decide_eq_true c6)
    refine Pv.iload rfl rfl ?_
    exact Pv.ret rfl (by rw [hQ]; exact ⟨by rw [e3, show k = n by omega], rfl⟩)
  · skip
    replace c6 := mt (i_le (a := n) (b := k) (by omega) (by omega)).mpr (of_decide_eq_false c6)
    refine Pv.iload rfl rfl ?_
    refine Pv.lit rfl ?_
    refine Pv.icmp rfl (fun c7 => ?_) (fun c7 => ?_)
    · skip
      replace c7 := (i_le (a := 60) (b := k) (by omega) (by omega)).mp (of_decide_eq_true c7)
      refine Pv.iload rfl rfl ?_
      exact Pv.ret rfl (by rw [hQ]; exact ⟨by rw [e3, show k = n by omega], rfl⟩)
    · skip
      replace c7 := mt (i_le (a := 60) (b := k) (by omega) (by omega)).mpr (of_decide_eq_false c7)
      refine Pv.aload rfl rfl ?_
      refine Pv.getR (v := .ref 12) rfl rfl (GW.at (a := 0) (k := 4) (b := 12) hG (by decide)) ?_
      refine Pv.getI (z := Int32.ofNat (h_d S)) rfl rfl (hS.d) ?_
      refine Pv.iload rfl rfl ?_
      refine Pv.bin (z := Int32.ofNat ((h_d S) + k)) rfl (i_add (h_d S) k) ?_
      refine Pv.lit rfl ?_
      refine Pv.irem (z := Int32.ofNat (((h_d S) + k) % 2)) rfl (i_rem2 (by omega)) ?_
      refine Pv.iload rfl rfl ?_
      refine Pv.icmp rfl (fun c8 => ?_) (fun c8 => ?_)
      · skip
        replace c8 : decide (Int32.ofNat (((h_d S) + k) % 2) = Int32.ofNat s) = false := by simpa using c8
        replace c8 := mt (i_eq (a := ((h_d S) + k) % 2) (b := s) (by omega) (by omega)).mpr (of_decide_eq_false c8)
        refine Pv.iload rfl rfl ?_
        refine Pv.iload rfl rfl ?_
        refine Pv.iload rfl rfl ?_
        refine Pv.bin (z := (t_a T (1 * 12 + (2 * g + s))) - h) rfl (rfl) ?_
        refine Pv.aload rfl rfl ?_
        refine Pv.getR (v := .ref 43) rfl rfl (GW.at (a := 0) (k := 11) (b := 43) hG (by decide)) ?_
        refine Pv.iload rfl rfl ?_
        refine Pv.ald (z := w_rm T S g k) rfl (by rw [i_toNat (by omega)]; exact h43 _ (by omega)) ?_
        refine Pv.callI (as := [.int u, .int ((t_a T (1 * 12 + (2 * g + s))) - h), .int (w_rm T S g k)]) (rest := []) (z := m_moved u ((t_a T (1 * 12 + (2 * g + s))) - h) (w_rm T S g k)) rfl rfl rfl (f_amountMoved (x := u) (y := (t_a T (1 * 12 + (2 * g + s))) - h) (z := w_rm T S g k)) ?_
        refine Pv.istore (lo' := [some (.ref 0), some (.int (Int32.ofNat g)), some (.int (Int32.ofNat s)), some (.int (Int32.ofNat w)), some (.int (Int32.ofNat n)), some (.int (Int32.ofNat (2 * g + s))), some (.int (Int32.ofNat (2 * g + (1 - s)))), some (.int (t_a T (1 * 12 + (2 * g + s)))), some (.int (t_a T (1 * 12 + (2 * g + (1 - s))))), some (.int h), some (.int u), some (.int c), some (.int (Int32.ofNat k)), some (.int (m_moved u ((t_a T (1 * 12 + (2 * g + s))) - h) (w_rm T S g k)))]) rfl rfl ?_
        refine Pv.iload rfl rfl ?_
        refine Pv.iload rfl rfl ?_
        refine Pv.bin (z := h + (m_moved u ((t_a T (1 * 12 + (2 * g + s))) - h) (w_rm T S g k))) rfl (rfl) ?_
        refine Pv.istore (lo' := [some (.ref 0), some (.int (Int32.ofNat g)), some (.int (Int32.ofNat s)), some (.int (Int32.ofNat w)), some (.int (Int32.ofNat n)), some (.int (Int32.ofNat (2 * g + s))), some (.int (Int32.ofNat (2 * g + (1 - s)))), some (.int (t_a T (1 * 12 + (2 * g + s)))), some (.int (t_a T (1 * 12 + (2 * g + (1 - s))))), some (.int (h + (m_moved u ((t_a T (1 * 12 + (2 * g + s))) - h) (w_rm T S g k)))), some (.int u), some (.int c), some (.int (Int32.ofNat k)), some (.int (m_moved u ((t_a T (1 * 12 + (2 * g + s))) - h) (w_rm T S g k)))]) rfl rfl ?_
        refine Pv.iload rfl rfl ?_
        refine Pv.iload rfl rfl ?_
        refine Pv.bin (z := u - (m_moved u ((t_a T (1 * 12 + (2 * g + s))) - h) (w_rm T S g k))) rfl (rfl) ?_
        refine Pv.istore (lo' := [some (.ref 0), some (.int (Int32.ofNat g)), some (.int (Int32.ofNat s)), some (.int (Int32.ofNat w)), some (.int (Int32.ofNat n)), some (.int (Int32.ofNat (2 * g + s))), some (.int (Int32.ofNat (2 * g + (1 - s)))), some (.int (t_a T (1 * 12 + (2 * g + s)))), some (.int (t_a T (1 * 12 + (2 * g + (1 - s))))), some (.int (h + (m_moved u ((t_a T (1 * 12 + (2 * g + s))) - h) (w_rm T S g k)))), some (.int (u - (m_moved u ((t_a T (1 * 12 + (2 * g + s))) - h) (w_rm T S g k)))), some (.int c), some (.int (Int32.ofNat k)), some (.int (m_moved u ((t_a T (1 * 12 + (2 * g + s))) - h) (w_rm T S g k)))]) rfl rfl ?_
        refine Pv.iload rfl rfl ?_
        refine Pv.iload rfl rfl ?_
        refine Pv.bin (z := c + (m_moved u ((t_a T (1 * 12 + (2 * g + s))) - h) (w_rm T S g k))) rfl (rfl) ?_
        refine Pv.istore (lo' := [some (.ref 0), some (.int (Int32.ofNat g)), some (.int (Int32.ofNat s)), some (.int (Int32.ofNat w)), some (.int (Int32.ofNat n)), some (.int (Int32.ofNat (2 * g + s))), some (.int (Int32.ofNat (2 * g + (1 - s)))), some (.int (t_a T (1 * 12 + (2 * g + s)))), some (.int (t_a T (1 * 12 + (2 * g + (1 - s))))), some (.int (h + (m_moved u ((t_a T (1 * 12 + (2 * g + s))) - h) (w_rm T S g k)))), some (.int (u - (m_moved u ((t_a T (1 * 12 + (2 * g + s))) - h) (w_rm T S g k)))), some (.int (c + (m_moved u ((t_a T (1 * 12 + (2 * g + s))) - h) (w_rm T S g k)))), some (.int (Int32.ofNat k)), some (.int (m_moved u ((t_a T (1 * 12 + (2 * g + s))) - h) (w_rm T S g k)))]) rfl rfl ?_
        refine Pv.aload rfl rfl ?_
        refine Pv.getR (v := .ref t) rfl rfl (ht) ?_
        refine Pv.iload rfl rfl ?_
        refine Pv.iload rfl rfl ?_
        refine Pv.callVI (as := [.ref t, .int (Int32.ofNat (2 * g + s)), .int (h + (m_moved u ((t_a T (1 * 12 + (2 * g + s))) - h) (w_rm T S g k)))]) (rest := []) (z := ab_max 0 (m_left T (2 * g + s) (h + (m_moved u ((t_a T (1 * 12 + (2 * g + s))) - h) (w_rm T S g k))))) rfl rfl rfl (f_stockAfter (k := 2 * g + s) (x := h + (m_moved u ((t_a T (1 * 12 + (2 * g + s))) - h) (w_rm T S g k))) hT (by omega)) ?_
        refine Pv.istore (lo' := [some (.ref 0), some (.int (Int32.ofNat g)), some (.int (Int32.ofNat s)), some (.int (Int32.ofNat w)), some (.int (Int32.ofNat n)), some (.int (Int32.ofNat (2 * g + s))), some (.int (Int32.ofNat (2 * g + (1 - s)))), some (.int (t_a T (1 * 12 + (2 * g + s)))), some (.int (t_a T (1 * 12 + (2 * g + (1 - s))))), some (.int (ab_max 0 (m_left T (2 * g + s) (h + (m_moved u ((t_a T (1 * 12 + (2 * g + s))) - h) (w_rm T S g k)))))), some (.int (u - (m_moved u ((t_a T (1 * 12 + (2 * g + s))) - h) (w_rm T S g k)))), some (.int (c + (m_moved u ((t_a T (1 * 12 + (2 * g + s))) - h) (w_rm T S g k)))), some (.int (Int32.ofNat k)), some (.int (m_moved u ((t_a T (1 * 12 + (2 * g + s))) - h) (w_rm T S g k)))]) rfl rfl ?_
        refine Pv.aload rfl rfl ?_
        refine Pv.getR (v := .ref t) rfl rfl (ht) ?_
        refine Pv.iload rfl rfl ?_
        refine Pv.iload rfl rfl ?_
        refine Pv.callVI (as := [.ref t, .int (Int32.ofNat (2 * g + (1 - s))), .int (u - (m_moved u ((t_a T (1 * 12 + (2 * g + s))) - h) (w_rm T S g k)))]) (rest := []) (z := ab_max 0 (m_left T (2 * g + (1 - s)) (u - (m_moved u ((t_a T (1 * 12 + (2 * g + s))) - h) (w_rm T S g k))))) rfl rfl rfl (f_stockAfter (k := 2 * g + (1 - s)) (x := u - (m_moved u ((t_a T (1 * 12 + (2 * g + s))) - h) (w_rm T S g k))) hT (by omega)) ?_
        refine Pv.istore (lo' := [some (.ref 0), some (.int (Int32.ofNat g)), some (.int (Int32.ofNat s)), some (.int (Int32.ofNat w)), some (.int (Int32.ofNat n)), some (.int (Int32.ofNat (2 * g + s))), some (.int (Int32.ofNat (2 * g + (1 - s)))), some (.int (t_a T (1 * 12 + (2 * g + s)))), some (.int (t_a T (1 * 12 + (2 * g + (1 - s))))), some (.int (ab_max 0 (m_left T (2 * g + s) (h + (m_moved u ((t_a T (1 * 12 + (2 * g + s))) - h) (w_rm T S g k)))))), some (.int (ab_max 0 (m_left T (2 * g + (1 - s)) (u - (m_moved u ((t_a T (1 * 12 + (2 * g + s))) - h) (w_rm T S g k)))))), some (.int (c + (m_moved u ((t_a T (1 * 12 + (2 * g + s))) - h) (w_rm T S g k)))), some (.int (Int32.ofNat k)), some (.int (m_moved u ((t_a T (1 * 12 + (2 * g + s))) - h) (w_rm T S g k)))]) rfl rfl ?_
        refine Pv.iinc (y := Int32.ofNat (k + 1)) (lo' := [some (.ref 0), some (.int (Int32.ofNat g)), some (.int (Int32.ofNat s)), some (.int (Int32.ofNat w)), some (.int (Int32.ofNat n)), some (.int (Int32.ofNat (2 * g + s))), some (.int (Int32.ofNat (2 * g + (1 - s)))), some (.int (t_a T (1 * 12 + (2 * g + s)))), some (.int (t_a T (1 * 12 + (2 * g + (1 - s))))), some (.int (ab_max 0 (m_left T (2 * g + s) (h + (m_moved u ((t_a T (1 * 12 + (2 * g + s))) - h) (w_rm T S g k)))))), some (.int (ab_max 0 (m_left T (2 * g + (1 - s)) (u - (m_moved u ((t_a T (1 * 12 + (2 * g + s))) - h) (w_rm T S g k)))))), some (.int (c + (m_moved u ((t_a T (1 * 12 + (2 * g + s))) - h) (w_rm T S g k)))), some (.int (Int32.ofNat (k + 1))), some (.int (m_moved u ((t_a T (1 * 12 + (2 * g + s))) - h) (w_rm T S g k)))]) rfl rfl (i_add k 1) rfl ?_
        refine Pv.goto rfl ?_
        exact ih5 (k + 1, ab_max 0 (m_left T (2 * g + s) (h + (m_moved u ((t_a T (1 * 12 + (2 * g + s))) - h) (w_rm T S g k)))), ab_max 0 (m_left T (2 * g + (1 - s)) (u - (m_moved u ((t_a T (1 * 12 + (2 * g + s))) - h) (w_rm T S g k)))), c + (m_moved u ((t_a T (1 * 12 + (2 * g + s))) - h) (w_rm T S g k)), (some (.int (m_moved u ((t_a T (1 * 12 + (2 * g + s))) - h) (w_rm T S g k))))) (⟨by omega, by rw [w_s_f c8, ← e1, ← e2], by rw [w_s_f c8, ← e1, ← e2], by rw [w_s_f c8, ← e1, ← e2, ← e3]⟩)
      · skip
        replace c8 : decide (Int32.ofNat (((h_d S) + k) % 2) = Int32.ofNat s) = true := by simpa using c8
        replace c8 := (i_eq (a := ((h_d S) + k) % 2) (b := s) (by omega) (by omega)).mp (of_decide_eq_true c8)
        refine Pv.iload rfl rfl ?_
        refine Pv.iload rfl rfl ?_
        refine Pv.iload rfl rfl ?_
        refine Pv.bin (z := (t_a T (1 * 12 + (2 * g + (1 - s)))) - u) rfl (rfl) ?_
        refine Pv.aload rfl rfl ?_
        refine Pv.getR (v := .ref 43) rfl rfl (GW.at (a := 0) (k := 11) (b := 43) hG (by decide)) ?_
        refine Pv.iload rfl rfl ?_
        refine Pv.ald (z := w_rm T S g k) rfl (by rw [i_toNat (by omega)]; exact h43 _ (by omega)) ?_
        refine Pv.callI (as := [.int h, .int ((t_a T (1 * 12 + (2 * g + (1 - s)))) - u), .int (w_rm T S g k)]) (rest := []) (z := m_moved h ((t_a T (1 * 12 + (2 * g + (1 - s)))) - u) (w_rm T S g k)) rfl rfl rfl (f_amountMoved (x := h) (y := (t_a T (1 * 12 + (2 * g + (1 - s)))) - u) (z := w_rm T S g k)) ?_
        refine Pv.istore (lo' := [some (.ref 0), some (.int (Int32.ofNat g)), some (.int (Int32.ofNat s)), some (.int (Int32.ofNat w)), some (.int (Int32.ofNat n)), some (.int (Int32.ofNat (2 * g + s))), some (.int (Int32.ofNat (2 * g + (1 - s)))), some (.int (t_a T (1 * 12 + (2 * g + s)))), some (.int (t_a T (1 * 12 + (2 * g + (1 - s))))), some (.int h), some (.int u), some (.int c), some (.int (Int32.ofNat k)), some (.int (m_moved h ((t_a T (1 * 12 + (2 * g + (1 - s)))) - u) (w_rm T S g k)))]) rfl rfl ?_
        refine Pv.iload rfl rfl ?_
        refine Pv.iload rfl rfl ?_
        refine Pv.bin (z := h - (m_moved h ((t_a T (1 * 12 + (2 * g + (1 - s)))) - u) (w_rm T S g k))) rfl (rfl) ?_
        refine Pv.istore (lo' := [some (.ref 0), some (.int (Int32.ofNat g)), some (.int (Int32.ofNat s)), some (.int (Int32.ofNat w)), some (.int (Int32.ofNat n)), some (.int (Int32.ofNat (2 * g + s))), some (.int (Int32.ofNat (2 * g + (1 - s)))), some (.int (t_a T (1 * 12 + (2 * g + s)))), some (.int (t_a T (1 * 12 + (2 * g + (1 - s))))), some (.int (h - (m_moved h ((t_a T (1 * 12 + (2 * g + (1 - s)))) - u) (w_rm T S g k)))), some (.int u), some (.int c), some (.int (Int32.ofNat k)), some (.int (m_moved h ((t_a T (1 * 12 + (2 * g + (1 - s)))) - u) (w_rm T S g k)))]) rfl rfl ?_
        refine Pv.iload rfl rfl ?_
        refine Pv.iload rfl rfl ?_
        refine Pv.bin (z := u + (m_moved h ((t_a T (1 * 12 + (2 * g + (1 - s)))) - u) (w_rm T S g k))) rfl (rfl) ?_
        refine Pv.istore (lo' := [some (.ref 0), some (.int (Int32.ofNat g)), some (.int (Int32.ofNat s)), some (.int (Int32.ofNat w)), some (.int (Int32.ofNat n)), some (.int (Int32.ofNat (2 * g + s))), some (.int (Int32.ofNat (2 * g + (1 - s)))), some (.int (t_a T (1 * 12 + (2 * g + s)))), some (.int (t_a T (1 * 12 + (2 * g + (1 - s))))), some (.int (h - (m_moved h ((t_a T (1 * 12 + (2 * g + (1 - s)))) - u) (w_rm T S g k)))), some (.int (u + (m_moved h ((t_a T (1 * 12 + (2 * g + (1 - s)))) - u) (w_rm T S g k)))), some (.int c), some (.int (Int32.ofNat k)), some (.int (m_moved h ((t_a T (1 * 12 + (2 * g + (1 - s)))) - u) (w_rm T S g k)))]) rfl rfl ?_
        refine Pv.goto rfl ?_
        refine Pv.aload rfl rfl ?_
        refine Pv.getR (v := .ref t) rfl rfl (ht) ?_
        refine Pv.iload rfl rfl ?_
        refine Pv.iload rfl rfl ?_
        refine Pv.callVI (as := [.ref t, .int (Int32.ofNat (2 * g + s)), .int (h - (m_moved h ((t_a T (1 * 12 + (2 * g + (1 - s)))) - u) (w_rm T S g k)))]) (rest := []) (z := ab_max 0 (m_left T (2 * g + s) (h - (m_moved h ((t_a T (1 * 12 + (2 * g + (1 - s)))) - u) (w_rm T S g k))))) rfl rfl rfl (f_stockAfter (k := 2 * g + s) (x := h - (m_moved h ((t_a T (1 * 12 + (2 * g + (1 - s)))) - u) (w_rm T S g k))) hT (by omega)) ?_
        refine Pv.istore (lo' := [some (.ref 0), some (.int (Int32.ofNat g)), some (.int (Int32.ofNat s)), some (.int (Int32.ofNat w)), some (.int (Int32.ofNat n)), some (.int (Int32.ofNat (2 * g + s))), some (.int (Int32.ofNat (2 * g + (1 - s)))), some (.int (t_a T (1 * 12 + (2 * g + s)))), some (.int (t_a T (1 * 12 + (2 * g + (1 - s))))), some (.int (ab_max 0 (m_left T (2 * g + s) (h - (m_moved h ((t_a T (1 * 12 + (2 * g + (1 - s)))) - u) (w_rm T S g k)))))), some (.int (u + (m_moved h ((t_a T (1 * 12 + (2 * g + (1 - s)))) - u) (w_rm T S g k)))), some (.int c), some (.int (Int32.ofNat k)), some (.int (m_moved h ((t_a T (1 * 12 + (2 * g + (1 - s)))) - u) (w_rm T S g k)))]) rfl rfl ?_
        refine Pv.aload rfl rfl ?_
        refine Pv.getR (v := .ref t) rfl rfl (ht) ?_
        refine Pv.iload rfl rfl ?_
        refine Pv.iload rfl rfl ?_
        refine Pv.callVI (as := [.ref t, .int (Int32.ofNat (2 * g + (1 - s))), .int (u + (m_moved h ((t_a T (1 * 12 + (2 * g + (1 - s)))) - u) (w_rm T S g k)))]) (rest := []) (z := ab_max 0 (m_left T (2 * g + (1 - s)) (u + (m_moved h ((t_a T (1 * 12 + (2 * g + (1 - s)))) - u) (w_rm T S g k))))) rfl rfl rfl (f_stockAfter (k := 2 * g + (1 - s)) (x := u + (m_moved h ((t_a T (1 * 12 + (2 * g + (1 - s)))) - u) (w_rm T S g k))) hT (by omega)) ?_
        refine Pv.istore (lo' := [some (.ref 0), some (.int (Int32.ofNat g)), some (.int (Int32.ofNat s)), some (.int (Int32.ofNat w)), some (.int (Int32.ofNat n)), some (.int (Int32.ofNat (2 * g + s))), some (.int (Int32.ofNat (2 * g + (1 - s)))), some (.int (t_a T (1 * 12 + (2 * g + s)))), some (.int (t_a T (1 * 12 + (2 * g + (1 - s))))), some (.int (ab_max 0 (m_left T (2 * g + s) (h - (m_moved h ((t_a T (1 * 12 + (2 * g + (1 - s)))) - u) (w_rm T S g k)))))), some (.int (ab_max 0 (m_left T (2 * g + (1 - s)) (u + (m_moved h ((t_a T (1 * 12 + (2 * g + (1 - s)))) - u) (w_rm T S g k)))))), some (.int c), some (.int (Int32.ofNat k)), some (.int (m_moved h ((t_a T (1 * 12 + (2 * g + (1 - s)))) - u) (w_rm T S g k)))]) rfl rfl ?_
        refine Pv.iinc (y := Int32.ofNat (k + 1)) (lo' := [some (.ref 0), some (.int (Int32.ofNat g)), some (.int (Int32.ofNat s)), some (.int (Int32.ofNat w)), some (.int (Int32.ofNat n)), some (.int (Int32.ofNat (2 * g + s))), some (.int (Int32.ofNat (2 * g + (1 - s)))), some (.int (t_a T (1 * 12 + (2 * g + s)))), some (.int (t_a T (1 * 12 + (2 * g + (1 - s))))), some (.int (ab_max 0 (m_left T (2 * g + s) (h - (m_moved h ((t_a T (1 * 12 + (2 * g + (1 - s)))) - u) (w_rm T S g k)))))), some (.int (ab_max 0 (m_left T (2 * g + (1 - s)) (u + (m_moved h ((t_a T (1 * 12 + (2 * g + (1 - s)))) - u) (w_rm T S g k)))))), some (.int c), some (.int (Int32.ofNat (k + 1))), some (.int (m_moved h ((t_a T (1 * 12 + (2 * g + (1 - s)))) - u) (w_rm T S g k)))]) rfl rfl (i_add k 1) rfl ?_
        refine Pv.goto rfl ?_
        exact ih5 (k + 1, ab_max 0 (m_left T (2 * g + s) (h - (m_moved h ((t_a T (1 * 12 + (2 * g + (1 - s)))) - u) (w_rm T S g k)))), ab_max 0 (m_left T (2 * g + (1 - s)) (u + (m_moved h ((t_a T (1 * 12 + (2 * g + (1 - s)))) - u) (w_rm T S g k)))), c, (some (.int (m_moved h ((t_a T (1 * 12 + (2 * g + (1 - s)))) - u) (w_rm T S g k))))) (⟨by omega, by rw [w_s_t c8, ← e1, ← e2], by rw [w_s_t c8, ← e1, ← e2], by rw [w_s_t c8, ← e3]⟩)
set_option maxRecDepth 100000 in
set_option maxHeartbeats 4000000 in
theorem o_without {F : FW} {t : Nat} {T : St} {S : Sh} (hG : GW F) (ht : F.2.1 0 13 = .ref t) (hT : TR F t T) (hS : SHR F 12 (t_m T) S) (j0 : t = 45 ∨ t = 53) (hI : INV T S) (x y z w : Int32) : Pm Z_X10_without [.ref 0, .int x, .int y, .int z, .int w] F (fun r F' => r = some (.int (c_without T S x y z w)) ∧ CDR F F') := by
  refine Pm.of fun N => ?_
  obtain ⟨Q, hQ⟩ : ∃ Q : Option Value → FW → Prop, Q = (fun r F' => r = some (.int (c_without T S x y z w)) ∧ CDR F F') := ⟨_, rfl⟩
  rw [← hQ]
  have b3 := hT.mb
  have b4 := hT.nb
  have b5 := hT.gb
  have b6 := m_from_lt S
  have b7 := hS.db
  refine (show Pv (ab_T (L_X10_without Z_X10_isSlot Z_X10_isWithin Z_X10_foreseeRoom Z_X10_roomTowards Z_X10_slotOf Z_X10_wouldCome)) N 0 [some (.ref 0), some (.int x), some (.int y), some (.int z), some (.int w), none, none, none] [] F Q from ?_)
  refine Pv.aload rfl rfl ?_
  refine Pv.iload rfl rfl ?_
  refine Pv.iload rfl rfl ?_
  refine Pv.callVI (as := [.ref 0, .int x, .int y]) (rest := []) (z := b2i ((nd (t_g T) x).isSome && (nd 2 y).isSome)) rfl rfl rfl (o_isSlot hG ht hT hS j0 x y) ?_
  refine Pv.if0 rfl (fun c1 => ?_) (fun c1 => ?_)
  · skip
    replace c1 := of_decide_eq_true c1
    replace c1 := b2z.mp c1
    refine Pv.lit rfl ?_
    exact Pv.ret rfl (by rw [hQ]; exact ⟨by unfold c_without; rw [aGS_f c1], FX.rf⟩)
  · skip
    replace c1 := of_decide_eq_false c1
    replace c1 := b2n.mp c1
    obtain ⟨g, s, hg, hs, hgl, hsl, rfl, rfl⟩ := gs_t c1
    refine Pv.iload rfl rfl ?_
    refine Pv.lit rfl ?_
    refine Pv.callI (as := [.int z, .int 250]) (rest := []) (z := b2i (decide (1 ≤ z) && decide (z ≤ 250))) rfl rfl rfl ((o_isWithin z 250)) ?_
    refine Pv.if0 rfl (fun c2 => ?_) (fun c2 => ?_)
    · skip
      replace c2 := of_decide_eq_true c2
      replace c2 := b2z.mp c2
      refine Pv.lit rfl ?_
      exact Pv.ret rfl (by rw [hQ]; exact ⟨by unfold c_without; rw [aGS_t hg hs, ndr_f ((ndr_in (a := 1) (b := 250) (by omega) (by omega)).symm.trans c2)], FX.rf⟩)
    · skip
      replace c2 := of_decide_eq_false c2
      replace c2 := b2n.mp c2
      obtain ⟨n, hn, hna, hnb, rfl⟩ := ndr_t ((ndr_in (a := 1) (b := 250) (by omega) (by omega)).symm.trans c2)
      refine Pv.iload rfl rfl ?_
      refine Pv.lit rfl ?_
      refine Pv.callI (as := [.int w, .int 60]) (rest := []) (z := b2i (decide (1 ≤ w) && decide (w ≤ 60))) rfl rfl rfl ((o_isWithin w 60)) ?_
      refine Pv.if0 rfl (fun c3 => ?_) (fun c3 => ?_)
      · skip
        replace c3 : decide (b2i (decide (1 ≤ w) && decide (w ≤ 60)) = 0) = false := by simpa using c3
        replace c3 := of_decide_eq_false c3
        replace c3 := b2n.mp c3
        obtain ⟨d, hd, hda, hdb, rfl⟩ := ndr_t ((ndr_in (a := 1) (b := 60) (by omega) (by omega)).symm.trans c3)
        refine Pv.aload rfl rfl ?_
        refine Pv.iload rfl rfl ?_
        refine Pv.iload rfl rfl ?_
        refine Pv.callV (as := [.ref 0, .int (Int32.ofNat g), .int (Int32.ofNat d)]) (rest := []) rfl rfl rfl (o_foreseeRoom (g := g) (d := d) hG ht hT hS j0 hgl (by omega) (by omega)) ?_
        rintro _ G4 ⟨rfl, x5, hr6⟩
        have hx7 := hT.fx (P := fun q => (7 ≤ q ∧ q ≤ 9) ∨ (20 ≤ q ∧ q ≤ 35) ∨ q = 40 ∨ q = 43) x5 (fun q h1 h2 (c : (7 ≤ q ∧ q ≤ 9) ∨ (20 ≤ q ∧ q ≤ 35) ∨ q = 40 ∨ q = 43) => by omega)
        have hx8 := hS.fx (P := fun q => (7 ≤ q ∧ q ≤ 9) ∨ (20 ≤ q ∧ q ≤ 35) ∨ q = 40 ∨ q = 43) x5 (fun q h1 h2 (c : (7 ≤ q ∧ q ≤ 9) ∨ (20 ≤ q ∧ q ≤ 35) ∨ q = 40 ∨ q = 43) => by omega)
        have hx9 := hG.fx (P := fun q => (7 ≤ q ∧ q ≤ 9) ∨ (20 ≤ q ∧ q ≤ 35) ∨ q = 40 ∨ q = 43) x5
        have hx10 : G4.2.1 0 13 = .ref t := by rw [x5.2.2.1]; exact ht
        have hwd : w_dn S d ≤ 60 := by unfold w_dn; split <;> omega
        refine (show Pv _ _ 38 [some (.ref 0), some (.int (Int32.ofNat g)), some (.int (Int32.ofNat s)), some (.int (Int32.ofNat n)), some (.int (Int32.ofNat d)), none, none, none] [.int (Int32.ofNat (w_dn S d))] G4 Q from ?_)
        refine Pv.istore (lo' := [some (.ref 0), some (.int (Int32.ofNat g)), some (.int (Int32.ofNat s)), some (.int (Int32.ofNat n)), some (.int (Int32.ofNat d)), some (.int (Int32.ofNat (w_dn S d))), none, none]) rfl rfl ?_
        refine Pv.aload rfl rfl ?_
        refine Pv.iload rfl rfl ?_
        refine Pv.iload rfl rfl ?_
        refine Pv.callVI (as := [.ref 0, .int (Int32.ofNat s), .int (Int32.ofNat (w_dn S d))]) (rest := []) (z := w_rt T S g s (w_dn S d)) rfl rfl rfl (o_roomTowards (g := g) (s := s) (n := w_dn S d) hx9 hx10 hx7 hx8 hr6 hgl hsl hwd) ?_
        refine Pv.iload rfl rfl ?_
        refine Pv.icmp rfl (fun c11 => ?_) (fun c11 => ?_)
        · skip
          replace c11 := of_decide_eq_true c11
          refine Pv.aload rfl rfl ?_
          refine Pv.getR (v := .ref 12) rfl rfl (GW.at (a := 0) (k := 4) (b := 12) hx9 (by decide)) ?_
          refine Pv.getR (v := .ref 13) rfl rfl (hx8.o 0 (by decide)) ?_
          refine Pv.iload rfl rfl ?_
          refine Pv.iload rfl rfl ?_
          refine Pv.callI (as := [.int (Int32.ofNat g), .int (Int32.ofNat s)]) (rest := [.ref 13]) (z := Int32.ofNat (2 * g + s)) rfl rfl rfl (f_slotOf (g := g) (s := s)) ?_
          refine Pv.ald (z := h_s S (2 * g + s)) rfl (by rw [i_toNat (by omega)]; exact hx8.s _ (by omega)) ?_
          obtain ⟨st, hst, est, stb⟩ := nat_of (hI.sb (2 * g + s) (by omega)).1
          have stc : st ≤ 999 := by have := (hI.sb (2 * g + s) (by omega)).2; omega
          rw [est]
          refine Pv.istore (lo' := [some (.ref 0), some (.int (Int32.ofNat g)), some (.int (Int32.ofNat s)), some (.int (Int32.ofNat n)), some (.int (Int32.ofNat d)), some (.int (Int32.ofNat (w_dn S d))), some (.int (Int32.ofNat st)), none]) rfl rfl ?_
          refine Pv.lit rfl ?_
          refine Pv.istore (lo' := [some (.ref 0), some (.int (Int32.ofNat g)), some (.int (Int32.ofNat s)), some (.int (Int32.ofNat n)), some (.int (Int32.ofNat d)), some (.int (Int32.ofNat (w_dn S d))), some (.int (Int32.ofNat st)), some (.int 0)]) rfl rfl ?_
          refine Pv.lp (ι := Nat) (lof := fun v => [some (.ref 0), some (.int (Int32.ofNat g)), some (.int (Int32.ofNat s)), some (.int (Int32.ofNat n)), some (.int (Int32.ofNat d)), some (.int (Int32.ofNat (w_dn S d))), some (.int (Int32.ofNat st)), some (.int (Int32.ofNat v))]) (Ff := fun v => G4) (P := fun v => v ≤ st + 1 ∧ m_fst (pWc T S g s n d) v = none) ?_ 0 (⟨Nat.zero_le _, rfl⟩)
          rintro N12 hN13 v hi14 ih15
          refine (show Pv _ _ 71 [some (.ref 0), some (.int (Int32.ofNat g)), some (.int (Int32.ofNat s)), some (.int (Int32.ofNat n)), some (.int (Int32.ofNat d)), some (.int (Int32.ofNat (w_dn S d))), some (.int (Int32.ofNat st)), some (.int (Int32.ofNat v))] [] G4 Q from ?_)
          obtain ⟨hv, hb⟩ := hi14
          refine Pv.iloadS rfl rfl ?_
          refine Pv.iload rfl rfl ?_
          refine Pv.icmp rfl (fun c16 => ?_) (fun c16 => ?_)
          · skip
            replace c16 := (i_lt (a := st) (b := v) (by omega) (by omega)).mp (of_decide_eq_true c16)
            refine Pv.lit rfl ?_
            exact Pv.ret rfl (by rw [hQ]; exact ⟨by unfold c_without; rw [aGS_t hg hs, hn]; dsimp only; rw [hd]; dsimp only; rw [if_neg (Int32.not_lt.mpr c11), hst, show st + 1 = v by omega, hb]; rfl, x5⟩)
          · skip
            replace c16 := mt (i_lt (a := st) (b := v) (by omega) (by omega)).mpr (of_decide_eq_false c16)
            refine Pv.aload rfl rfl ?_
            refine Pv.iload rfl rfl ?_
            refine Pv.iload rfl rfl ?_
            refine Pv.iload rfl rfl ?_
            refine Pv.iload rfl rfl ?_
            refine Pv.callVI (as := [.ref 0, .int (Int32.ofNat g), .int (Int32.ofNat s), .int (Int32.ofNat v), .int (Int32.ofNat (w_dn S d))]) (rest := []) (z := (w_s T S g s v (w_dn S d)).2.2) rfl rfl rfl (o_wouldCome (g := g) (s := s) (n := w_dn S d) (w := v) hx9 hx10 hx7 hx8 hr6 hgl hsl hwd) ?_
            refine Pv.iload rfl rfl ?_
            refine Pv.icmp rfl (fun c17 => ?_) (fun c17 => ?_)
            · skip
              replace c17 := of_decide_eq_true c17
              refine Pv.iinc (y := Int32.ofNat (v + 1)) (lo' := [some (.ref 0), some (.int (Int32.ofNat g)), some (.int (Int32.ofNat s)), some (.int (Int32.ofNat n)), some (.int (Int32.ofNat d)), some (.int (Int32.ofNat (w_dn S d))), some (.int (Int32.ofNat st)), some (.int (Int32.ofNat (v + 1)))]) rfl rfl (i_add v 1) rfl ?_
              refine Pv.goto rfl ?_
              exact ih15 (v + 1) (⟨by omega, m_fst_n hb (by unfold pWc; rw [decide_eq_true c17]; rfl)⟩)
            · skip
              replace c17 := of_decide_eq_false c17
              refine Pv.iload rfl rfl ?_
              exact Pv.ret rfl (by rw [hQ]; exact ⟨by unfold c_without; rw [aGS_t hg hs, hn]; dsimp only; rw [hd]; dsimp only; rw [if_neg (Int32.not_lt.mpr c11), hst, m_fst_e hb (by unfold pWc; rw [decide_eq_false c17]; rfl) (by omega)]; rfl, x5⟩)
        · skip
          replace c11 := of_decide_eq_false c11
          refine Pv.lit rfl ?_
          exact Pv.ret rfl (by rw [hQ]; exact ⟨by unfold c_without; rw [aGS_t hg hs, hn]; dsimp only; rw [hd]; dsimp only; rw [if_pos (Int32.not_le.mp c11)], x5⟩)
      · skip
        replace c3 : decide (b2i (decide (1 ≤ w) && decide (w ≤ 60)) = 0) = true := by simpa using c3
        replace c3 := of_decide_eq_true c3
        replace c3 := b2z.mp c3
        refine Pv.lit rfl ?_
        exact Pv.ret rfl (by rw [hQ]; exact ⟨by unfold c_without; rw [aGS_t hg hs, hn]; dsimp only; rw [ndr_f ((ndr_in (a := 1) (b := 60) (by omega) (by omega)).symm.trans c3)], FX.rf⟩)
set_option maxRecDepth 100000 in
set_option maxHeartbeats 4000000 in
theorem q_without {F : FW} {T : St} {S : Sh} (hT : XT F T) (hS : XS F (t_m T) S) (hG : GW F) (hTB : TBB T) (hI : INV T S) (x y z w : Int32) : Pm Z_X11_without [.ref 69, .int x, .int y, .int z, .int w] F (fun r F' => r = some (.int (a_without T S x y z w)) ∧ RDR F F') := by
  refine Pm.of fun N => ?_
  obtain ⟨Q, hQ⟩ : ∃ Q : Option Value → FW → Prop, Q = (fun r F' => r = some (.int (a_without T S x y z w)) ∧ RDR F F') := ⟨_, rfl⟩
  rw [← hQ]
  have b3 := hT.mb
  have b4 := hT.nb
  have b5 := hT.gb
  have b6 := m_from_lt S
  have b7 := hS.db
  have hSB := hI.sb
  refine (show Pv (ab_T (L_X11_without Z_X11_isPlace Z_X11_isIn Z_X11_tries Z_X11_cell Z_X11_goesOn Z_X11_back)) N 0 [some (.ref 69), some (.int x), some (.int y), some (.int z), some (.int w), none, none, none, none, none] [] F Q from ?_)
  refine Pv.aload rfl rfl ?_
  refine Pv.lit rfl ?_
  refine Pv.putI rfl rfl ?_
  refine Pv.aload rfl rfl ?_
  refine Pv.iload rfl rfl ?_
  refine Pv.iload rfl rfl ?_
  refine Pv.callVI (as := [.ref 69, .int x, .int y]) (rest := []) (z := b2i ((nd (t_g T) x).isSome && (nd 2 y).isSome)) rfl rfl rfl (q_isPlace (hT.fx (P := fun q => q = 69) (((FX.rf (P := fun q => q = 69))).fp rfl) (by decide)) (hG.fx (P := fun _ => True) (((FX.rf (P := fun _ => True))).fp trivial)) x y) ?_
  refine Pv.if0 rfl (fun c1 => ?_) (fun c1 => ?_)
  · skip
    replace c1 := of_decide_eq_true c1
    replace c1 := b2z.mp c1
    refine Pv.lit rfl ?_
    exact Pv.ret rfl (by rw [hQ]; exact ⟨by unfold a_without; rw [aGS_f c1], (RDR.rf).fp (Or.inl rfl)⟩)
  · skip
    replace c1 := of_decide_eq_false c1
    replace c1 := b2n.mp c1
    obtain ⟨g, s, hg, hs, hgl, hsl, rfl, rfl⟩ := gs_t c1
    refine Pv.iload rfl rfl ?_
    refine Pv.lit rfl ?_
    refine Pv.lit rfl ?_
    refine Pv.callI (as := [.int z, .int 1, .int 250]) (rest := []) (z := b2i (decide (1 ≤ z) && decide (z ≤ 250))) rfl rfl rfl (q_isIn z 1 250) ?_
    refine Pv.if0 rfl (fun c2 => ?_) (fun c2 => ?_)
    · skip
      replace c2 := of_decide_eq_true c2
      replace c2 := b2z.mp c2
      refine Pv.lit rfl ?_
      exact Pv.ret rfl (by rw [hQ]; exact ⟨by unfold a_without; rw [aGS_t hg hs, ndr_f ((ndr_in (a := 1) (b := 250) (by omega) (by omega)).symm.trans c2)], (RDR.rf).fp (Or.inl rfl)⟩)
    · skip
      replace c2 := of_decide_eq_false c2
      replace c2 := b2n.mp c2
      obtain ⟨n, hn, hna, hnb, rfl⟩ := ndr_t ((ndr_in (a := 1) (b := 250) (by omega) (by omega)).symm.trans c2)
      refine Pv.iload rfl rfl ?_
      refine Pv.lit rfl ?_
      refine Pv.lit rfl ?_
      refine Pv.callI (as := [.int w, .int 1, .int 60]) (rest := []) (z := b2i (decide (1 ≤ w) && decide (w ≤ 60))) rfl rfl rfl (q_isIn w 1 60) ?_
      refine Pv.if0 rfl (fun c3 => ?_) (fun c3 => ?_)
      · skip
        replace c3 : decide (b2i (decide (1 ≤ w) && decide (w ≤ 60)) = 0) = false := by simpa using c3
        replace c3 := of_decide_eq_false c3
        replace c3 := b2n.mp c3
        obtain ⟨d, hd, hda, hdb, rfl⟩ := ndr_t ((ndr_in (a := 1) (b := 60) (by omega) (by omega)).symm.trans c3)
        refine Pv.aload rfl rfl ?_
        refine Pv.callV (as := [.ref 69]) (rest := []) rfl rfl rfl (g_tries (hG.fx (P := fun _ => True) (((FX.rf (P := fun _ => True))).fp trivial))) ?_
        rintro _ G4 ⟨rfl, x5, y6⟩
        have rt7 := RT.of ((RDR.rf).fp (Or.inl rfl)) x5 y6
        have hs8 := RT.ofS ((RDR.rf).fp (Or.inl rfl)) x5 b3 hS
        have hr0 := RDR.t78 ((RDR.rf).fp (Or.inl rfl)) x5
        have hx9 := RT.T rt7 hT
        have hx10 := RT.G rt7 hG
        refine (show Pv _ _ 42 [some (.ref 69), some (.int (Int32.ofNat g)), some (.int (Int32.ofNat s)), some (.int (Int32.ofNat n)), some (.int (Int32.ofNat d)), none, none, none, none, none] [] G4 Q from ?_)
        refine Pv.iload rfl rfl ?_
        refine Pv.iload rfl rfl ?_
        refine Pv.callI (as := [.int (Int32.ofNat g), .int (Int32.ofNat s)]) (rest := []) (z := Int32.ofNat (2 * g + s)) rfl rfl rfl (g_cell (g := g) (s := s)) ?_
        refine Pv.istore (lo' := [some (.ref 69), some (.int (Int32.ofNat g)), some (.int (Int32.ofNat s)), some (.int (Int32.ofNat n)), some (.int (Int32.ofNat d)), some (.int (Int32.ofNat (2 * g + s))), none, none, none, none]) rfl rfl ?_
        refine Pv.aload rfl rfl ?_
        refine Pv.getR (v := .ref 71) rfl rfl (GW.at (a := 69) (k := 6) (b := 71) hx10 (by decide)) ?_
        refine Pv.lit rfl ?_
        refine Pv.iload rfl rfl ?_
        refine Pv.bin (z := Int32.ofNat (160 + (2 * g + s))) rfl (i_add 160 (2 * g + s)) ?_
        refine Pv.ald (z := h_c S (2 * g + s)) rfl (by rw [i_toNat (by omega)]; exact hs8.c _ (by omega)) ?_
        refine Pv.istore (lo' := [some (.ref 69), some (.int (Int32.ofNat g)), some (.int (Int32.ofNat s)), some (.int (Int32.ofNat n)), some (.int (Int32.ofNat d)), some (.int (Int32.ofNat (2 * g + s))), some (.int (h_c S (2 * g + s))), none, none, none]) rfl rfl ?_
        refine Pv.aload rfl rfl ?_
        refine Pv.getR (v := .ref 71) rfl rfl (GW.at (a := 69) (k := 6) (b := 71) hx10 (by decide)) ?_
        refine Pv.lit rfl ?_
        refine Pv.iload rfl rfl ?_
        refine Pv.bin (z := Int32.ofNat (124 + (2 * g + s))) rfl (i_add 124 (2 * g + s)) ?_
        refine Pv.ald (z := h_s S (2 * g + s)) rfl (by rw [i_toNat (by omega)]; exact hs8.s _ (by omega)) ?_
        obtain ⟨st, hst, est, stb⟩ := nat_of (hI.sb (2 * g + s) (by omega)).1
        have stc : st ≤ 999 := by have := (hI.sb (2 * g + s) (by omega)).2; omega
        have hst2 : (h_s S (2 * g + s)).toInt = st := by rw [est, i_toInt stb]
        rw [est]
        refine Pv.istore (lo' := [some (.ref 69), some (.int (Int32.ofNat g)), some (.int (Int32.ofNat s)), some (.int (Int32.ofNat n)), some (.int (Int32.ofNat d)), some (.int (Int32.ofNat (2 * g + s))), some (.int (h_c S (2 * g + s))), some (.int (Int32.ofNat st)), none, none]) rfl rfl ?_
        refine Pv.lit rfl ?_
        refine Pv.istore (lo' := [some (.ref 69), some (.int (Int32.ofNat g)), some (.int (Int32.ofNat s)), some (.int (Int32.ofNat n)), some (.int (Int32.ofNat d)), some (.int (Int32.ofNat (2 * g + s))), some (.int (h_c S (2 * g + s))), some (.int (Int32.ofNat st)), some (.int (-1)), none]) rfl rfl ?_
        refine Pv.lit rfl ?_
        refine Pv.istore (lo' := [some (.ref 69), some (.int (Int32.ofNat g)), some (.int (Int32.ofNat s)), some (.int (Int32.ofNat n)), some (.int (Int32.ofNat d)), some (.int (Int32.ofNat (2 * g + s))), some (.int (h_c S (2 * g + s))), some (.int (Int32.ofNat st)), some (.int (-1)), some (.int 0)]) rfl rfl ?_
        refine Pv.lp (ι := Nat × Int32 × FW) (lof := fun ⟨v, w, G⟩ => [some (.ref 69), some (.int (Int32.ofNat g)), some (.int (Int32.ofNat s)), some (.int (Int32.ofNat n)), some (.int (Int32.ofNat d)), some (.int (Int32.ofNat (2 * g + s))), some (.int (h_c S (2 * g + s))), some (.int (Int32.ofNat st)), some (.int w), some (.int (Int32.ofNat v))]) (Ff := fun ⟨v, w, G⟩ => G) (P := fun ⟨v, w, G⟩ => (v ≤ st + 1) ∧ (RT F G) ∧ (XS G (t_m T) S) ∧ (w = oN (m_fst (pWo T S g s n d) v)) ∧ (RDR F G)) ?_ (0, (-1), G4) (⟨Nat.zero_le _, rt7, hs8, rfl, hr0⟩)
        rintro N11 hN12 ⟨v, w, G⟩ hi13 ih14
        refine (show Pv _ _ 80 [some (.ref 69), some (.int (Int32.ofNat g)), some (.int (Int32.ofNat s)), some (.int (Int32.ofNat n)), some (.int (Int32.ofNat d)), some (.int (Int32.ofNat (2 * g + s))), some (.int (h_c S (2 * g + s))), some (.int (Int32.ofNat st)), some (.int w), some (.int (Int32.ofNat v))] [] G Q from ?_)
        obtain ⟨hv, rt, hxs, hw, hr⟩ := hi13
        have hx15 := RT.T rt hT
        have hx16 := RT.G rt hG
        refine Pv.iloadS rfl rfl ?_
        refine Pv.iload rfl rfl ?_
        refine Pv.icmp rfl (fun c17 => ?_) (fun c17 => ?_)
        · skip
          replace c17 := (i_lt (a := st) (b := v) (by omega) (by omega)).mp (of_decide_eq_true c17)
          refine Pv.iload rfl rfl ?_
          exact Pv.ret rfl (by rw [hQ]; exact ⟨by unfold a_without; rw [aGS_t hg hs, hn]; dsimp only; rw [hd]; dsimp only; rw [hst, show st + 1 = v by omega, hw], hr⟩)
        · skip
          replace c17 := mt (i_lt (a := st) (b := v) (by omega) (by omega)).mpr (of_decide_eq_false c17)
          refine Pv.iload rfl rfl ?_
          refine Pv.if0 rfl (fun c18 => ?_) (fun c18 => ?_)
          · skip
            replace c18 := of_decide_eq_true c18
            refine Pv.iload rfl rfl ?_
            exact Pv.ret rfl (by rw [hQ]; exact ⟨by unfold a_without; rw [aGS_t hg hs, hn]; dsimp only; rw [hd]; dsimp only; rw [hst, oN_s (k := v) (n := st + 1) (by omega) (by rw [← hw]; exact Int32.not_lt.mpr c18), hw], hr⟩)
          · skip
            replace c18 := of_decide_eq_false c18
            have hb := oN_n (P := pWo T S g s n d) (v := v) (by omega) (by rw [← hw]; exact Int32.not_le.mp c18)
            refine Pv.aload rfl rfl ?_
            refine Pv.getR (v := .ref 71) rfl rfl (GW.at (a := 69) (k := 6) (b := 71) hx16 (by decide)) ?_
            refine Pv.lit rfl ?_
            refine Pv.iload rfl rfl ?_
            refine Pv.bin (z := Int32.ofNat (124 + (2 * g + s))) rfl (i_add 124 (2 * g + s)) ?_
            refine Pv.dup2 rfl ?_
            refine Pv.ald (z := h_s S (2 * g + s)) rfl (by rw [i_toNat (by omega)]; exact hxs.s _ (by omega)) ?_
            refine Pv.iload rfl rfl ?_
            refine Pv.bin (z := (h_s S (2 * g + s)) - (Int32.ofNat v)) rfl (rfl) ?_
            refine Pv.astk (k := 124 + (2 * g + s)) (z := (h_s S (2 * g + s)) - (Int32.ofNat v)) rfl (i_toNat (by omega)) (rfl) ?_
            obtain ⟨K, hK⟩ : ∃ K, K = (fp G 71 (124 + (2 * g + s)) ((h_s S (2 * g + s)) - (Int32.ofNat v))) := ⟨_, rfl⟩
            rw [← hK]
            have rtK : RT F K := by rw [hK]; exact (RT.st rt (by omega) (by omega))
            have hsK : XS K (t_m T) (m_ws S (2 * g + s) v) := by rw [hK]; exact XS.one hxs b3 (by omega)
            have hx19 := RT.T rtK hT
            have hx20 := RT.G rtK hG
            refine Pv.aload rfl rfl ?_
            refine Pv.iload rfl rfl ?_
            refine Pv.callV (as := [.ref 69, .int (Int32.ofNat d)]) (rest := []) rfl rfl rfl (g_goesOn (n := d) hx19 hsK hx20 hTB (INV.sb (INV_ws hI (by omega) (by omega))) (by omega)) ?_
            rintro _ G21 ⟨rfl, x22, hs23⟩
            have rt24 := RT.rx rtK x22
            have hx25 := RT.T rt24 hT
            have hx26 := RT.G rt24 hG
            have bD27 := XS.db hs23
            refine (show Pv _ _ 113 [some (.ref 69), some (.int (Int32.ofNat g)), some (.int (Int32.ofNat s)), some (.int (Int32.ofNat n)), some (.int (Int32.ofNat d)), some (.int (Int32.ofNat (2 * g + s))), some (.int (h_c S (2 * g + s))), some (.int (Int32.ofNat st)), some (.int w), some (.int (Int32.ofNat v))] [.int (Int32.ofNat (h_d (m_days T (m_ws S (2 * g + s) v) d) - h_d (m_ws S (2 * g + s) v)))] G21 Q from ?_)
            refine Pv.pop rfl ?_
            refine Pv.aload rfl rfl ?_
            refine Pv.getR (v := .ref 71) rfl rfl (GW.at (a := 69) (k := 6) (b := 71) hx26 (by decide)) ?_
            refine Pv.lit rfl ?_
            refine Pv.iload rfl rfl ?_
            refine Pv.bin (z := Int32.ofNat (160 + (2 * g + s))) rfl (i_add 160 (2 * g + s)) ?_
            refine Pv.ald (z := h_c (m_days T (m_ws S (2 * g + s) v) d) (2 * g + s)) rfl (by rw [i_toNat (by omega)]; exact hs23.c _ (by omega)) ?_
            refine Pv.iload rfl rfl ?_
            refine Pv.bin (z := (h_c (m_days T (m_ws S (2 * g + s) v) d) (2 * g + s)) - (h_c S (2 * g + s))) rfl (rfl) ?_
            refine Pv.iload rfl rfl ?_
            refine Pv.icmp rfl (fun c28 => ?_) (fun c28 => ?_)
            · skip
              replace c28 := of_decide_eq_true c28
              refine Pv.aload rfl rfl ?_
              refine Pv.callV (as := [.ref 69]) (rest := []) rfl rfl rfl (g_back hx26) ?_
              rintro _ G29 ⟨rfl, x30, y31, z32⟩
              have rd33 := RT.bk rt24 x30 y31 z32
              have rt34 := RT.bkT rt24 x30 y31 z32
              refine (show Pv _ _ 140 [some (.ref 69), some (.int (Int32.ofNat g)), some (.int (Int32.ofNat s)), some (.int (Int32.ofNat n)), some (.int (Int32.ofNat d)), some (.int (Int32.ofNat (2 * g + s))), some (.int (h_c S (2 * g + s))), some (.int (Int32.ofNat st)), some (.int w), some (.int (Int32.ofNat v))] [] G29 Q from ?_)
              refine Pv.iinc (y := Int32.ofNat (v + 1)) (lo' := [some (.ref 69), some (.int (Int32.ofNat g)), some (.int (Int32.ofNat s)), some (.int (Int32.ofNat n)), some (.int (Int32.ofNat d)), some (.int (Int32.ofNat (2 * g + s))), some (.int (h_c S (2 * g + s))), some (.int (Int32.ofNat st)), some (.int w), some (.int (Int32.ofNat (v + 1)))]) rfl rfl (i_add v 1) rfl ?_
              refine Pv.goto rfl ?_
              exact ih14 (v + 1, w, G29) (⟨by omega, rt34, (RDR.S rd33 b3 hS), by rw [hw, hb, m_fst_n hb (by unfold pWo; rw [decide_eq_true c28]; rfl)], rd33⟩)
            · skip
              replace c28 := of_decide_eq_false c28
              refine Pv.iload rfl rfl ?_
              refine Pv.istore (lo' := [some (.ref 69), some (.int (Int32.ofNat g)), some (.int (Int32.ofNat s)), some (.int (Int32.ofNat n)), some (.int (Int32.ofNat d)), some (.int (Int32.ofNat (2 * g + s))), some (.int (h_c S (2 * g + s))), some (.int (Int32.ofNat st)), some (.int (Int32.ofNat v)), some (.int (Int32.ofNat v))]) rfl rfl ?_
              refine Pv.aload rfl rfl ?_
              refine Pv.callV (as := [.ref 69]) (rest := []) rfl rfl rfl (g_back hx26) ?_
              rintro _ G35 ⟨rfl, x36, y37, z38⟩
              have rd39 := RT.bk rt24 x36 y37 z38
              have rt40 := RT.bkT rt24 x36 y37 z38
              refine (show Pv _ _ 140 [some (.ref 69), some (.int (Int32.ofNat g)), some (.int (Int32.ofNat s)), some (.int (Int32.ofNat n)), some (.int (Int32.ofNat d)), some (.int (Int32.ofNat (2 * g + s))), some (.int (h_c S (2 * g + s))), some (.int (Int32.ofNat st)), some (.int (Int32.ofNat v)), some (.int (Int32.ofNat v))] [] G35 Q from ?_)
              refine Pv.iinc (y := Int32.ofNat (v + 1)) (lo' := [some (.ref 69), some (.int (Int32.ofNat g)), some (.int (Int32.ofNat s)), some (.int (Int32.ofNat n)), some (.int (Int32.ofNat d)), some (.int (Int32.ofNat (2 * g + s))), some (.int (h_c S (2 * g + s))), some (.int (Int32.ofNat st)), some (.int (Int32.ofNat v)), some (.int (Int32.ofNat (v + 1)))]) rfl rfl (i_add v 1) rfl ?_
              refine Pv.goto rfl ?_
              exact ih14 (v + 1, Int32.ofNat v, G35) (⟨by omega, rt40, (RDR.S rd39 b3 hS), by rw [m_fst_e hb (by unfold pWo; rw [decide_eq_false c28]; rfl) (Nat.lt_succ_self v)]; rfl, rd39⟩)
      · skip
        replace c3 : decide (b2i (decide (1 ≤ w) && decide (w ≤ 60)) = 0) = true := by simpa using c3
        replace c3 := of_decide_eq_true c3
        replace c3 := b2z.mp c3
        refine Pv.lit rfl ?_
        exact Pv.ret rfl (by rw [hQ]; exact ⟨by unfold a_without; rw [aGS_t hg hs, hn]; dsimp only; rw [ndr_f ((ndr_in (a := 1) (b := 60) (by omega) (by omega)).symm.trans c3)], (RDR.rf).fp (Or.inl rfl)⟩)
end
-- 63.b71.long.lean.txt
section
/-! ===== longs ===== -/
theorem fl_putl {hp : ab_H} {a c k : Nat} {fs : List Value} {x y : Int64} (e : hp.2 a = .inr (c, fs)) (hy : fs[k]? = some (.long y)) : fl (ab_up hp a (.inr (c, fs.set k (.long x)))) = fpl (fl hp) a k x := by
  have hk : k < fs.length := (List.getElem?_eq_some_iff.mp hy).1
  refine Prod.ext (funext fun p => funext fun j => ?_) (Prod.ext (funext fun p => funext fun j => ?_) (Prod.ext (funext fun p => funext fun j => ?_) (Prod.ext rfl (funext fun p => ?_))))
  · show gi _ p j = gi hp p j
    by_cases h1 : p = a
    · subst h1
      unfold gi
      rw [ab_up_eq, e]
      dsimp only
      by_cases h2 : j = k
      · subst h2
        rw [List.getElem?_set_self hk, hy]
      · rw [List.getElem?_set_ne (Ne.symm h2)]
    · unfold gi
      rw [ab_up_ne h1]
  · show gr _ p j = gr hp p j
    by_cases h1 : p = a
    · subst h1
      unfold gr
      rw [ab_up_eq, e]
      dsimp only
      by_cases h2 : j = k
      · subst h2
        rw [List.getElem?_set_self hk, hy]
      · rw [List.getElem?_set_ne (Ne.symm h2)]
    · unfold gr
      rw [ab_up_ne h1]
  · show gl _ p j = if p = a ∧ j = k then x else gl hp p j
    by_cases h1 : p = a
    · subst h1
      by_cases h2 : j = k
      · subst h2
        rw [if_pos ⟨rfl, rfl⟩]
        unfold gl
        rw [ab_up_eq]
        dsimp only
        rw [List.getElem?_set_self hk]
      · rw [if_neg (fun q => h2 q.2)]
        unfold gl
        rw [ab_up_eq, e]
        dsimp only
        rw [List.getElem?_set_ne (Ne.symm h2)]
    · rw [if_neg (fun q => h1 q.1)]
      unfold gl
      rw [ab_up_ne h1]
  · show gn _ p = gn hp p
    unfold gn
    by_cases h1 : p = a
    · subst h1
      rw [ab_up_eq, e]
    · rw [ab_up_ne h1]
section PVL
variable {T : Nat → Option ab_A} {N i j : Nat} {lo : List (Option Value)} {st : List Value} {F : FW} {Q : Option Value → FW → Prop}
theorem Pv.putL {ci k kd a : Nat} {x : Int64} (hT : T i = some (ab_nx j (ab_putf ci k kd))) (hk : fk ci k = 2) (h : Pv T N j lo st (fpl F a k x) Q) : Pv T N i lo (.long x :: .ref a :: st) F Q :=
  (Pv.nx hT fun u hp s hw hF e => by
    obtain ⟨fs, ha, -, hc, hl, rfl⟩ := v_putf e
    refine ⟨wt_up hw ha hc (Or.inr (by rw [hk]; rfl)), ?_⟩
    show Pv T N j lo st (fl (ab_up hp a (.inr (ci, fs.set k (.long x))))) Q
    have hv : fs[k]? = some fs[k] := List.getElem?_eq_getElem hl
    have hy := (hw a ci fs k _ ha hc hv).resolve_left (by rw [hk]; decide)
    rw [hk] at hy
    cases e2 : fs[k] with
    | long y =>
      rw [e2] at hv
      rw [fl_putl hc hv, hF]
      exact h
    | _ =>
      rw [e2] at hy
      cases hy).w
theorem Pv.lbin {g : Int64 → Int64 → Int64} {x y z : Int64} (hT : T i = some (ab_nx j (ab_lbin g))) (hz : g x y = z) (h : Pv T N j lo (.long z :: st) F Q) : Pv T N i lo (.long y :: .long x :: st) F Q := (Pv.pu hT (fun _ _ _ e => by
  rw [← hz]
  exact (Option.some.inj e).symm) h).w
theorem Pv.lsh {g : Int64 → Int32 → Int64} {x z : Int64} {y : Int32} (hT : T i = some (ab_nx j (ab_lsh g))) (hz : g x y = z) (h : Pv T N j lo (.long z :: st) F Q) : Pv T N i lo (.int y :: .long x :: st) F Q := (Pv.pu hT (fun _ _ _ e => by
  rw [← hz]
  exact (Option.some.inj e).symm) h).w
theorem Pv.lcmp {x y : Int64} {z : Int32} (hT : T i = some (ab_nx j ab_lcmp)) (hz : lg_cmp x y = z) (h : Pv T N j lo (.int z :: st) F Q) : Pv T N i lo (.long y :: .long x :: st) F Q := (Pv.pu hT (fun _ _ _ e => by
  rw [← hz]
  exact (Option.some.inj e).symm) h).w
theorem Pv.i2l {x : Int32} {z : Int64} (hT : T i = some (ab_nx j ab_i2l)) (hz : x.toInt64 = z) (h : Pv T N j lo (.long z :: st) F Q) : Pv T N i lo (.int x :: st) F Q := (Pv.pu hT (fun _ _ _ e => by
  rw [← hz]
  exact (Option.some.inj e).symm) h).w
theorem Pv.l2i {x : Int64} {z : Int32} (hT : T i = some (ab_nx j ab_l2i)) (hz : x.toInt32 = z) (h : Pv T N j lo (.int z :: st) F Q) : Pv T N i lo (.long x :: st) F Q := (Pv.pu hT (fun _ _ _ e => by
  rw [← hz]
  exact (Option.some.inj e).symm) h).w
theorem Pv.lstore {k : Nat} {x : Int64} {lo' : List (Option Value)} (hT : T i = some (ab_nx j (ab_lstore k))) (hl : (lo.set k (some (.long x))).set (k + 1) none = lo') (h : Pv T N j lo' st F Q) : Pv T N i lo (.long x :: st) F Q := (Pv.pu hT (fun u hp s e => by
  unfold ab_lstore at e
  dsimp only at e
  rw [Bool.cond_eq_ite] at e
  split at e
  · rw [← hl]
    exact (Option.some.inj e).symm
  · cases e) h).w
theorem Pv.lastk {a k : Nat} {x : Int32} {y : Int64} (hT : T i = some (ab_nx j ab_last)) (hx : x.toNatClampNeg = k) (h : Pv T N j lo st (fpl F a k y) Q) : Pv T N i lo (.long y :: .int x :: .ref a :: st) F Q := by
  subst hx
  exact Pv.last hT h
end PVL
theorem fpl_eq {F : FW} {a k : Nat} {x : Int64} : (fpl F a k x).2.2.1 a k = x := if_pos ⟨rfl, rfl⟩
theorem fpl_ne {F : FW} {a k p j : Nat} {x : Int64} (h : p ≠ a ∨ j ≠ k) : (fpl F a k x).2.2.1 p j = F.2.2.1 p j := if_neg (fun c => h.elim (fun h => h c.1) (fun h => h c.2))
theorem fcp_l0 {F : FW} {a b n j : Nat} (h : j < n) : (fcp F a b 0 0 n).2.2.1 b j = F.2.2.1 a j := (if_pos (show b = b ∧ 0 ≤ j ∧ j < 0 + n from ⟨rfl, Nat.zero_le _, by omega⟩)).trans (congrArg (F.2.2.1 a) (by omega))
theorem fcp_lne {F : FW} {a b sp dp n p j : Nat} (h : p ≠ b) : (fcp F a b sp dp n).2.2.1 p j = F.2.2.1 p j := if_neg (fun c => h c.1)
theorem FX.fpl {P : Nat → Prop} {F G : FW} {a k : Nat} {x : Int64} (h : FX P F G) (ha : P a) : FX P F (fpl G a k x) := ⟨h.1, fun q j c => (fpl_ne (Or.inl (fun e : q = a => c (by rw [e]; exact ha)))).trans (h.2.1 q j c), h.2.2⟩
/-- equal longs -/
theorem lcmp_0 {x y : Int64} : lg_cmp x y = 0 ↔ x = y := lg_cmp_eq x y
theorem fpl_i {F : FW} {a k p j : Nat} {x : Int64} : (fpl F a k x).1 p j = F.1 p j := rfl
theorem fp_l {F : FW} {a k p j : Nat} {x : Int32} : (fp F a k x).2.2.1 p j = F.2.2.1 p j := rfl
end
-- 63.b72.img.lean.txt
section
/-! ===== names, sentences, images ===== -/
/-- the names that a Strait at p has; nm as the reference spells them: goods from 0, men from 6 on -/
def NMC (F : FW) (p : Nat) (T : St) (nm : Nat → Int) : Prop := (∀ g, g < t_g T → (F.2.2.1 (p + 1) g).toInt = c32 7 (nm g) ∧ LW 7 (nm g)) ∧ ∀ m, m < t_m T → (F.2.2.1 (p + 2) m).toInt = c32 7 (nm (6 + m)) ∧ LW 7 (nm (6 + m))
/-- a sentence: size, ones, is it said; what, shores or signs, numbers -/
abbrev Se : Type := Int32 × Int32 × Int32 × (Nat → Int32) × (Nat → Int32) × (Nat → Int32)
def SE (F : FW) (p : Nat) (Q : Se) : Prop := O3 F p ∧ F.1 p 3 = Q.1 ∧ F.1 p 4 = Q.2.1 ∧ F.1 p 5 = Q.2.2.1 ∧ AR F (p + 1) 40 Q.2.2.2.1 ∧ AR F (p + 2) 40 Q.2.2.2.2.1 ∧ AR F (p + 3) 40 Q.2.2.2.2.2
section SES
variable {F : FW} {p : Nat} {Q : Se}
theorem SE.o (h : SE F p Q) : O3 F p := h.1
theorem SE.z (h : SE F p Q) : F.1 p 3 = Q.1 := h.2.1
theorem SE.n (h : SE F p Q) : F.1 p 4 = Q.2.1 := h.2.2.1
theorem SE.i (h : SE F p Q) : F.1 p 5 = Q.2.2.1 := h.2.2.2.1
theorem SE.a (h : SE F p Q) : AR F (p + 1) 40 Q.2.2.2.1 := h.2.2.2.2.1
theorem SE.f (h : SE F p Q) : AR F (p + 2) 40 Q.2.2.2.2.1 := h.2.2.2.2.2.1
theorem SE.m (h : SE F p Q) : AR F (p + 3) 40 Q.2.2.2.2.2 := h.2.2.2.2.2.2
end SES
/-- all but places of P is as it was; there may be more places -/
def FRZ (P : Nat → Prop) (F G : FW) : Prop := F.2.2.2.1 ≤ G.2.2.2.1 ∧ ∀ a, a < F.2.2.2.1 → ¬ P a → (∀ k, G.1 a k = F.1 a k) ∧ (∀ k, G.2.1 a k = F.2.1 a k) ∧ ∀ k, G.2.2.1 a k = F.2.2.1 a k
theorem FRZ.rf {P : Nat → Prop} {F : FW} : FRZ P F F := ⟨Nat.le_refl _, fun _ _ _ => ⟨fun _ => rfl, fun _ => rfl, fun _ => rfl⟩⟩
theorem FRZ.tr {P : Nat → Prop} {F G K : FW} (h : FRZ P F G) (x : FRZ P G K) : FRZ P F K := ⟨Nat.le_trans h.1 x.1, fun a ha c => by
  have p := h.2 a ha c
  have q := x.2 a (Nat.lt_of_lt_of_le ha h.1) c
  exact ⟨fun k => (q.1 k).trans (p.1 k), fun k => (q.2.1 k).trans (p.2.1 k), fun k => (q.2.2 k).trans (p.2.2 k)⟩⟩
theorem FRZ.wd {P R : Nat → Prop} {F G : FW} (h : FRZ P F G) (w : ∀ a, a < F.2.2.2.1 → P a → R a) : FRZ R F G := ⟨h.1, fun a ha c => h.2 a ha (fun p => c (w a ha p))⟩
theorem FX.frz {P : Nat → Prop} {F G : FW} (x : FX P F G) : FRZ P F G := ⟨by rw [x.2.2.2]; exact Nat.le_refl _, fun a _ c => ⟨fun k => x.1 a k c, fun k => by rw [x.2.2.1], fun k => x.2.1 a k c⟩⟩
theorem NWF.frz {p n : Nat} {F G : FW} (w : NWF p n F G) : FRZ (fun q => q = p) F G := ⟨by rw [w.1]; omega, fun a ha c => by
  obtain ⟨h1, h2, h3, -⟩ := w.2 a ha c
  exact ⟨h1, h2, h3⟩⟩
theorem KF.frz {P : Nat → Prop} {F G : FW} (h : KF P F G) : FRZ (fun q => P q ∨ q = 10 ∨ q = 11 ∨ SLT F q) F G := ⟨h.1, fun a ha c => by
  have q := h.2.2.1 a ha (fun e => c (Or.inr (Or.inl e))) (fun e => c (Or.inr (Or.inr (Or.inl e)))) (fun e => c (Or.inr (Or.inr (Or.inr e))))
  exact ⟨fun k => q.1 k (fun e => c (Or.inl e)), q.2.1, fun k => q.2.2 k (fun e => c (Or.inl e))⟩⟩
theorem fnw_frz {P : Nat → Prop} {F : FW} {n : Nat} : FRZ P F (fnw F n) := ⟨Nat.le_succ _, fun a ha _ => ⟨fun _ => if_neg (by omega), fun _ => if_neg (by omega), fun _ => if_neg (by omega)⟩⟩
theorem fpr_frz {P : Nat → Prop} {F : FW} {a k : Nat} {v : Value} (h : P a) : FRZ P F (fpr F a k v) := ⟨Nat.le_refl _, fun q _ c => ⟨fun _ => rfl, fun j => fpr_ne (Or.inl (fun e => c (by rw [e]; exact h))), fun _ => rfl⟩⟩
theorem FRZ.fx {P R : Nat → Prop} {F G K : FW} (h : FRZ P F G) (x : FX R G K) (w : ∀ a, a < F.2.2.2.1 → R a → P a) : FRZ P F K := ⟨by rw [x.2.2.2]; exact h.1, fun a ha c => by
  have p := h.2 a ha c
  have n : ¬ R a := fun r => c (w a ha r)
  exact ⟨fun k => (x.1 a k n).trans (p.1 k), fun k => by rw [x.2.2.1]; exact p.2.1 k, fun k => (x.2.1 a k n).trans (p.2.2 k)⟩⟩
theorem wires_41 : ∀ x ∈ wires, x.1 ≠ 41 := by decide
theorem AR.frz {P : Nat → Prop} {F G : FW} {a n : Nat} {f : Nat → Int32} (h : AR F a n f) (x : FRZ P F G) (ha : a < F.2.2.2.1) (c : ¬ P a) : AR G a n f := fun j hj => ((x.2 a ha c).1 j).trans (h j hj)
theorem TR.frz {P : Nat → Prop} {F G : FW} {t : Nat} {T : St} (h : TR F t T) (x : FRZ P F G) (hz : t + 8 ≤ F.2.2.2.1) (c : ∀ a, t ≤ a → a ≤ t + 7 → ¬ P a) : TR G t T := by
  have e := fun a h1 h2 => x.2 a (by omega) (c a h1 h2)
  exact ⟨fun j hj => ((e t (by omega) (by omega)).2.1 j).trans (h.o j hj), h.w, ((e t (by omega) (by omega)).1 _).trans h.l, ((e t (by omega) (by omega)).1 _).trans h.g, ((e t (by omega) (by omega)).1 _).trans h.m, ((e t (by omega) (by omega)).1 _).trans h.n,
    h.a.frz x (by omega) (c _ (by omega) (by omega)), h.r.frz x (by omega) (c _ (by omega) (by omega)), h.d.frz x (by omega) (c _ (by omega) (by omega)), h.dd.frz x (by omega) (c _ (by omega) (by omega)), h.f.frz x (by omega) (c _ (by omega) (by omega))⟩
theorem SHR.frz {P : Nat → Prop} {F G : FW} {p m : Nat} {S : Sh} (h : SHR F p m S) (x : FRZ P F G) (hz : p + 8 ≤ F.2.2.2.1) (c : ∀ a, p ≤ a → a ≤ p + 7 → ¬ P a) : SHR G p m S :=
  h.sm (fun a k h1 h2 => (x.2 a (by omega) (c a h1 h2)).1 k) (fun k => (x.2 p (by omega) (c p (by omega) (by omega))).2.1 k)
theorem NMC.frz {P : Nat → Prop} {F G : FW} {p : Nat} {T : St} {nm : Nat → Int} (h : NMC F p T nm) (x : FRZ P F G) (hz : p + 3 ≤ F.2.2.2.1) (c1 : ¬ P (p + 1)) (c2 : ¬ P (p + 2)) : NMC G p T nm :=
  ⟨fun g hg => by rw [(x.2 (p + 1) (by omega) c1).2.2 g]; exact h.1 g hg, fun m hm => by rw [(x.2 (p + 2) (by omega) c2).2.2 m]; exact h.2 m hm⟩
theorem SE.frz {P : Nat → Prop} {F G : FW} {p : Nat} {Q : Se} (h : SE F p Q) (x : FRZ P F G) (hz : p + 4 ≤ F.2.2.2.1) (c : ∀ a, p ≤ a → a ≤ p + 3 → ¬ P a) : SE G p Q := by
  have e := fun a h1 h2 => x.2 a (by omega) (c a h1 h2)
  exact ⟨fun j hj => ((e p (by omega) (by omega)).2.1 j).trans (h.o j hj), ((e p (by omega) (by omega)).1 _).trans h.z, ((e p (by omega) (by omega)).1 _).trans h.n, ((e p (by omega) (by omega)).1 _).trans h.i, h.a.frz x (by omega) (c _ (by omega) (by omega)), h.f.frz x (by omega) (c _ (by omega) (by omega)), h.m.frz x (by omega) (c _ (by omega) (by omega))⟩
theorem GW.frz {P : Nat → Prop} {F G : FW} (h : GW F) (x : FRZ P F G) (h88 : 88 ≤ F.2.2.2.1) (c : ∀ y ∈ wires, ¬ P y.1) : GW G := fun y my => ((x.2 y.1 (by have := (wires_lt y my).2; omega) (c y my)).2.1 _).trans (h y my)
def O3i (F : FW) (v : Nat) : Prop := F.2.1 v 0 = .ref (v + 1) ∧ F.2.1 v 1 = .ref (v + 9) ∧ F.2.1 v 2 = .ref (v + 17)
/-- what an image holds -/
abbrev Im : Type := St × (Nat → Int) × Sh × Se
def IMV (F : FW) (k v : Nat) (I : Im) : Prop := F.2.1 41 k = .ref v ∧ 88 ≤ v ∧ v + 21 ≤ F.2.2.2.1 ∧ O3i F v ∧ TR F (v + 1) I.1 ∧ NMC F (v + 1) I.1 I.2.1 ∧ SHR F (v + 9) (t_m I.1) I.2.2.1 ∧ SE F (v + 17) I.2.2.2 ∧ ∀ a, v ≤ a → a ≤ v + 20 → ¬ SLT F a
end
-- 63.b72a.lean.txt
section
set_option maxRecDepth 100000 in
set_option maxHeartbeats 4000000 in
theorem f_stCopy {F : FW} {p r : Nat} {T : St} {nm : Nat → Int} (hp : O7 F p) (hT : TR F r T) (hN : NMC F r T nm) (hd : p + 7 < r ∨ r + 7 < p) : Pm Z_X7_copyFrom [.ref p, .ref r] F (fun r' F' => r' = none ∧ FX (fun q => p ≤ q ∧ q ≤ p + 7) F F' ∧ TR F' p T ∧ NMC F' p T nm) := by
  refine Pm.of fun N => ?_
  obtain ⟨Q, hQ⟩ : ∃ Q : Option Value → FW → Prop, Q = (fun r' F' => r' = none ∧ FX (fun q => p ≤ q ∧ q ≤ p + 7) F F' ∧ TR F' p T ∧ NMC F' p T nm) := ⟨_, rfl⟩
  rw [← hQ]
  have b3 := hT.mb
  have b4 := hT.nb
  have b5 := hT.gb
  refine (show Pv (ab_T L_X7_copyFrom) N 0 [some (.ref p), some (.ref r)] [] F Q from ?_)
  refine Pv.aload rfl rfl ?_
  refine Pv.getR (v := .ref (r + 1)) rfl rfl (hT.o 0 (by decide)) ?_
  refine Pv.lit rfl ?_
  refine Pv.aload rfl rfl ?_
  refine Pv.getR (v := .ref (p + 1)) rfl rfl (hp 0 (by decide)) ?_
  refine Pv.lit rfl ?_
  refine Pv.lit rfl ?_
  refine Pv.copy rfl ?_
  refine (show Pv _ _ 15 [some (.ref p), some (.ref r)] [] (fcp F (r + 1) (p + 1) 0 0 6) Q from ?_)
  refine Pv.aload rfl rfl ?_
  refine Pv.getR (v := .ref (r + 2)) rfl rfl (hT.o 1 (by decide)) ?_
  refine Pv.lit rfl ?_
  refine Pv.aload rfl rfl ?_
  refine Pv.getR (v := .ref (p + 2)) rfl rfl (hp 1 (by decide)) ?_
  refine Pv.lit rfl ?_
  refine Pv.lit rfl ?_
  refine Pv.copy rfl ?_
  refine (show Pv _ _ 30 [some (.ref p), some (.ref r)] [] (fcp (fcp F (r + 1) (p + 1) 0 0 6) (r + 2) (p + 2) 0 0 8) Q from ?_)
  refine Pv.aload rfl rfl ?_
  refine Pv.getR (v := .ref (r + 3)) rfl rfl (hT.o 2 (by decide)) ?_
  refine Pv.lit rfl ?_
  refine Pv.aload rfl rfl ?_
  refine Pv.getR (v := .ref (p + 3)) rfl rfl (hp 2 (by decide)) ?_
  refine Pv.lit rfl ?_
  refine Pv.lit rfl ?_
  refine Pv.copy rfl ?_
  refine (show Pv _ _ 45 [some (.ref p), some (.ref r)] [] (fcp (fcp (fcp F (r + 1) (p + 1) 0 0 6) (r + 2) (p + 2) 0 0 8) (r + 3) (p + 3) 0 0 8) Q from ?_)
  refine Pv.aload rfl rfl ?_
  refine Pv.getR (v := .ref (r + 4)) rfl rfl (hT.o 3 (by decide)) ?_
  refine Pv.lit rfl ?_
  refine Pv.aload rfl rfl ?_
  refine Pv.getR (v := .ref (p + 4)) rfl rfl (hp 3 (by decide)) ?_
  refine Pv.lit rfl ?_
  refine Pv.lit rfl ?_
  refine Pv.copy rfl ?_
  refine (show Pv _ _ 60 [some (.ref p), some (.ref r)] [] (fcp (fcp (fcp (fcp F (r + 1) (p + 1) 0 0 6) (r + 2) (p + 2) 0 0 8) (r + 3) (p + 3) 0 0 8) (r + 4) (p + 4) 0 0 48) Q from ?_)
  refine Pv.aload rfl rfl ?_
  refine Pv.getR (v := .ref (r + 5)) rfl rfl (hT.o 4 (by decide)) ?_
  refine Pv.lit rfl ?_
  refine Pv.aload rfl rfl ?_
  refine Pv.getR (v := .ref (p + 5)) rfl rfl (hp 4 (by decide)) ?_
  refine Pv.lit rfl ?_
  refine Pv.lit rfl ?_
  refine Pv.copy rfl ?_
  refine (show Pv _ _ 75 [some (.ref p), some (.ref r)] [] (fcp (fcp (fcp (fcp (fcp F (r + 1) (p + 1) 0 0 6) (r + 2) (p + 2) 0 0 8) (r + 3) (p + 3) 0 0 8) (r + 4) (p + 4) 0 0 48) (r + 5) (p + 5) 0 0 20) Q from ?_)
  refine Pv.aload rfl rfl ?_
  refine Pv.getR (v := .ref (r + 6)) rfl rfl (hT.o 5 (by decide)) ?_
  refine Pv.lit rfl ?_
  refine Pv.aload rfl rfl ?_
  refine Pv.getR (v := .ref (p + 6)) rfl rfl (hp 5 (by decide)) ?_
  refine Pv.lit rfl ?_
  refine Pv.lit rfl ?_
  refine Pv.copy rfl ?_
  refine (show Pv _ _ 90 [some (.ref p), some (.ref r)] [] (fcp (fcp (fcp (fcp (fcp (fcp F (r + 1) (p + 1) 0 0 6) (r + 2) (p + 2) 0 0 8) (r + 3) (p + 3) 0 0 8) (r + 4) (p + 4) 0 0 48) (r + 5) (p + 5) 0 0 20) (r + 6) (p + 6) 0 0 20) Q from ?_)
  refine Pv.aload rfl rfl ?_
  refine Pv.getR (v := .ref (r + 7)) rfl rfl (hT.o 6 (by decide)) ?_
  refine Pv.lit rfl ?_
  refine Pv.aload rfl rfl ?_
  refine Pv.getR (v := .ref (p + 7)) rfl rfl (hp 6 (by decide)) ?_
  refine Pv.lit rfl ?_
  refine Pv.lit rfl ?_
  refine Pv.copy rfl ?_
  refine (show Pv _ _ 105 [some (.ref p), some (.ref r)] [] (fcp (fcp (fcp (fcp (fcp (fcp (fcp F (r + 1) (p + 1) 0 0 6) (r + 2) (p + 2) 0 0 8) (r + 3) (p + 3) 0 0 8) (r + 4) (p + 4) 0 0 48) (r + 5) (p + 5) 0 0 20) (r + 6) (p + 6) 0 0 20) (r + 7) (p + 7) 0 0 20) Q from ?_)
  refine Pv.aload rfl rfl ?_
  refine Pv.aload rfl rfl ?_
  refine Pv.getI (z := t_l T) rfl rfl ((fcp_ne (by omega)).trans ((fcp_ne (by omega)).trans ((fcp_ne (by omega)).trans ((fcp_ne (by omega)).trans ((fcp_ne (by omega)).trans ((fcp_ne (by omega)).trans ((fcp_ne (by omega)).trans (hT.l)))))))) ?_
  refine Pv.putI rfl rfl ?_
  refine Pv.aload rfl rfl ?_
  refine Pv.aload rfl rfl ?_
  refine Pv.getI (z := Int32.ofNat (t_g T)) rfl rfl ((fp_ne (Or.inl (by omega))).trans ((fcp_ne (by omega)).trans ((fcp_ne (by omega)).trans ((fcp_ne (by omega)).trans ((fcp_ne (by omega)).trans ((fcp_ne (by omega)).trans ((fcp_ne (by omega)).trans ((fcp_ne (by omega)).trans (hT.g))))))))) ?_
  refine Pv.putI rfl rfl ?_
  refine Pv.aload rfl rfl ?_
  refine Pv.aload rfl rfl ?_
  refine Pv.getI (z := Int32.ofNat (t_m T)) rfl rfl ((fp_ne (Or.inl (by omega))).trans ((fp_ne (Or.inl (by omega))).trans ((fcp_ne (by omega)).trans ((fcp_ne (by omega)).trans ((fcp_ne (by omega)).trans ((fcp_ne (by omega)).trans ((fcp_ne (by omega)).trans ((fcp_ne (by omega)).trans ((fcp_ne (by omega)).trans (hT.m)))))))))) ?_
  refine Pv.putI rfl rfl ?_
  refine Pv.aload rfl rfl ?_
  refine Pv.aload rfl rfl ?_
  refine Pv.getI (z := Int32.ofNat (t_n T)) rfl rfl ((fp_ne (Or.inl (by omega))).trans ((fp_ne (Or.inl (by omega))).trans ((fp_ne (Or.inl (by omega))).trans ((fcp_ne (by omega)).trans ((fcp_ne (by omega)).trans ((fcp_ne (by omega)).trans ((fcp_ne (by omega)).trans ((fcp_ne (by omega)).trans ((fcp_ne (by omega)).trans ((fcp_ne (by omega)).trans (hT.n))))))))))) ?_
  refine Pv.putI rfl rfl ?_
  exact Pv.vret rfl (by rw [hQ]; exact ⟨rfl, ((((((((((((FX.rf (P := fun q => p ≤ q ∧ q ≤ p + 7))).fcp (show p ≤ (p + 1) ∧ (p + 1) ≤ p + 7 by omega)).fcp (show p ≤ (p + 2) ∧ (p + 2) ≤ p + 7 by omega)).fcp (show p ≤ (p + 3) ∧ (p + 3) ≤ p + 7 by omega)).fcp (show p ≤ (p + 4) ∧ (p + 4) ≤ p + 7 by omega)).fcp (show p ≤ (p + 5) ∧ (p + 5) ≤ p + 7 by omega)).fcp (show p ≤ (p + 6) ∧ (p + 6) ≤ p + 7 by omega)).fcp (show p ≤ (p + 7) ∧ (p + 7) ≤ p + 7 by omega)).fp (show p ≤ p ∧ p ≤ p + 7 by omega)).fp (show p ≤ p ∧ p ≤ p + 7 by omega)).fp (show p ≤ p ∧ p ≤ p + 7 by omega)).fp (show p ≤ p ∧ p ≤ p + 7 by omega), ⟨hp, hT.w, (fp_ne (Or.inr (by decide))).trans ((fp_ne (Or.inr (by decide))).trans ((fp_ne (Or.inr (by decide))).trans (fp_eq))), (fp_ne (Or.inr (by decide))).trans ((fp_ne (Or.inr (by decide))).trans (fp_eq)), (fp_ne (Or.inr (by decide))).trans (fp_eq), fp_eq, (((((((((((hT.a).cn (by omega)).cn (by omega)).cn (by omega)).cp (by omega)).cn (by omega)).cn (by omega)).cn (by omega)).ne (by omega)).ne (by omega)).ne (by omega)).ne (by omega), (((((((((((hT.r).cn (by omega)).cn (by omega)).cn (by omega)).cn (by omega)).cp (by omega)).cn (by omega)).cn (by omega)).ne (by omega)).ne (by omega)).ne (by omega)).ne (by omega), (((((((((((hT.d).cn (by omega)).cn (by omega)).cn (by omega)).cn (by omega)).cn (by omega)).cp (by omega)).cn (by omega)).ne (by omega)).ne (by omega)).ne (by omega)).ne (by omega), (((((((((((hT.dd).cn (by omega)).cn (by omega)).cn (by omega)).cn (by omega)).cn (by omega)).cn (by omega)).cp (by omega)).ne (by omega)).ne (by omega)).ne (by omega)).ne (by omega), (((((((((((hT.f).cn (by omega)).cn (by omega)).cp (by omega)).cn (by omega)).cn (by omega)).cn (by omega)).cn (by omega)).ne (by omega)).ne (by omega)).ne (by omega)).ne (by omega)⟩, fun g hg => by rw [show ((fp (fp (fp (fp (fcp (fcp (fcp (fcp (fcp (fcp (fcp F (r + 1) (p + 1) 0 0 6) (r + 2) (p + 2) 0 0 8) (r + 3) (p + 3) 0 0 8) (r + 4) (p + 4) 0 0 48) (r + 5) (p + 5) 0 0 20) (r + 6) (p + 6) 0 0 20) (r + 7) (p + 7) 0 0 20) p 7 (t_l T)) p 8 (Int32.ofNat (t_g T))) p 9 (Int32.ofNat (t_m T))) p 10 (Int32.ofNat (t_n T)))).2.2.1 (p + 1) g = F.2.2.1 (r + 1) g from (fp_l).trans ((fp_l).trans ((fp_l).trans ((fp_l).trans ((fcp_lne (by omega)).trans ((fcp_lne (by omega)).trans ((fcp_lne (by omega)).trans ((fcp_lne (by omega)).trans ((fcp_lne (by omega)).trans ((fcp_lne (by omega)).trans (fcp_l0 (by omega)))))))))))]; exact hN.1 g hg, fun g hg => by rw [show ((fp (fp (fp (fp (fcp (fcp (fcp (fcp (fcp (fcp (fcp F (r + 1) (p + 1) 0 0 6) (r + 2) (p + 2) 0 0 8) (r + 3) (p + 3) 0 0 8) (r + 4) (p + 4) 0 0 48) (r + 5) (p + 5) 0 0 20) (r + 6) (p + 6) 0 0 20) (r + 7) (p + 7) 0 0 20) p 7 (t_l T)) p 8 (Int32.ofNat (t_g T))) p 9 (Int32.ofNat (t_m T))) p 10 (Int32.ofNat (t_n T)))).2.2.1 (p + 2) g = F.2.2.1 (r + 2) g from (fp_l).trans ((fp_l).trans ((fp_l).trans ((fp_l).trans ((fcp_lne (by omega)).trans ((fcp_lne (by omega)).trans ((fcp_lne (by omega)).trans ((fcp_lne (by omega)).trans ((fcp_lne (by omega)).trans ((fcp_l0 (by omega)).trans (fcp_lne (by omega)))))))))))]; exact hN.2 g hg⟩)
set_option maxRecDepth 100000 in
set_option maxHeartbeats 4000000 in
theorem f_seCopy {F : FW} {p r : Nat} {E : Se} (hp : O3 F p) (hS : SE F r E) (hd : p + 3 < r ∨ r + 3 < p) : Pm Z_X5_copyFrom [.ref p, .ref r] F (fun r' F' => r' = none ∧ FX (fun q => p ≤ q ∧ q ≤ p + 3) F F' ∧ SE F' p E) := by
  refine Pm.of fun N => ?_
  obtain ⟨Q, hQ⟩ : ∃ Q : Option Value → FW → Prop, Q = (fun r' F' => r' = none ∧ FX (fun q => p ≤ q ∧ q ≤ p + 3) F F' ∧ SE F' p E) := ⟨_, rfl⟩
  rw [← hQ]
  refine (show Pv (ab_T L_X5_copyFrom) N 0 [some (.ref p), some (.ref r)] [] F Q from ?_)
  refine Pv.aload rfl rfl ?_
  refine Pv.getR (v := .ref (r + 1)) rfl rfl (hS.o 0 (by decide)) ?_
  refine Pv.lit rfl ?_
  refine Pv.aload rfl rfl ?_
  refine Pv.getR (v := .ref (p + 1)) rfl rfl (hp 0 (by decide)) ?_
  refine Pv.lit rfl ?_
  refine Pv.lit rfl ?_
  refine Pv.copy rfl ?_
  refine (show Pv _ _ 15 [some (.ref p), some (.ref r)] [] (fcp F (r + 1) (p + 1) 0 0 40) Q from ?_)
  refine Pv.aload rfl rfl ?_
  refine Pv.getR (v := .ref (r + 2)) rfl rfl (hS.o 1 (by decide)) ?_
  refine Pv.lit rfl ?_
  refine Pv.aload rfl rfl ?_
  refine Pv.getR (v := .ref (p + 2)) rfl rfl (hp 1 (by decide)) ?_
  refine Pv.lit rfl ?_
  refine Pv.lit rfl ?_
  refine Pv.copy rfl ?_
  refine (show Pv _ _ 30 [some (.ref p), some (.ref r)] [] (fcp (fcp F (r + 1) (p + 1) 0 0 40) (r + 2) (p + 2) 0 0 40) Q from ?_)
  refine Pv.aload rfl rfl ?_
  refine Pv.getR (v := .ref (r + 3)) rfl rfl (hS.o 2 (by decide)) ?_
  refine Pv.lit rfl ?_
  refine Pv.aload rfl rfl ?_
  refine Pv.getR (v := .ref (p + 3)) rfl rfl (hp 2 (by decide)) ?_
  refine Pv.lit rfl ?_
  refine Pv.lit rfl ?_
  refine Pv.copy rfl ?_
  refine (show Pv _ _ 45 [some (.ref p), some (.ref r)] [] (fcp (fcp (fcp F (r + 1) (p + 1) 0 0 40) (r + 2) (p + 2) 0 0 40) (r + 3) (p + 3) 0 0 40) Q from ?_)
  refine Pv.aload rfl rfl ?_
  refine Pv.aload rfl rfl ?_
  refine Pv.getI (z := E.1) rfl rfl ((fcp_ne (by omega)).trans ((fcp_ne (by omega)).trans ((fcp_ne (by omega)).trans (hS.z)))) ?_
  refine Pv.putI rfl rfl ?_
  refine Pv.aload rfl rfl ?_
  refine Pv.aload rfl rfl ?_
  refine Pv.getI (z := E.2.1) rfl rfl ((fp_ne (Or.inl (by omega))).trans ((fcp_ne (by omega)).trans ((fcp_ne (by omega)).trans ((fcp_ne (by omega)).trans (hS.n))))) ?_
  refine Pv.putI rfl rfl ?_
  refine Pv.aload rfl rfl ?_
  refine Pv.aload rfl rfl ?_
  refine Pv.getI (z := E.2.2.1) rfl rfl ((fp_ne (Or.inl (by omega))).trans ((fp_ne (Or.inl (by omega))).trans ((fcp_ne (by omega)).trans ((fcp_ne (by omega)).trans ((fcp_ne (by omega)).trans (hS.i)))))) ?_
  refine Pv.putI rfl rfl ?_
  exact Pv.vret rfl (by rw [hQ]; exact ⟨rfl, (((((((FX.rf (P := fun q => p ≤ q ∧ q ≤ p + 3))).fcp (show p ≤ (p + 1) ∧ (p + 1) ≤ p + 3 by omega)).fcp (show p ≤ (p + 2) ∧ (p + 2) ≤ p + 3 by omega)).fcp (show p ≤ (p + 3) ∧ (p + 3) ≤ p + 3 by omega)).fp (show p ≤ p ∧ p ≤ p + 3 by omega)).fp (show p ≤ p ∧ p ≤ p + 3 by omega)).fp (show p ≤ p ∧ p ≤ p + 3 by omega), hp, (fp_ne (Or.inr (by decide))).trans ((fp_ne (Or.inr (by decide))).trans (fp_eq)), (fp_ne (Or.inr (by decide))).trans (fp_eq), fp_eq, ((((((hS.a).cp (by omega)).cn (by omega)).cn (by omega)).ne (by omega)).ne (by omega)).ne (by omega), ((((((hS.f).cn (by omega)).cp (by omega)).cn (by omega)).ne (by omega)).ne (by omega)).ne (by omega), ((((((hS.m).cn (by omega)).cn (by omega)).cp (by omega)).ne (by omega)).ne (by omega)).ne (by omega)⟩)
end
-- 63.b73.x3.lean.txt
section
/-! ===== a new image ===== -/
set_option maxRecDepth 100000 in
set_option maxHeartbeats 4000000 in
theorem f_x3_init {F : FW} {p : Nat} (hz : F.2.2.2.1 = p + 1) : Pm Z_X3_init [.ref p] F (fun r F' => r = none ∧ FRZ (fun q => q = p) F F' ∧ F'.2.2.2.1 = p + 21 ∧ O3i F' p ∧ O7 F' (p + 1) ∧ O7 F' (p + 9) ∧ O3 F' (p + 17)) := by
  refine Pm.of fun N => ?_
  obtain ⟨Q, hQ⟩ : ∃ Q : Option Value → FW → Prop, Q = (fun r F' => r = none ∧ FRZ (fun q => q = p) F F' ∧ F'.2.2.2.1 = p + 21 ∧ O3i F' p ∧ O7 F' (p + 1) ∧ O7 F' (p + 9) ∧ O3 F' (p + 17)) := ⟨_, rfl⟩
  rw [← hQ]
  refine (show Pv (ab_T (L_X3_init Z_X7_init Z_X6_init Z_X5_init)) N 0 [some (.ref p)] [] F Q from ?_)
  refine Pv.aload rfl rfl ?_
  refine Pv.obj rfl ?_
  refine Pv.aload rfl rfl ?_
  refine Pv.new rfl (by decide) (by decide) ?_
  rw [hz]
  refine (show Pv _ _ 8 [some (.ref p)] [.ref (p + 1), .ref p] (fnw F 0) Q from ?_)
  refine Pv.dup rfl ?_
  refine Pv.call (as := [.ref (p + 1)]) (rest := [.ref (p + 1), .ref p]) rfl rfl rfl (f_x7_init (F := fnw F 0) (p := p + 1) (by show F.2.2.2.1 + 1 = _; rw [hz])) ?_
  rintro _ G1 ⟨rfl, w1, o1⟩
  have z1 : G1.2.2.2.1 = p + 9 := by rw [w1.1]; show F.2.2.2.1 + 1 + 7 = _; omega
  refine (show Pv _ _ 12 [some (.ref p)] [.ref (p + 1), .ref p] G1 Q from ?_)
  refine Pv.putR rfl rfl (Or.inr ⟨_, rfl⟩) ?_
  obtain ⟨H1, e1⟩ : ∃ H1, H1 = fpr G1 p 0 (.ref (p + 1)) := ⟨_, rfl⟩
  rw [← e1]
  have y1 : H1.2.2.2.1 = p + 9 := by rw [e1]; exact z1
  have f1 : FRZ (fun q => q = p) F H1 := by
    rw [e1]
    refine ⟨by show _ ≤ G1.2.2.2.1; omega, fun a ha c => ?_⟩
    obtain ⟨h1, h2, h3, -⟩ := w1.2 a (by show a < F.2.2.2.1 + 1; omega) (by omega)
    exact ⟨fun k => (h1 k).trans (if_neg (by omega)), fun k => (fpr_ne (Or.inl c)).trans ((h2 k).trans (if_neg (by omega))), fun k => (h3 k).trans (if_neg (by omega))⟩
  have r1 : H1.2.1 p 0 = .ref (p + 1) := by rw [e1]; exact fpr_eq
  have q1 : O7 H1 (p + 1) := fun j hj => by rw [e1]; exact (fpr_ne (Or.inl (by omega))).trans (o1 j hj)
  refine Pv.aload rfl rfl ?_
  refine Pv.new rfl (by decide) (by decide) ?_
  rw [y1]
  refine (show Pv _ _ 19 [some (.ref p)] [.ref (p + 9), .ref p] (fnw H1 0) Q from ?_)
  refine Pv.dup rfl ?_
  refine Pv.call (as := [.ref (p + 9)]) (rest := [.ref (p + 9), .ref p]) rfl rfl rfl (f_x6_init (F := fnw H1 0) (p := p + 9) (by show H1.2.2.2.1 + 1 = _; rw [y1])) ?_
  rintro _ G2 ⟨rfl, w2, o2⟩
  have z2 : G2.2.2.2.1 = p + 17 := by rw [w2.1]; show H1.2.2.2.1 + 1 + 7 = _; omega
  refine (show Pv _ _ 23 [some (.ref p)] [.ref (p + 9), .ref p] G2 Q from ?_)
  refine Pv.putR rfl rfl (Or.inr ⟨_, rfl⟩) ?_
  obtain ⟨H2, e2⟩ : ∃ H2, H2 = fpr G2 p 1 (.ref (p + 9)) := ⟨_, rfl⟩
  rw [← e2]
  have y2 : H2.2.2.2.1 = p + 17 := by rw [e2]; exact z2
  have f2 : FRZ (fun q => q = p) H1 H2 := by
    rw [e2]
    refine ⟨by show _ ≤ G2.2.2.2.1; omega, fun a ha c => ?_⟩
    obtain ⟨h1, h2, h3, -⟩ := w2.2 a (by show a < H1.2.2.2.1 + 1; omega) (by omega)
    exact ⟨fun k => (h1 k).trans (if_neg (by omega)), fun k => (fpr_ne (Or.inl c)).trans ((h2 k).trans (if_neg (by omega))), fun k => (h3 k).trans (if_neg (by omega))⟩
  have r2 : H2.2.1 p 0 = .ref (p + 1) ∧ H2.2.1 p 1 = .ref (p + 9) := by
    obtain ⟨-, h2, -, -⟩ := w2.2 p (by show p < H1.2.2.2.1 + 1; omega) (by omega)
    rw [e2]
    exact ⟨(fpr_ne (Or.inr (by decide))).trans ((h2 0).trans ((if_neg (by omega)).trans r1)), fpr_eq⟩
  have q2 : O7 H2 (p + 9) := fun j hj => by rw [e2]; exact (fpr_ne (Or.inl (by omega))).trans (o2 j hj)
  refine Pv.aload rfl rfl ?_
  refine Pv.new rfl (by decide) (by decide) ?_
  rw [y2]
  refine (show Pv _ _ 30 [some (.ref p)] [.ref (p + 17), .ref p] (fnw H2 0) Q from ?_)
  refine Pv.dup rfl ?_
  refine Pv.call (as := [.ref (p + 17)]) (rest := [.ref (p + 17), .ref p]) rfl rfl rfl (f_x5_init (F := fnw H2 0) (p := p + 17) (by show H2.2.2.2.1 + 1 = _; rw [y2])) ?_
  rintro _ G3 ⟨rfl, w3, o3⟩
  have z3 : G3.2.2.2.1 = p + 21 := by rw [w3.1]; show H2.2.2.2.1 + 1 + 3 = _; omega
  refine (show Pv _ _ 34 [some (.ref p)] [.ref (p + 17), .ref p] G3 Q from ?_)
  refine Pv.putR rfl rfl (Or.inr ⟨_, rfl⟩) ?_
  obtain ⟨H3, e3⟩ : ∃ H3, H3 = fpr G3 p 2 (.ref (p + 17)) := ⟨_, rfl⟩
  rw [← e3]
  have y3 : H3.2.2.2.1 = p + 21 := by rw [e3]; exact z3
  have f3 : FRZ (fun q => q = p) H2 H3 := by
    rw [e3]
    refine ⟨by show _ ≤ G3.2.2.2.1; omega, fun a ha c => ?_⟩
    obtain ⟨h1, h2, h3, -⟩ := w3.2 a (by show a < H2.2.2.2.1 + 1; omega) (by omega)
    exact ⟨fun k => (h1 k).trans (if_neg (by omega)), fun k => (fpr_ne (Or.inl c)).trans ((h2 k).trans (if_neg (by omega))), fun k => (h3 k).trans (if_neg (by omega))⟩
  have r3 : O3i H3 p := by
    obtain ⟨-, h2, -, -⟩ := w3.2 p (by show p < H2.2.2.2.1 + 1; omega) (by omega)
    rw [e3]
    exact ⟨(fpr_ne (Or.inr (by decide))).trans ((h2 0).trans ((if_neg (by omega)).trans r2.1)), (fpr_ne (Or.inr (by decide))).trans ((h2 1).trans ((if_neg (by omega)).trans r2.2)), fpr_eq⟩
  have q3 : O3 H3 (p + 17) := fun j hj => by rw [e3]; exact (fpr_ne (Or.inl (by omega))).trans (o3 j hj)
  refine Pv.vret rfl ?_
  rw [hQ]
  refine ⟨rfl, (f1.tr f2).tr f3, y3, r3, fun j hj => ?_, fun j hj => ?_, q3⟩
  · exact ((f3.2 (p + 1) (by omega) (by omega)).2.1 j).trans (((f2.2 (p + 1) (by omega) (by omega)).2.1 j).trans (q1 j hj))
  · exact ((f3.2 (p + 9) (by omega) (by omega)).2.1 j).trans (q2 j hj)
end
-- 63.b74.image.lean.txt
section
/-! ===== image, restore: the class ===== -/
theorem NMC.fx {P : Nat → Prop} {F G : FW} {p : Nat} {T : St} {nm : Nat → Int} (h : NMC F p T nm) (x : FX P F G) (c1 : ¬ P (p + 1)) (c2 : ¬ P (p + 2)) : NMC G p T nm :=
  ⟨fun g hg => by rw [x.2.1 (p + 1) g c1]; exact h.1 g hg, fun m hm => by rw [x.2.1 (p + 2) m c2]; exact h.2 m hm⟩
theorem SE.fx {P : Nat → Prop} {F G : FW} {p : Nat} {E : Se} (h : SE F p E) (x : FX P F G) (c : ∀ a, p ≤ a → a ≤ p + 3 → ¬ P a) : SE G p E :=
  ⟨fun j hj => by rw [x.2.2.1]; exact h.o j hj, (x.1 _ _ (c _ (by omega) (by omega))).trans h.z, (x.1 _ _ (c _ (by omega) (by omega))).trans h.n, (x.1 _ _ (c _ (by omega) (by omega))).trans h.i, h.a.fx x (c _ (by omega) (by omega)), h.f.fx x (c _ (by omega) (by omega)), h.m.fx x (c _ (by omega) (by omega))⟩
theorem FX.O3 {P : Nat → Prop} {F G : FW} {p : Nat} (h : FX P F G) (o : O3 F p) : O3 G p := fun j hj => by
  rw [h.2.2.1]
  exact o j hj
section IMG
variable {F : FW} {t k v u : Nat} {T T' : St} {S S' : Sh} {E E' : Se} {nm nm' : Nat → Int} {x : Int32}
set_option maxRecDepth 100000 in
set_option maxHeartbeats 4000000 in
theorem o_image37 (hG : GW F) (ht : F.2.1 0 13 = .ref t) (hT : TR F t T) (hN : NMC F t T nm) (hS : SHR F 12 (t_m T) S) (j0 : t = 45 ∨ t = 53) (hu : F.2.1 0 15 = .ref u) (ju : u = 61 ∨ u = 65) (hE : SE F u E) (hO : O3i F v) (h1 : O7 F (v + 1)) (h9 : O7 F (v + 9)) (h17 : O3 F (v + 17)) (h88 : 88 ≤ v) (N : Nat) :
    Pv (ab_T (L_X10_image Z_X3_init Z_X7_copyFrom Z_X6_copyFrom Z_X5_copyFrom)) N 37 [some (.ref 0), some (.int x), some (.ref v)] [] F (fun r F' => r = some (.int 1) ∧ FX (fun q => v ≤ q ∧ q ≤ v + 20) F F' ∧ TR F' (v + 1) T ∧ NMC F' (v + 1) T nm ∧ SHR F' (v + 9) (t_m T) S ∧ SE F' (v + 17) E) := by
  have b3 := hT.mb
  refine Pv.aload rfl rfl ?_
  refine Pv.getR (v := .ref (v + 1)) rfl rfl hO.1 ?_
  refine Pv.aload rfl rfl ?_
  refine Pv.getR (v := .ref t) rfl rfl ht ?_
  refine Pv.callV (as := [.ref (v + 1), .ref t]) (rest := []) rfl rfl rfl (f_stCopy h1 hT hN (by omega)) ?_
  rintro _ G1 ⟨rfl, x1, t1, n1⟩
  refine (show Pv _ _ 48 [some (.ref 0), some (.int x), some (.ref v)] [] G1 _ from ?_)
  refine Pv.aload rfl rfl ?_
  refine Pv.getR (v := .ref (v + 9)) rfl rfl (by rw [x1.2.2.1]; exact hO.2.1) ?_
  refine Pv.aload rfl rfl ?_
  refine Pv.getR (v := .ref 12) rfl rfl ((hG.fx x1).at (a := 0) (k := 4) (b := 12) (by decide)) ?_
  refine Pv.callV (as := [.ref (v + 9), .ref 12]) (rest := []) rfl rfl rfl (f_shCopy (x1.O7 h9) (hS.fx x1 (fun q a b (c : v + 1 ≤ q ∧ q ≤ v + 1 + 7) => by omega)) b3 (by omega)) ?_
  rintro _ G2 ⟨rfl, x2, s2⟩
  refine (show Pv _ _ 59 [some (.ref 0), some (.int x), some (.ref v)] [] G2 _ from ?_)
  refine Pv.aload rfl rfl ?_
  refine Pv.getR (v := .ref (v + 17)) rfl rfl (by rw [x2.2.2.1, x1.2.2.1]; exact hO.2.2) ?_
  refine Pv.aload rfl rfl ?_
  refine Pv.getR (v := .ref u) rfl rfl (by rw [x2.2.2.1, x1.2.2.1]; exact hu) ?_
  refine Pv.callV (as := [.ref (v + 17), .ref u]) (rest := []) rfl rfl rfl (f_seCopy (x2.O3 (x1.O3 h17)) ((hE.fx x1 (fun q a b (c : v + 1 ≤ q ∧ q ≤ v + 1 + 7) => by omega)).fx x2 (fun q a b (c : v + 9 ≤ q ∧ q ≤ v + 9 + 7) => by omega)) (by omega)) ?_
  rintro _ G3 ⟨rfl, x3, e3⟩
  refine (show Pv _ _ 70 [some (.ref 0), some (.int x), some (.ref v)] [] G3 _ from ?_)
  refine Pv.lit rfl ?_
  exact Pv.zret rfl ⟨rfl, ((x1.wd (fun q (c : v + 1 ≤ q ∧ q ≤ v + 1 + 7) => (show v ≤ q ∧ q ≤ v + 20 by omega))).tr (x2.wd (fun q (c : v + 9 ≤ q ∧ q ≤ v + 9 + 7) => (show v ≤ q ∧ q ≤ v + 20 by omega)))).tr (x3.wd (fun q (c : v + 17 ≤ q ∧ q ≤ v + 17 + 3) => (show v ≤ q ∧ q ≤ v + 20 by omega))),
    (t1.fx x2 (fun q a b (c : v + 9 ≤ q ∧ q ≤ v + 9 + 7) => by omega)).fx x3 (fun q a b (c : v + 17 ≤ q ∧ q ≤ v + 17 + 3) => by omega),
    (n1.fx x2 (fun (c : v + 9 ≤ v + 1 + 1 ∧ v + 1 + 1 ≤ v + 9 + 7) => by omega) (fun (c : v + 9 ≤ v + 1 + 2 ∧ v + 1 + 2 ≤ v + 9 + 7) => by omega)).fx x3 (fun (c : v + 17 ≤ v + 1 + 1 ∧ v + 1 + 1 ≤ v + 17 + 3) => by omega) (fun (c : v + 17 ≤ v + 1 + 2 ∧ v + 1 + 2 ≤ v + 17 + 3) => by omega),
    s2.fx x3 (fun q a b (c : v + 17 ≤ q ∧ q ≤ v + 17 + 3) => by omega), e3⟩
set_option maxRecDepth 100000 in
set_option maxHeartbeats 4000000 in
theorem o_image11 (hG : GW F) (hk : k < 2) {Q : Option Value → FW → Prop} (h : ∀ N, Pv (ab_T (L_X10_image Z_X3_init Z_X7_copyFrom Z_X6_copyFrom Z_X5_copyFrom)) N 18 [some (.ref 0), some (.int (Int32.ofNat k)), some (F.2.1 41 k)] [] F Q) (hv : F.2.1 41 k = .null ∨ ∃ v, F.2.1 41 k = .ref v) : Pm Z_X10_image [.ref 0, .int (Int32.ofNat k)] F Q := by
  refine Pm.of fun N => ?_
  refine (show Pv (ab_T (L_X10_image Z_X3_init Z_X7_copyFrom Z_X6_copyFrom Z_X5_copyFrom)) N 0 [some (.ref 0), some (.int (Int32.ofNat k)), none] [] F Q from ?_)
  refine Pv.iload rfl rfl ?_
  refine Pv.if0 rfl (fun c => ?_) (fun c => ?_)
  · exact absurd ((i_lt (a := k) (b := 0) (by omega) (by omega)).mp (of_decide_eq_true c)) (by omega)
  refine Pv.iload rfl rfl ?_
  refine Pv.lit rfl ?_
  refine Pv.icmp rfl (fun c => ?_) (fun c => ?_)
  · refine Pv.aload rfl rfl ?_
    refine Pv.getR (v := .ref 41) rfl rfl (hG.at (a := 0) (k := 9) (b := 41) (by decide)) ?_
    refine Pv.iload rfl rfl ?_
    refine Pv.aald (v := F.2.1 41 k) rfl (by rw [i_toNat (by omega)]) ?_
    have h' := h N
    rcases hv with e | ⟨v, e⟩ <;> rw [e] at h' ⊢
    · exact Pv.astoreN rfl rfl h'
    · exact Pv.astore rfl rfl h'
  · exact absurd hk (fun c2 => absurd ((i_lt (a := k) (b := 2) (by omega) (by omega)).mpr c2) (of_decide_eq_false c))
theorem o_image_n (h : nd 2 x = none) : Pm Z_X10_image [.ref 0, .int x] F (fun r F' => r = some (.int 0) ∧ F' = F) := by
  refine Pm.of fun N => ?_
  refine (show Pv (ab_T (L_X10_image Z_X3_init Z_X7_copyFrom Z_X6_copyFrom Z_X5_copyFrom)) N 0 [some (.ref 0), some (.int x), none] [] F _ from ?_)
  refine Pv.iload rfl rfl ?_
  refine Pv.if0 rfl (fun c => ?_) (fun c => ?_)
  · refine Pv.lit rfl ?_
    exact Pv.zret rfl ⟨rfl, rfl⟩
  refine Pv.iload rfl rfl ?_
  refine Pv.lit rfl ?_
  refine Pv.icmp rfl (fun c2 => ?_) (fun c2 => ?_)
  · have e : (nd 2 x).isSome = true := by
      rw [← nd_le (by decide), decide_eq_true (Int32.not_lt.mp (of_decide_eq_false c))]
      exact c2
    rw [h] at e
    cases e
  · refine Pv.lit rfl ?_
    exact Pv.zret rfl ⟨rfl, rfl⟩
set_option maxRecDepth 100000 in
set_option maxHeartbeats 4000000 in
theorem o_image_0 (hG : GW F) (hk : k < 2) (hv : F.2.1 41 k = .null) (hz : 88 ≤ F.2.2.2.1) (ht : F.2.1 0 13 = .ref t) (hT : TR F t T) (hN : NMC F t T nm) (hS : SHR F 12 (t_m T) S) (j0 : t = 45 ∨ t = 53) (hu : F.2.1 0 15 = .ref u) (ju : u = 61 ∨ u = 65) (hE : SE F u E) :
    Pm Z_X10_image [.ref 0, .int (Int32.ofNat k)] F (fun r F' => r = some (.int 1) ∧ F'.2.2.2.1 = F.2.2.2.1 + 21 ∧ FRZ (fun q => q = 41) F F' ∧ (∀ j, j ≠ k → F'.2.1 41 j = F.2.1 41 j) ∧ F'.2.1 41 k = .ref F.2.2.2.1 ∧ O3i F' F.2.2.2.1 ∧ TR F' (F.2.2.2.1 + 1) T ∧ NMC F' (F.2.2.2.1 + 1) T nm ∧ SHR F' (F.2.2.2.1 + 9) (t_m T) S ∧ SE F' (F.2.2.2.1 + 17) E) := by
  refine o_image11 hG hk (fun N => ?_) (Or.inl hv)
  rw [hv]
  obtain ⟨z, ez⟩ : ∃ z, z = F.2.2.2.1 := ⟨_, rfl⟩
  refine Pv.aloadN rfl rfl ?_
  refine Pv.nonnullN rfl ?_
  refine Pv.new rfl (by decide) (by decide) ?_
  rw [← ez]
  refine (show Pv _ _ 25 [some (.ref 0), some (.int (Int32.ofNat k)), some .null] [.ref z] (fnw F 0) _ from ?_)
  refine Pv.dup rfl ?_
  refine Pv.call (as := [.ref z]) (rest := [.ref z]) rfl rfl rfl (f_x3_init (F := fnw F 0) (p := z) (by show F.2.2.2.1 + 1 = _; rw [ez])) ?_
  rintro _ G ⟨rfl, w, zz, o3, o1, o9, o17⟩
  have z0 : (fnw F 0).2.2.2.1 = z + 1 := by rw [ez]; rfl
  have g0 : FRZ (fun q => q = z) F G := (fnw_frz (n := 0)).tr w
  refine (show Pv _ _ 29 [some (.ref 0), some (.int (Int32.ofNat k)), some .null] [.ref z] G _ from ?_)
  refine Pv.astore (lo' := [some (.ref 0), some (.int (Int32.ofNat k)), some (.ref z)]) rfl rfl ?_
  refine Pv.aload rfl rfl ?_
  have gw := hG.frz g0 hz (fun y my e => by have := (wires_lt y my).2; omega)
  refine Pv.getR (v := .ref 41) rfl rfl (gw.at (a := 0) (k := 9) (b := 41) (by decide)) ?_
  refine Pv.iload rfl rfl ?_
  refine Pv.aload rfl rfl ?_
  refine Pv.aastk (k := k) rfl (i_toNat (by omega)) ?_
  obtain ⟨H, eH⟩ : ∃ H, H = fpr G 41 k (.ref z) := ⟨_, rfl⟩
  rw [← eH]
  have gH : FRZ (fun q => q = 41) F H := by
    rw [eH]
    exact (g0.wd (fun a ha (c : a = z) => absurd ha (by omega))).tr (fpr_frz rfl)
  have zH : H.2.2.2.1 = z + 21 := by rw [eH]; exact zz
  have rH : ∀ a j, a ≠ 41 → H.2.1 a j = G.2.1 a j := fun a j c => by rw [eH]; exact fpr_ne (Or.inl c)
  have hz' : 88 ≤ z := by omega
  refine (o_image37 (F := H) (v := z) (hG := fun y my => (rH y.1 y.2.1 (wires_41 y my)).trans (gw y my)) ((rH 0 13 (by decide)).trans (((g0.2 0 (by omega) (by omega)).2.1 13).trans ht)) (hT.frz gH (by omega) (fun a h1 h2 c => by omega)) (hN.frz gH (by omega) (by omega) (by omega)) (hS.frz gH (by omega) (fun a h1 h2 c => by omega)) j0 ((rH 0 15 (by decide)).trans (((g0.2 0 (by omega) (by omega)).2.1 15).trans hu)) ju (hE.frz gH (by omega) (fun a h1 h2 c => by omega))
    ⟨(rH z 0 (by omega)).trans o3.1, (rH z 1 (by omega)).trans o3.2.1, (rH z 2 (by omega)).trans o3.2.2⟩ (fun j hj => (rH _ j (by omega)).trans (o1 j hj)) (fun j hj => (rH _ j (by omega)).trans (o9 j hj)) (fun j hj => (rH _ j (by omega)).trans (o17 j hj)) hz' N).imp ?_
  rintro r F' ⟨e, x1, x2, x3, x4, x5⟩
  try rw [← ez]
  have rF : F'.2.1 = H.2.1 := x1.2.2.1
  exact ⟨e, by rw [x1.2.2.2]; exact zH, gH.fx x1 (fun a ha (c : z ≤ a ∧ a ≤ z + 20) => absurd ha (by omega)), fun j c => by rw [rF, eH]; exact (fpr_ne (Or.inr c)).trans ((g0.2 41 (by omega) (by omega)).2.1 j), by rw [rF, eH]; exact fpr_eq, ⟨by rw [rF]; exact (rH z 0 (by omega)).trans o3.1, by rw [rF]; exact (rH z 1 (by omega)).trans o3.2.1, by rw [rF]; exact (rH z 2 (by omega)).trans o3.2.2⟩, x2, x3, x4, x5⟩
set_option maxRecDepth 100000 in
set_option maxHeartbeats 4000000 in
theorem o_image_1 (hG : GW F) (hk : k < 2) (hv : F.2.1 41 k = .ref v) (h88 : 88 ≤ v) (hO : O3i F v) (h1 : O7 F (v + 1)) (h9 : O7 F (v + 9)) (h17 : O3 F (v + 17)) (ht : F.2.1 0 13 = .ref t) (hT : TR F t T) (hN : NMC F t T nm) (hS : SHR F 12 (t_m T) S) (j0 : t = 45 ∨ t = 53) (hu : F.2.1 0 15 = .ref u) (ju : u = 61 ∨ u = 65) (hE : SE F u E) :
    Pm Z_X10_image [.ref 0, .int (Int32.ofNat k)] F (fun r F' => r = some (.int 1) ∧ FX (fun q => v ≤ q ∧ q ≤ v + 20) F F' ∧ TR F' (v + 1) T ∧ NMC F' (v + 1) T nm ∧ SHR F' (v + 9) (t_m T) S ∧ SE F' (v + 17) E) := by
  refine o_image11 hG hk (fun N => ?_) (Or.inr ⟨v, hv⟩)
  rw [hv]
  refine Pv.aload rfl rfl ?_
  refine Pv.nonnullR rfl ?_
  exact o_image37 hG ht hT hN hS j0 hu ju hE hO h1 h9 h17 h88 N
/-! restore -/
set_option maxRecDepth 100000 in
set_option maxHeartbeats 4000000 in
theorem o_restore11 (hG : GW F) (hk : k < 2) {Q : Option Value → FW → Prop} (h : ∀ N, Pv (ab_T (L_X10_restore Z_X7_copyFrom Z_X6_copyFrom Z_X5_copyFrom Z_X2_forget)) N 18 [some (.ref 0), some (.int (Int32.ofNat k)), some (F.2.1 41 k)] [] F Q) (hv : F.2.1 41 k = .null ∨ ∃ v, F.2.1 41 k = .ref v) : Pm Z_X10_restore [.ref 0, .int (Int32.ofNat k)] F Q := by
  refine Pm.of fun N => ?_
  refine (show Pv (ab_T (L_X10_restore Z_X7_copyFrom Z_X6_copyFrom Z_X5_copyFrom Z_X2_forget)) N 0 [some (.ref 0), some (.int (Int32.ofNat k)), none] [] F Q from ?_)
  refine Pv.iload rfl rfl ?_
  refine Pv.if0 rfl (fun c => ?_) (fun c => ?_)
  · exact absurd ((i_lt (a := k) (b := 0) (by omega) (by omega)).mp (of_decide_eq_true c)) (by omega)
  refine Pv.iload rfl rfl ?_
  refine Pv.lit rfl ?_
  refine Pv.icmp rfl (fun c => ?_) (fun c => ?_)
  · refine Pv.aload rfl rfl ?_
    refine Pv.getR (v := .ref 41) rfl rfl (hG.at (a := 0) (k := 9) (b := 41) (by decide)) ?_
    refine Pv.iload rfl rfl ?_
    refine Pv.aald (v := F.2.1 41 k) rfl (by rw [i_toNat (by omega)]) ?_
    have h' := h N
    rcases hv with e | ⟨v, e⟩ <;> rw [e] at h' ⊢
    · exact Pv.astoreN rfl rfl h'
    · exact Pv.astore rfl rfl h'
  · exact absurd hk (fun c2 => absurd ((i_lt (a := k) (b := 2) (by omega) (by omega)).mpr c2) (of_decide_eq_false c))
theorem o_restore_n (h : nd 2 x = none) : Pm Z_X10_restore [.ref 0, .int x] F (fun r F' => r = some (.int 0) ∧ F' = F) := by
  refine Pm.of fun N => ?_
  refine (show Pv (ab_T (L_X10_restore Z_X7_copyFrom Z_X6_copyFrom Z_X5_copyFrom Z_X2_forget)) N 0 [some (.ref 0), some (.int x), none] [] F _ from ?_)
  refine Pv.iload rfl rfl ?_
  refine Pv.if0 rfl (fun c => ?_) (fun c => ?_)
  · refine Pv.lit rfl ?_
    exact Pv.zret rfl ⟨rfl, rfl⟩
  refine Pv.iload rfl rfl ?_
  refine Pv.lit rfl ?_
  refine Pv.icmp rfl (fun c2 => ?_) (fun c2 => ?_)
  · have e : (nd 2 x).isSome = true := by
      rw [← nd_le (by decide), decide_eq_true (Int32.not_lt.mp (of_decide_eq_false c))]
      exact c2
    rw [h] at e
    cases e
  · refine Pv.lit rfl ?_
    exact Pv.zret rfl ⟨rfl, rfl⟩
theorem o_restore_0 (hG : GW F) (hk : k < 2) (hv : F.2.1 41 k = .null) : Pm Z_X10_restore [.ref 0, .int (Int32.ofNat k)] F (fun r F' => r = some (.int 0) ∧ F' = F) := by
  refine o_restore11 hG hk (fun N => ?_) (Or.inl hv)
  rw [hv]
  refine Pv.aloadN rfl rfl ?_
  refine Pv.nonnullN rfl ?_
  refine Pv.lit rfl ?_
  exact Pv.zret rfl ⟨rfl, rfl⟩
set_option maxRecDepth 100000 in
set_option maxHeartbeats 4000000 in
theorem o_restore_1 (hG : GW F) (hk : k < 2) (hv : F.2.1 41 k = .ref v) (h88 : 88 ≤ v) (hO : O3i F v) (hT' : TR F (v + 1) T') (hN' : NMC F (v + 1) T' nm') (hS' : SHR F (v + 9) (t_m T') S') (hE' : SE F (v + 17) E') (ht : F.2.1 0 13 = .ref t) (hT : TR F t T) (j0 : t = 45 ∨ t = 53) (hu : F.2.1 0 15 = .ref u) (ju : u = 61 ∨ u = 65) (hE : SE F u E) :
    Pm Z_X10_restore [.ref 0, .int (Int32.ofNat k)] F (fun r F' => r = some (.int 1) ∧ FX (fun q => (t ≤ q ∧ q ≤ t + 7) ∨ (12 ≤ q ∧ q ≤ 19) ∨ (u ≤ q ∧ q ≤ u + 3) ∨ q = 10) F F' ∧ TR F' t T' ∧ NMC F' t T' nm' ∧ SHR F' 12 (t_m T') S' ∧ SE F' u E' ∧ F'.1 10 1 = 0) := by
  refine o_restore11 hG hk (fun N => ?_) (Or.inr ⟨v, hv⟩)
  rw [hv]
  have b3 := hT'.mb
  refine Pv.aload rfl rfl ?_
  refine Pv.nonnullR rfl ?_
  refine Pv.aload rfl rfl ?_
  refine Pv.getR (v := .ref t) rfl rfl ht ?_
  refine Pv.aload rfl rfl ?_
  refine Pv.getR (v := .ref (v + 1)) rfl rfl hO.1 ?_
  refine Pv.callV (as := [.ref t, .ref (v + 1)]) (rest := []) rfl rfl rfl (f_stCopy hT.o hT' hN' (by omega)) ?_
  rintro _ G1 ⟨rfl, x1, t1, n1⟩
  refine (show Pv _ _ 35 [some (.ref 0), some (.int (Int32.ofNat k)), some (.ref v)] [] G1 _ from ?_)
  refine Pv.aload rfl rfl ?_
  refine Pv.getR (v := .ref 12) rfl rfl ((hG.fx x1).at (a := 0) (k := 4) (b := 12) (by decide)) ?_
  refine Pv.aload rfl rfl ?_
  refine Pv.getR (v := .ref (v + 9)) rfl rfl (by rw [x1.2.2.1]; exact hO.2.1) ?_
  refine Pv.callV (as := [.ref 12, .ref (v + 9)]) (rest := []) rfl rfl rfl (f_shCopy (x1.O7 hG.o12) (hS'.fx x1 (fun q a b (c : t ≤ q ∧ q ≤ t + 7) => by omega)) b3 (by omega)) ?_
  rintro _ G2 ⟨rfl, x2, s2⟩
  refine (show Pv _ _ 46 [some (.ref 0), some (.int (Int32.ofNat k)), some (.ref v)] [] G2 _ from ?_)
  refine Pv.aload rfl rfl ?_
  refine Pv.getR (v := .ref u) rfl rfl (by rw [x2.2.2.1, x1.2.2.1]; exact hu) ?_
  refine Pv.aload rfl rfl ?_
  refine Pv.getR (v := .ref (v + 17)) rfl rfl (by rw [x2.2.2.1, x1.2.2.1]; exact hO.2.2) ?_
  refine Pv.callV (as := [.ref u, .ref (v + 17)]) (rest := []) rfl rfl rfl (f_seCopy (x2.O3 (x1.O3 hE.o)) ((hE'.fx x1 (fun q a b (c : t ≤ q ∧ q ≤ t + 7) => by omega)).fx x2 (fun q a b (c : 12 ≤ q ∧ q ≤ 12 + 7) => by omega)) (by omega)) ?_
  rintro _ G3 ⟨rfl, x3, e3⟩
  refine (show Pv _ _ 57 [some (.ref 0), some (.int (Int32.ofNat k)), some (.ref v)] [] G3 _ from ?_)
  refine Pv.aload rfl rfl ?_
  refine Pv.getR (v := .ref 10) rfl rfl (by rw [x3.2.2.1, x2.2.2.1, x1.2.2.1]; exact hG.at (a := 0) (k := 3) (b := 10) (by decide)) ?_
  refine Pv.callVU (as := [.ref 10]) (rest := []) rfl rfl rfl f_forget ?_
  refine Pv.lit rfl ?_
  have y1 := x1.wd (P' := fun q => (t ≤ q ∧ q ≤ t + 7) ∨ (12 ≤ q ∧ q ≤ 19) ∨ (u ≤ q ∧ q ≤ u + 3) ∨ q = 10) (fun q c => Or.inl c)
  have y2 := x2.wd (P' := fun q => (t ≤ q ∧ q ≤ t + 7) ∨ (12 ≤ q ∧ q ≤ 19) ∨ (u ≤ q ∧ q ≤ u + 3) ∨ q = 10) (fun q c => Or.inr (Or.inl c))
  have y3 := x3.wd (P' := fun q => (t ≤ q ∧ q ≤ t + 7) ∨ (12 ≤ q ∧ q ≤ 19) ∨ (u ≤ q ∧ q ≤ u + 3) ∨ q = 10) (fun q c => Or.inr (Or.inr (Or.inl c)))
  have y4 : FX (fun q => q = 10) G3 (fp G3 10 1 0) := FX.rf.fp rfl
  exact Pv.zret rfl ⟨rfl, ((y1.tr y2).tr y3).fp (Or.inr (Or.inr (Or.inr rfl))),
    ((t1.fx x2 (fun q a b (c : 12 ≤ q ∧ q ≤ 12 + 7) => by omega)).fx x3 (fun q a b (c : u ≤ q ∧ q ≤ u + 3) => by omega)).fx y4 (fun q a b (c : q = 10) => by omega),
    ((n1.fx x2 (fun (c : 12 ≤ t + 1 ∧ t + 1 ≤ 12 + 7) => by omega) (fun (c : 12 ≤ t + 2 ∧ t + 2 ≤ 12 + 7) => by omega)).fx x3 (fun (c : u ≤ t + 1 ∧ t + 1 ≤ u + 3) => by omega) (fun (c : u ≤ t + 2 ∧ t + 2 ≤ u + 3) => by omega)).fx y4 (fun (c : t + 1 = 10) => by omega) (fun (c : t + 2 = 10) => by omega),
    (s2.fx x3 (fun q a b (c : u ≤ q ∧ q ≤ u + 3) => by omega)).fx y4 (fun q a b (c : q = 10) => by omega), e3.fx y4 (fun a h1 h2 (c : a = 10) => by omega), fp_eq⟩
end IMG
end
-- 63.b74a.lean.txt
section
set_option maxRecDepth 100000 in
set_option maxHeartbeats 4000000 in
theorem q_image_y {F : FW} {k : Nat} (hG : GW F) (hk : k < 2) : Pm Z_X11_image [.ref 69, .int (Int32.ofNat k)] F (fun r F' => r = some (.int 1) ∧ FX (fun q => q = 69 ∨ q = 84 ∨ q = 85 ∨ q = 86) F F' ∧ (∀ j, j < 434 → F'.1 84 (434 * k + j) = F.1 71 j) ∧ (∀ j, j < 434 * k ∨ 434 * k + 434 ≤ j → F'.1 84 j = F.1 84 j) ∧ (∀ j, j ≠ 0 → F'.1 69 j = F.1 69 j) ∧ F'.1 86 k = 1 ∧ (∀ j, j ≠ k → F'.1 86 j = F.1 86 j) ∧ (∀ j, j < 14 → F'.2.2.1 85 (14 * k + j) = F.2.2.1 74 j) ∧ ∀ j, j < 14 * k ∨ 14 * k + 14 ≤ j → F'.2.2.1 85 j = F.2.2.1 85 j) := by
  refine Pm.of fun N => ?_
  obtain ⟨Q, hQ⟩ : ∃ Q : Option Value → FW → Prop, Q = (fun r F' => r = some (.int 1) ∧ FX (fun q => q = 69 ∨ q = 84 ∨ q = 85 ∨ q = 86) F F' ∧ (∀ j, j < 434 → F'.1 84 (434 * k + j) = F.1 71 j) ∧ (∀ j, j < 434 * k ∨ 434 * k + 434 ≤ j → F'.1 84 j = F.1 84 j) ∧ (∀ j, j ≠ 0 → F'.1 69 j = F.1 69 j) ∧ F'.1 86 k = 1 ∧ (∀ j, j ≠ k → F'.1 86 j = F.1 86 j) ∧ (∀ j, j < 14 → F'.2.2.1 85 (14 * k + j) = F.2.2.1 74 j) ∧ ∀ j, j < 14 * k ∨ 14 * k + 14 ≤ j → F'.2.2.1 85 j = F.2.2.1 85 j) := ⟨_, rfl⟩
  rw [← hQ]
  refine (show Pv (ab_T (L_X11_image Z_X11_isIn)) N 0 [some (.ref 69), some (.int (Int32.ofNat k)), none] [] F Q from ?_)
  refine Pv.aload rfl rfl ?_
  refine Pv.lit rfl ?_
  refine Pv.putI rfl rfl ?_
  refine Pv.iload rfl rfl ?_
  refine Pv.lit rfl ?_
  refine Pv.lit rfl ?_
  refine Pv.callI (as := [.int (Int32.ofNat k), .int 0, .int 1]) (rest := []) (z := b2i (decide (0 ≤ (Int32.ofNat k)) && decide ((Int32.ofNat k) ≤ 1))) rfl rfl rfl (q_isIn (Int32.ofNat k) 0 1) ?_
  refine Pv.if0 rfl (fun c1 => ?_) (fun c1 => ?_)
  · skip
    replace c1 : decide (b2i (decide (0 ≤ (Int32.ofNat k)) && decide ((Int32.ofNat k) ≤ 1)) = 0) = false := by simpa using c1
    replace c1 := of_decide_eq_false c1
    replace c1 := b2n.mp c1
    refine Pv.lit rfl ?_
    refine Pv.istore (lo' := [some (.ref 69), some (.int (Int32.ofNat k)), some (.int 0)]) rfl rfl ?_
    refine Pv.lp (ι := Nat × FW) (lof := fun ⟨i, G⟩ => [some (.ref 69), some (.int (Int32.ofNat k)), some (.int (Int32.ofNat i))]) (Ff := fun ⟨i, G⟩ => G) (P := fun ⟨i, G⟩ => (i ≤ 434) ∧ (FX (fun q => q = 69 ∨ q = 84 ∨ q = 85 ∨ q = 86) F G) ∧ (∀ j, j < i → G.1 84 (434 * k + j) = F.1 71 j) ∧ (∀ j, j < 434 * k ∨ 434 * k + 434 ≤ j → G.1 84 j = F.1 84 j) ∧ (∀ j, j ≠ 0 → G.1 69 j = F.1 69 j) ∧ (∀ j, G.1 86 j = F.1 86 j) ∧ (∀ j, G.2.2.1 85 j = F.2.2.1 85 j)) ?_ (0, (fp F 69 0 0)) (⟨Nat.zero_le _, (FX.fp (FX.rf (P := fun q => q = 69 ∨ q = 84 ∨ q = 85 ∨ q = 86)) (Or.inl rfl)), fun j hj => absurd hj (Nat.not_lt_zero j), fun _ _ => fp_ne (Or.inl (by decide)), fun j hj => fp_ne (Or.inr hj), fun _ => fp_ne (Or.inl (by decide)), fun _ => rfl⟩)
    rintro N2 hN3 ⟨i, G⟩ hi4 ih5
    refine (show Pv _ _ 18 [some (.ref 69), some (.int (Int32.ofNat k)), some (.int (Int32.ofNat i))] [] G Q from ?_)
    obtain ⟨hi0, hxG, hA, hB, hC, hD, hE⟩ := hi4
    have hx6 := GW.fx hG hxG
    refine Pv.iloadS rfl rfl ?_
    refine Pv.lit rfl ?_
    refine Pv.icmp rfl (fun c7 => ?_) (fun c7 => ?_)
    · skip
      replace c7 := (i_le (a := 434) (b := i) (by omega) (by omega)).mp (of_decide_eq_true c7)
      refine Pv.lit rfl ?_
      refine Pv.istore (lo' := [some (.ref 69), some (.int (Int32.ofNat k)), some (.int 0)]) rfl rfl ?_
      refine Pv.lp (ι := Nat × FW) (lof := fun ⟨i, G2⟩ => [some (.ref 69), some (.int (Int32.ofNat k)), some (.int (Int32.ofNat i))]) (Ff := fun ⟨i, G2⟩ => G2) (P := fun ⟨i, G2⟩ => (i ≤ 14) ∧ (FX (fun q => q = 69 ∨ q = 84 ∨ q = 85 ∨ q = 86) F G2) ∧ (∀ j, j < 434 → G2.1 84 (434 * k + j) = F.1 71 j) ∧ (∀ j, j < 434 * k ∨ 434 * k + 434 ≤ j → G2.1 84 j = F.1 84 j) ∧ (∀ j, j ≠ 0 → G2.1 69 j = F.1 69 j) ∧ (∀ j, G2.1 86 j = F.1 86 j) ∧ (∀ j, j < i → G2.2.2.1 85 (14 * k + j) = F.2.2.1 74 j) ∧ (∀ j, j < 14 * k ∨ 14 * k + 14 ≤ j → G2.2.2.1 85 j = F.2.2.1 85 j)) ?_ (0, G) (⟨Nat.zero_le _, hxG, fun j hj => hA j (by omega), hB, hC, hD, fun j hj => absurd hj (Nat.not_lt_zero j), fun j _ => hE j⟩)
      rintro N8 hN9 ⟨i, G2⟩ hi10 ih11
      refine (show Pv _ _ 51 [some (.ref 69), some (.int (Int32.ofNat k)), some (.int (Int32.ofNat i))] [] G2 Q from ?_)
      obtain ⟨hi0, hxG2, hA, hB, hC, hD, hE, hH⟩ := hi10
      have hx12 := GW.fx hG hxG2
      refine Pv.iloadS rfl rfl ?_
      refine Pv.lit rfl ?_
      refine Pv.icmp rfl (fun c13 => ?_) (fun c13 => ?_)
      · skip
        replace c13 := (i_le (a := 14) (b := i) (by omega) (by omega)).mp (of_decide_eq_true c13)
        refine Pv.aload rfl rfl ?_
        refine Pv.getR (v := .ref 86) rfl rfl (GW.at (a := 69) (k := 42) (b := 86) hx12 (by decide)) ?_
        refine Pv.iload rfl rfl ?_
        refine Pv.lit rfl ?_
        refine Pv.astk (k := k) (z := 1) rfl (i_toNat (by omega)) (by rfl) ?_
        refine Pv.lit rfl ?_
        exact Pv.zret rfl (by rw [hQ]; exact ⟨rfl, hxG2.fp (Or.inr (Or.inr (Or.inr rfl))), fun j hj => (fp_ne (Or.inl (by decide))).trans (hA j hj), fun j hj => (fp_ne (Or.inl (by decide))).trans (hB j hj), fun j hj => (fp_ne (Or.inl (by decide))).trans (hC j hj), fp_eq, fun j hj => (fp_ne (Or.inr hj)).trans (hD j), fun j hj => hE j (by omega), hH⟩)
      · skip
        replace c13 := mt (i_le (a := 14) (b := i) (by omega) (by omega)).mpr (of_decide_eq_false c13)
        refine Pv.aload rfl rfl ?_
        refine Pv.getR (v := .ref 85) rfl rfl (GW.at (a := 69) (k := 41) (b := 85) hx12 (by decide)) ?_
        refine Pv.lit rfl ?_
        refine Pv.iload rfl rfl ?_
        refine Pv.bin (z := Int32.ofNat (14 * k)) rfl (i_mul 14 k) ?_
        refine Pv.iload rfl rfl ?_
        refine Pv.bin (z := Int32.ofNat ((14 * k) + i)) rfl (i_add (14 * k) i) ?_
        refine Pv.aload rfl rfl ?_
        refine Pv.getR (v := .ref 74) rfl rfl (GW.at (a := 69) (k := 9) (b := 74) hx12 (by decide)) ?_
        refine Pv.iload rfl rfl ?_
        refine Pv.lald (z := F.2.2.1 74 i) rfl (by rw [i_toNat (by omega)]; exact hxG2.2.1 74 _ (by decide)) ?_
        refine Pv.lastk (k := (14 * k) + i) rfl (i_toNat (by omega)) ?_
        refine Pv.iinc (y := Int32.ofNat (i + 1)) (lo' := [some (.ref 69), some (.int (Int32.ofNat k)), some (.int (Int32.ofNat (i + 1)))]) rfl rfl (i_add i 1) rfl ?_
        refine Pv.goto rfl ?_
        exact ih11 (i + 1, (fpl G2 85 ((14 * k) + i) (F.2.2.1 74 i))) (⟨by omega, (FX.fpl hxG2 (Or.inr (Or.inr (Or.inl rfl)))), hA, hB, hC, hD, fun j hj => Or.elim (Classical.em (j = i)) (fun e => by rw [e]; exact fpl_eq) (fun e => (fpl_ne (Or.inr (by omega))).trans (hE j (by omega))), fun j hj => (fpl_ne (Or.inr (by omega))).trans (hH j hj)⟩)
    · skip
      replace c7 := mt (i_le (a := 434) (b := i) (by omega) (by omega)).mpr (of_decide_eq_false c7)
      refine Pv.aload rfl rfl ?_
      refine Pv.getR (v := .ref 84) rfl rfl (GW.at (a := 69) (k := 40) (b := 84) hx6 (by decide)) ?_
      refine Pv.lit rfl ?_
      refine Pv.iload rfl rfl ?_
      refine Pv.bin (z := Int32.ofNat (434 * k)) rfl (i_mul 434 k) ?_
      refine Pv.iload rfl rfl ?_
      refine Pv.bin (z := Int32.ofNat ((434 * k) + i)) rfl (i_add (434 * k) i) ?_
      refine Pv.aload rfl rfl ?_
      refine Pv.getR (v := .ref 71) rfl rfl (GW.at (a := 69) (k := 6) (b := 71) hx6 (by decide)) ?_
      refine Pv.iload rfl rfl ?_
      refine Pv.ald (z := F.1 71 i) rfl (by rw [i_toNat (by omega)]; exact hxG.1 71 _ (by decide)) ?_
      refine Pv.astk (k := (434 * k) + i) (z := F.1 71 i) rfl (i_toNat (by omega)) (rfl) ?_
      refine Pv.iinc (y := Int32.ofNat (i + 1)) (lo' := [some (.ref 69), some (.int (Int32.ofNat k)), some (.int (Int32.ofNat (i + 1)))]) rfl rfl (i_add i 1) rfl ?_
      refine Pv.goto rfl ?_
      exact ih5 (i + 1, (fp G 84 ((434 * k) + i) (F.1 71 i))) (⟨by omega, (FX.fp hxG (Or.inr (Or.inl rfl))), fun j hj => Or.elim (Classical.em (j = i)) (fun e => by rw [e]; exact fp_eq) (fun e => (fp_ne (Or.inr (by omega))).trans (hA j (by omega))), fun j hj => (fp_ne (Or.inr (by omega))).trans (hB j hj), fun j hj => (fp_ne (Or.inl (by decide))).trans (hC j hj), fun j => (fp_ne (Or.inl (by decide))).trans (hD j), hE⟩)
  · skip
    replace c1 : decide (b2i (decide (0 ≤ (Int32.ofNat k)) && decide ((Int32.ofNat k) ≤ 1)) = 0) = true := by simpa using c1
    replace c1 := of_decide_eq_true c1
    replace c1 := b2z.mp c1
    exact absurd ((nd_in2 (n := 2) (m := 1) (x := Int32.ofNat k) rfl (by decide)).symm.trans c1) (by rw [nd_of (by omega) (by decide)]; exact Bool.noConfusion)
set_option maxRecDepth 100000 in
set_option maxHeartbeats 4000000 in
theorem q_image_n {F : FW} {x : Int32} (h : nd 2 x = none) : Pm Z_X11_image [.ref 69, .int x] F (fun r F' => r = some (.int 0) ∧ F' = fp F 69 0 0) := by
  refine Pm.of fun N => ?_
  obtain ⟨Q, hQ⟩ : ∃ Q : Option Value → FW → Prop, Q = (fun r F' => r = some (.int 0) ∧ F' = fp F 69 0 0) := ⟨_, rfl⟩
  rw [← hQ]
  refine (show Pv (ab_T (L_X11_image Z_X11_isIn)) N 0 [some (.ref 69), some (.int x), none] [] F Q from ?_)
  refine Pv.aload rfl rfl ?_
  refine Pv.lit rfl ?_
  refine Pv.putI rfl rfl ?_
  refine Pv.iload rfl rfl ?_
  refine Pv.lit rfl ?_
  refine Pv.lit rfl ?_
  refine Pv.callI (as := [.int x, .int 0, .int 1]) (rest := []) (z := b2i (decide (0 ≤ x) && decide (x ≤ 1))) rfl rfl rfl (q_isIn x 0 1) ?_
  refine Pv.if0 rfl (fun c1 => ?_) (fun c1 => ?_)
  · skip
    replace c1 : decide (b2i (decide (0 ≤ x) && decide (x ≤ 1)) = 0) = false := by simpa using c1
    replace c1 := of_decide_eq_false c1
    replace c1 := b2n.mp c1
    exact absurd ((nd_in2 (n := 2) (m := 1) (x := x) rfl (by decide)).symm.trans c1) (by rw [h]; decide)
  · skip
    replace c1 : decide (b2i (decide (0 ≤ x) && decide (x ≤ 1)) = 0) = true := by simpa using c1
    replace c1 := of_decide_eq_true c1
    replace c1 := b2z.mp c1
    refine Pv.lit rfl ?_
    exact Pv.zret rfl (by rw [hQ]; exact ⟨rfl, rfl⟩)
set_option maxRecDepth 100000 in
set_option maxHeartbeats 4000000 in
theorem q_restore_y {F : FW} {k : Nat} {b : Int32} (hG : GW F) (hk : k < 2) (hb : F.1 86 k = b) (hb1 : ¬ b = 0) : Pm Z_X11_restore [.ref 69, .int (Int32.ofNat k)] F (fun r F' => r = some (.int 1) ∧ FX (fun q => q = 69 ∨ q = 71 ∨ q = 74) F F' ∧ (∀ j, j < 434 → F'.1 71 j = F.1 84 (434 * k + j)) ∧ (∀ j, j ≠ 0 → j ≠ 25 → F'.1 69 j = F.1 69 j) ∧ F'.1 69 25 = 0 ∧ (∀ j, j < 14 → F'.2.2.1 74 j = F.2.2.1 85 (14 * k + j)) ∧ ∀ j, 14 ≤ j → F'.2.2.1 74 j = F.2.2.1 74 j) := by
  refine Pm.of fun N => ?_
  obtain ⟨Q, hQ⟩ : ∃ Q : Option Value → FW → Prop, Q = (fun r F' => r = some (.int 1) ∧ FX (fun q => q = 69 ∨ q = 71 ∨ q = 74) F F' ∧ (∀ j, j < 434 → F'.1 71 j = F.1 84 (434 * k + j)) ∧ (∀ j, j ≠ 0 → j ≠ 25 → F'.1 69 j = F.1 69 j) ∧ F'.1 69 25 = 0 ∧ (∀ j, j < 14 → F'.2.2.1 74 j = F.2.2.1 85 (14 * k + j)) ∧ ∀ j, 14 ≤ j → F'.2.2.1 74 j = F.2.2.1 74 j) := ⟨_, rfl⟩
  rw [← hQ]
  refine (show Pv (ab_T (L_X11_restore Z_X11_isIn)) N 0 [some (.ref 69), some (.int (Int32.ofNat k)), none] [] F Q from ?_)
  refine Pv.aload rfl rfl ?_
  refine Pv.lit rfl ?_
  refine Pv.putI rfl rfl ?_
  refine Pv.iload rfl rfl ?_
  refine Pv.lit rfl ?_
  refine Pv.lit rfl ?_
  refine Pv.callI (as := [.int (Int32.ofNat k), .int 0, .int 1]) (rest := []) (z := b2i (decide (0 ≤ (Int32.ofNat k)) && decide ((Int32.ofNat k) ≤ 1))) rfl rfl rfl (q_isIn (Int32.ofNat k) 0 1) ?_
  refine Pv.if0 rfl (fun c1 => ?_) (fun c1 => ?_)
  · skip
    replace c1 := of_decide_eq_true c1
    replace c1 := b2z.mp c1
    exact absurd ((nd_in2 (n := 2) (m := 1) (x := Int32.ofNat k) rfl (by decide)).symm.trans c1) (by rw [nd_of (by omega) (by decide)]; exact Bool.noConfusion)
  · skip
    replace c1 := of_decide_eq_false c1
    replace c1 := b2n.mp c1
    refine Pv.aload rfl rfl ?_
    refine Pv.getR (v := .ref 86) rfl rfl (GW.at (a := 69) (k := 42) (b := 86) hG (by decide)) ?_
    refine Pv.iload rfl rfl ?_
    refine Pv.ald (z := b) rfl (by rw [i_toNat (by omega)]; exact (fp_ne (Or.inl (by decide))).trans (hb)) ?_
    refine Pv.if0 rfl (fun c2 => ?_) (fun c2 => ?_)
    · skip
      replace c2 : decide (b = 0) = false := by simpa using c2
      replace c2 := of_decide_eq_false c2
      refine Pv.lit rfl ?_
      refine Pv.istore (lo' := [some (.ref 69), some (.int (Int32.ofNat k)), some (.int 0)]) rfl rfl ?_
      refine Pv.lp (ι := Nat × FW) (lof := fun ⟨i, G⟩ => [some (.ref 69), some (.int (Int32.ofNat k)), some (.int (Int32.ofNat i))]) (Ff := fun ⟨i, G⟩ => G) (P := fun ⟨i, G⟩ => (i ≤ 434) ∧ (FX (fun q => q = 69 ∨ q = 71 ∨ q = 74) F G) ∧ (∀ j, j < i → G.1 71 j = F.1 84 (434 * k + j)) ∧ (∀ j, j ≠ 0 → G.1 69 j = F.1 69 j) ∧ (∀ j, G.2.2.1 74 j = F.2.2.1 74 j)) ?_ (0, (fp F 69 0 0)) (⟨Nat.zero_le _, (FX.fp (FX.rf (P := fun q => q = 69 ∨ q = 71 ∨ q = 74)) (Or.inl rfl)), fun j hj => absurd hj (Nat.not_lt_zero j), fun j hj => fp_ne (Or.inr hj), fun _ => rfl⟩)
      rintro N3 hN4 ⟨i, G⟩ hi5 ih6
      refine (show Pv _ _ 27 [some (.ref 69), some (.int (Int32.ofNat k)), some (.int (Int32.ofNat i))] [] G Q from ?_)
      obtain ⟨hi0, hxG, hA, hC, hE⟩ := hi5
      have hx7 := GW.fx hG hxG
      refine Pv.iloadS rfl rfl ?_
      refine Pv.lit rfl ?_
      refine Pv.icmp rfl (fun c8 => ?_) (fun c8 => ?_)
      · skip
        replace c8 := (i_le (a := 434) (b := i) (by omega) (by omega)).mp (of_decide_eq_true c8)
        refine Pv.lit rfl ?_
        refine Pv.istore (lo' := [some (.ref 69), some (.int (Int32.ofNat k)), some (.int 0)]) rfl rfl ?_
        refine Pv.lp (ι := Nat × FW) (lof := fun ⟨i, G2⟩ => [some (.ref 69), some (.int (Int32.ofNat k)), some (.int (Int32.ofNat i))]) (Ff := fun ⟨i, G2⟩ => G2) (P := fun ⟨i, G2⟩ => (i ≤ 14) ∧ (FX (fun q => q = 69 ∨ q = 71 ∨ q = 74) F G2) ∧ (∀ j, j < 434 → G2.1 71 j = F.1 84 (434 * k + j)) ∧ (∀ j, j ≠ 0 → G2.1 69 j = F.1 69 j) ∧ (∀ j, j < i → G2.2.2.1 74 j = F.2.2.1 85 (14 * k + j)) ∧ (∀ j, 14 ≤ j → G2.2.2.1 74 j = F.2.2.1 74 j)) ?_ (0, G) (⟨Nat.zero_le _, hxG, fun j hj => hA j (by omega), hC, fun j hj => absurd hj (Nat.not_lt_zero j), fun j _ => hE j⟩)
        rintro N9 hN10 ⟨i, G2⟩ hi11 ih12
        refine (show Pv _ _ 60 [some (.ref 69), some (.int (Int32.ofNat k)), some (.int (Int32.ofNat i))] [] G2 Q from ?_)
        obtain ⟨hi0, hxG2, hA, hC, hE, hH⟩ := hi11
        have hx13 := GW.fx hG hxG2
        refine Pv.iloadS rfl rfl ?_
        refine Pv.lit rfl ?_
        refine Pv.icmp rfl (fun c14 => ?_) (fun c14 => ?_)
        · skip
          replace c14 := (i_le (a := 14) (b := i) (by omega) (by omega)).mp (of_decide_eq_true c14)
          refine Pv.aload rfl rfl ?_
          refine Pv.lit rfl ?_
          refine Pv.putI rfl rfl ?_
          refine Pv.lit rfl ?_
          exact Pv.zret rfl (by rw [hQ]; exact ⟨rfl, hxG2.fp (Or.inl rfl), fun j hj => (fp_ne (Or.inl (by decide))).trans (hA j hj), fun j h1 h2 => (fp_ne (Or.inr h2)).trans (hC j h1), fp_eq, fun j hj => hE j (by omega), hH⟩)
        · skip
          replace c14 := mt (i_le (a := 14) (b := i) (by omega) (by omega)).mpr (of_decide_eq_false c14)
          refine Pv.aload rfl rfl ?_
          refine Pv.getR (v := .ref 74) rfl rfl (GW.at (a := 69) (k := 9) (b := 74) hx13 (by decide)) ?_
          refine Pv.iload rfl rfl ?_
          refine Pv.aload rfl rfl ?_
          refine Pv.getR (v := .ref 85) rfl rfl (GW.at (a := 69) (k := 41) (b := 85) hx13 (by decide)) ?_
          refine Pv.lit rfl ?_
          refine Pv.iload rfl rfl ?_
          refine Pv.bin (z := Int32.ofNat (14 * k)) rfl (i_mul 14 k) ?_
          refine Pv.iload rfl rfl ?_
          refine Pv.bin (z := Int32.ofNat ((14 * k) + i)) rfl (i_add (14 * k) i) ?_
          refine Pv.lald (z := F.2.2.1 85 ((14 * k) + i)) rfl (by rw [i_toNat (by omega)]; exact hxG2.2.1 85 _ (by decide)) ?_
          refine Pv.lastk (k := i) rfl (i_toNat (by omega)) ?_
          refine Pv.iinc (y := Int32.ofNat (i + 1)) (lo' := [some (.ref 69), some (.int (Int32.ofNat k)), some (.int (Int32.ofNat (i + 1)))]) rfl rfl (i_add i 1) rfl ?_
          refine Pv.goto rfl ?_
          exact ih12 (i + 1, (fpl G2 74 i (F.2.2.1 85 ((14 * k) + i)))) (⟨by omega, (FX.fpl hxG2 (Or.inr (Or.inr rfl))), hA, hC, fun j hj => Or.elim (Classical.em (j = i)) (fun e => by rw [e]; exact fpl_eq) (fun e => (fpl_ne (Or.inr (by omega))).trans (hE j (by omega))), fun j hj => (fpl_ne (Or.inr (by omega))).trans (hH j hj)⟩)
      · skip
        replace c8 := mt (i_le (a := 434) (b := i) (by omega) (by omega)).mpr (of_decide_eq_false c8)
        refine Pv.aload rfl rfl ?_
        refine Pv.getR (v := .ref 71) rfl rfl (GW.at (a := 69) (k := 6) (b := 71) hx7 (by decide)) ?_
        refine Pv.iload rfl rfl ?_
        refine Pv.aload rfl rfl ?_
        refine Pv.getR (v := .ref 84) rfl rfl (GW.at (a := 69) (k := 40) (b := 84) hx7 (by decide)) ?_
        refine Pv.lit rfl ?_
        refine Pv.iload rfl rfl ?_
        refine Pv.bin (z := Int32.ofNat (434 * k)) rfl (i_mul 434 k) ?_
        refine Pv.iload rfl rfl ?_
        refine Pv.bin (z := Int32.ofNat ((434 * k) + i)) rfl (i_add (434 * k) i) ?_
        refine Pv.ald (z := F.1 84 ((434 * k) + i)) rfl (by rw [i_toNat (by omega)]; exact hxG.1 84 _ (by decide)) ?_
        refine Pv.astk (k := i) (z := F.1 84 ((434 * k) + i)) rfl (i_toNat (by omega)) (rfl) ?_
        refine Pv.iinc (y := Int32.ofNat (i + 1)) (lo' := [some (.ref 69), some (.int (Int32.ofNat k)), some (.int (Int32.ofNat (i + 1)))]) rfl rfl (i_add i 1) rfl ?_
        refine Pv.goto rfl ?_
        exact ih6 (i + 1, (fp G 71 i (F.1 84 ((434 * k) + i)))) (⟨by omega, (FX.fp hxG (Or.inr (Or.inl rfl))), fun j hj => Or.elim (Classical.em (j = i)) (fun e => by rw [e]; exact fp_eq) (fun e => (fp_ne (Or.inr (by omega))).trans (hA j (by omega))), fun j hj => (fp_ne (Or.inl (by decide))).trans (hC j hj), hE⟩)
    · skip
      replace c2 : decide (b = 0) = true := by simpa using c2
      replace c2 := of_decide_eq_true c2
      exact absurd c2 hb1
set_option maxRecDepth 100000 in
set_option maxHeartbeats 4000000 in
theorem q_restore_z {F : FW} {k : Nat} {b : Int32} (hG : GW F) (hk : k < 2) (hb : F.1 86 k = b) (hb0 : b = 0) : Pm Z_X11_restore [.ref 69, .int (Int32.ofNat k)] F (fun r F' => r = some (.int 0) ∧ F' = fp F 69 0 0) := by
  refine Pm.of fun N => ?_
  obtain ⟨Q, hQ⟩ : ∃ Q : Option Value → FW → Prop, Q = (fun r F' => r = some (.int 0) ∧ F' = fp F 69 0 0) := ⟨_, rfl⟩
  rw [← hQ]
  refine (show Pv (ab_T (L_X11_restore Z_X11_isIn)) N 0 [some (.ref 69), some (.int (Int32.ofNat k)), none] [] F Q from ?_)
  refine Pv.aload rfl rfl ?_
  refine Pv.lit rfl ?_
  refine Pv.putI rfl rfl ?_
  refine Pv.iload rfl rfl ?_
  refine Pv.lit rfl ?_
  refine Pv.lit rfl ?_
  refine Pv.callI (as := [.int (Int32.ofNat k), .int 0, .int 1]) (rest := []) (z := b2i (decide (0 ≤ (Int32.ofNat k)) && decide ((Int32.ofNat k) ≤ 1))) rfl rfl rfl (q_isIn (Int32.ofNat k) 0 1) ?_
  refine Pv.if0 rfl (fun c1 => ?_) (fun c1 => ?_)
  · skip
    replace c1 := of_decide_eq_true c1
    replace c1 := b2z.mp c1
    exact absurd ((nd_in2 (n := 2) (m := 1) (x := Int32.ofNat k) rfl (by decide)).symm.trans c1) (by rw [nd_of (by omega) (by decide)]; exact Bool.noConfusion)
  · skip
    replace c1 := of_decide_eq_false c1
    replace c1 := b2n.mp c1
    refine Pv.aload rfl rfl ?_
    refine Pv.getR (v := .ref 86) rfl rfl (GW.at (a := 69) (k := 42) (b := 86) hG (by decide)) ?_
    refine Pv.iload rfl rfl ?_
    refine Pv.ald (z := b) rfl (by rw [i_toNat (by omega)]; exact (fp_ne (Or.inl (by decide))).trans (hb)) ?_
    refine Pv.if0 rfl (fun c2 => ?_) (fun c2 => ?_)
    · skip
      replace c2 : decide (b = 0) = false := by simpa using c2
      replace c2 := of_decide_eq_false c2
      exact absurd hb0 c2
    · skip
      replace c2 : decide (b = 0) = true := by simpa using c2
      replace c2 := of_decide_eq_true c2
      refine Pv.lit rfl ?_
      exact Pv.zret rfl (by rw [hQ]; exact ⟨rfl, rfl⟩)
set_option maxRecDepth 100000 in
set_option maxHeartbeats 4000000 in
theorem q_restore_n {F : FW} {x : Int32} (h : nd 2 x = none) : Pm Z_X11_restore [.ref 69, .int x] F (fun r F' => r = some (.int 0) ∧ F' = fp F 69 0 0) := by
  refine Pm.of fun N => ?_
  obtain ⟨Q, hQ⟩ : ∃ Q : Option Value → FW → Prop, Q = (fun r F' => r = some (.int 0) ∧ F' = fp F 69 0 0) := ⟨_, rfl⟩
  rw [← hQ]
  refine (show Pv (ab_T (L_X11_restore Z_X11_isIn)) N 0 [some (.ref 69), some (.int x), none] [] F Q from ?_)
  refine Pv.aload rfl rfl ?_
  refine Pv.lit rfl ?_
  refine Pv.putI rfl rfl ?_
  refine Pv.iload rfl rfl ?_
  refine Pv.lit rfl ?_
  refine Pv.lit rfl ?_
  refine Pv.callI (as := [.int x, .int 0, .int 1]) (rest := []) (z := b2i (decide (0 ≤ x) && decide (x ≤ 1))) rfl rfl rfl (q_isIn x 0 1) ?_
  refine Pv.if0 rfl (fun c1 => ?_) (fun c1 => ?_)
  · skip
    replace c1 := of_decide_eq_true c1
    replace c1 := b2z.mp c1
    refine Pv.lit rfl ?_
    exact Pv.zret rfl (by rw [hQ]; exact ⟨rfl, rfl⟩)
  · skip
    replace c1 := of_decide_eq_false c1
    replace c1 := b2n.mp c1
    exact absurd ((nd_in2 (n := 2) (m := 1) (x := x) rfl (by decide)).symm.trans c1) (by rw [h]; decide)
end
-- 63.b75.rd.lean.txt
section
/-! ===== the reference reads a TOKEN ===== -/
def bI (F : FW) (q : Nat) : Int32 := F.1 70 q &&& 255
def RBF (F : FW) (n : Nat) : Nat → Int := fun q => if q < n then (bI F q).toInt else 0
def pkw (F : FW) (n p : Nat) : Int32 := if p < n then bI F p else -1
def smL (x : Int32) : Bool := decide (97 ≤ x) && decide (x ≤ 122)
def dgL (x : Int32) : Bool := decide (48 ≤ x) && decide (x ≤ 57)
/-- cells of the reading: place in the tape, kind, place, length, number -/
def RNX (F G : FW) : Prop := FX (fun q => q = 69) F G ∧ (∀ k, k ≠ 4 → k ≠ 11 → k ≠ 12 → k ≠ 13 → k ≠ 14 → G.1 69 k = F.1 69 k) ∧ ∀ k, k ≠ 17 → G.2.2.1 69 k = F.2.2.1 69 k
theorem RNX.rf {F : FW} : RNX F F := ⟨FX.rf, fun _ _ _ _ _ _ => rfl, fun _ _ => rfl⟩
theorem RNX.tr {F G K : FW} (a : RNX F G) (b : RNX G K) : RNX F K := ⟨a.1.tr b.1, fun k h1 h2 h3 h4 h5 => (b.2.1 k h1 h2 h3 h4 h5).trans (a.2.1 k h1 h2 h3 h4 h5), fun k h => (b.2.2 k h).trans (a.2.2 k h)⟩
theorem RNX.fp {F G : FW} {k : Nat} {v : Int32} (h : RNX F G) (c : k = 4 ∨ k = 11 ∨ k = 12 ∨ k = 13 ∨ k = 14) : RNX F (fp G 69 k v) := ⟨h.1.fp rfl, fun j h1 h2 h3 h4 h5 => (fp_ne (Or.inr (by omega))).trans (h.2.1 j h1 h2 h3 h4 h5), h.2.2⟩
theorem RNX.fl {F G : FW} {v : Int64} (h : RNX F G) : RNX F (fpl G 69 17 v) := ⟨h.1.fpl rfl, h.2.1, fun j c => (fpl_ne (Or.inr c)).trans (h.2.2 j c)⟩
theorem RNX.G {F G : FW} (h : RNX F G) (g : GW F) : GW G := g.fx h.1
def NTF (F : FW) (T : TT) : Prop := (F.1 69 12).toInt = T.pl ∧ F.1 69 4 = Int32.ofNat T.nx ∧ (F.1 69 11).toInt = rkk T.k ∧ (rkk T.k = 2 → (F.1 69 14).toInt = T.v) ∧ (rkk T.k = 3 → (F.1 69 14).toInt = T.k) ∧ (rkk T.k = 1 → (F.2.2.1 69 17).toInt = T.v)
theorem fp_id {F : FW} {a k : Nat} {x : Int32} (h : F.1 a k = x) : F = fp F a k x := Prod.ext (funext fun p => funext fun j => by
  show F.1 p j = if p = a ∧ j = k then x else F.1 p j
  by_cases c : p = a ∧ j = k
  · rw [if_pos c, c.1, c.2, h]
  · rw [if_neg c]) rfl
theorem RB_lt {F : FW} {n q : Nat} (h : q < n) : RBF F n q = (bI F q).toInt := if_pos h
theorem RB_b (F : FW) (n q : Nat) : 0 ≤ RBF F n q ∧ RBF F n q ≤ 255 := by
  unfold RBF
  by_cases h : q < n
  · rw [if_pos h]
    exact oct_b _
  · rw [if_neg h]
    omega
theorem pkw_lt {F : FW} {n q : Nat} (h : q < n) : pkw F n q = bI F q := if_pos h
theorem pkw_ge {F : FW} {n q : Nat} (h : n ≤ q) : pkw F n q = -1 := if_neg (by omega)
theorem pkw_in {F : FW} {n q : Nat} {x : Int32} (h : pkw F n q = x) (hx : 0 ≤ x.toInt) : q < n ∧ RBF F n q = x.toInt := by
  by_cases c : q < n
  · rw [pkw_lt c] at h
    exact ⟨c, by rw [RB_lt c, h]⟩
  · rw [pkw_ge (by omega)] at h
    rw [← h] at hx
    exact absurd hx (by decide)
theorem pkw_to {F : FW} {n q : Nat} (h : q < n) : (pkw F n q).toInt = RBF F n q := by rw [pkw_lt h, RB_lt h]
theorem pkw_nb {F : FW} {n q : Nat} (h1 : ¬ pkw F n q = 32) (h2 : ¬ pkw F n q = 10) : n ≤ q ∨ tk_b (RBF F n q) = false := by
  by_cases c : q < n
  · refine Or.inr (tk_b_f (fun e => h1 ?_) (fun e => h2 ?_))
    · exact Int32.toInt_inj.mp ((pkw_to c).trans e)
    · exact Int32.toInt_inj.mp ((pkw_to c).trans e)
  · exact Or.inl (by omega)
theorem sm_t {F : FW} {n q : Nat} (h : smL (pkw F n q) = true) : q < n ∧ tk_l (RBF F n q) = true := by
  unfold smL at h
  rw [Bool.and_eq_true, decide_eq_true_eq, decide_eq_true_eq, Int32.le_iff_toInt_le, Int32.le_iff_toInt_le] at h
  have e1 : (97 : Int32).toInt = 97 := rfl
  have e2 : (122 : Int32).toInt = 122 := rfl
  by_cases c : q < n
  · rw [pkw_to c] at h
    exact ⟨c, tk_l_t (by omega) (by omega)⟩
  · rw [pkw_ge (by omega)] at h
    have e3 : (-1 : Int32).toInt = -1 := rfl
    omega
theorem sm_f {F : FW} {n q : Nat} (c : q < n) (h : smL (pkw F n q) = false) : tk_l (RBF F n q) = false := by
  cases e : tk_l (RBF F n q) with
  | false => rfl
  | true =>
    have b := tk_l_i e
    have e1 : (97 : Int32).toInt = 97 := rfl
    have e2 : (122 : Int32).toInt = 122 := rfl
    unfold smL at h
    rw [decide_eq_true (show (97 : Int32) ≤ pkw F n q from by rw [Int32.le_iff_toInt_le, pkw_to c]; omega), decide_eq_true (show pkw F n q ≤ (122 : Int32) from by rw [Int32.le_iff_toInt_le, pkw_to c]; omega)] at h
    cases h
theorem dg_t {F : FW} {n q : Nat} (h : dgL (pkw F n q) = true) : q < n ∧ tk_d (RBF F n q) = true := by
  unfold dgL at h
  rw [Bool.and_eq_true, decide_eq_true_eq, decide_eq_true_eq, Int32.le_iff_toInt_le, Int32.le_iff_toInt_le] at h
  have e1 : (48 : Int32).toInt = 48 := rfl
  have e2 : (57 : Int32).toInt = 57 := rfl
  by_cases c : q < n
  · rw [pkw_to c] at h
    exact ⟨c, tk_d_t (by omega) (by omega)⟩
  · rw [pkw_ge (by omega)] at h
    have e3 : (-1 : Int32).toInt = -1 := rfl
    omega
theorem dg_f {F : FW} {n q : Nat} (c : q < n) (h : dgL (pkw F n q) = false) : tk_d (RBF F n q) = false := by
  cases e : tk_d (RBF F n q) with
  | false => rfl
  | true =>
    have b := tk_d_i e
    have e1 : (48 : Int32).toInt = 48 := rfl
    have e2 : (57 : Int32).toInt = 57 := rfl
    unfold dgL at h
    rw [decide_eq_true (show (48 : Int32) ≤ pkw F n q from by rw [Int32.le_iff_toInt_le, pkw_to c]; omega), decide_eq_true (show pkw F n q ≤ (57 : Int32) from by rw [Int32.le_iff_toInt_le, pkw_to c]; omega)] at h
    cases h
/-- not a letter, not a digit: the run is at its end -/
theorem rn_stop {F : FW} {n q : Nat} (h1 : smL (pkw F n q) = false) (h2 : dgL (pkw F n q) = false) : n ≤ q ∨ tk_r (RBF F n q) = false := by
  by_cases c : q < n
  · exact Or.inr (tk_r_f (sm_f c h1) (dg_f c h2))
  · exact Or.inl (by omega)
def cls (sm : Bool) : Int → Bool := cond sm tk_l tk_d
theorem cls_eq {c : Int} (sm : Bool) (h : tk_r c = true) : cls sm c = (tk_l c == sm) := by
  unfold cls
  cases sm with
  | true =>
    show tk_l c = _
    cases tk_l c <;> rfl
  | false =>
    cases e : tk_l c with
    | true =>
      show tk_d c = _
      rw [tk_ld e]
      rfl
    | false =>
      show tk_d c = _
      unfold tk_r at h
      rw [e, Bool.false_or] at h
      rw [h]
      rfl
theorem b2i_inj {a b : Bool} : b2i a = b2i b ↔ a = b := by
  cases a <;> cases b <;> decide
theorem all_s {B : Nat → Int} {q m : Nat} {sm : Bool} : allP (cls sm) B q (m + 1) = (allP (cls sm) B q m && cls sm (B (q + m))) := rfl
/-- what the run is -/
theorem run_no {B : Nat → Int} {q m : Nat} {sm : Bool} (hm : 1 ≤ m) (hsm : cls sm (B q) = true) (h : allP (cls sm) B q m = false ∨ (cond sm 7 3) < m) : trn B q m = ⟨1, q, 0, q + m⟩ := by
  unfold trn
  cases sm with
  | true =>
    have hl : tk_l (B q) = true := hsm
    rw [if_neg (fun c => ?_), if_neg (fun c => ?_)]
    · have := allP_0 c.1 hm
      rw [tk_ld hl] at this
      cases this
    · rcases h with h | h
      · exact absurd c.1 (by rw [show allP tk_l B q m = false from h]; decide)
      · have h' : 7 < m := h
        exact absurd c.2 (by omega)
  | false =>
    have hl : tk_d (B q) = true := hsm
    rw [if_neg (fun c => ?_), if_neg (fun c => ?_)]
    · rcases h with h | h
      · exact absurd c.1 (by rw [show allP tk_d B q m = false from h]; decide)
      · have h' : 3 < m := h
        exact absurd c.2 (by omega)
    · have := allP_0 c.1 hm
      rw [tk_dl hl] at this
      cases this
theorem run_l {B : Nat → Int} {q m : Nat} (h : allP (cls true) B q m = true) (hm : m ≤ 7) : trn B q m = ⟨kw (pv B q m), q, wd B q m, q + m⟩ := if_pos ⟨h, hm⟩
theorem run_d {B : Nat → Int} {q m : Nat} (h1 : 1 ≤ m) (hd : tk_d (B q) = true) (h : allP (cls false) B q m = true) (hm : m ≤ 3) : trn B q m = ⟨3, q, nb B q m, q + m⟩ := by
  unfold trn
  rw [if_neg (fun c => ?_)]
  · exact if_pos ⟨h, hm⟩
  · have := allP_0 c.1 h1
    rw [tk_dl hd] at this
    cases this
theorem or8 {w : Int64} {x : Int32} {B : Nat → Int} {q m : Nat} (hB : ∀ q, 0 ≤ B q ∧ B q ≤ 255) (hw : w.toInt = wd B q m) (hm : m ≤ 6) (hx : x.toInt = B (q + m)) : ((w <<< (Int32.toInt64 8 &&& 63)) ||| Int32.toInt64 x).toInt = wd B q (m + 1) := by
  have b := wd_48 hB (q := q) (l := m) hm
  have c := hB (q + m)
  have e := l_or8 (w := w) (c := Int32.toInt64 x) (y := 8) rfl (by omega) (by omega) (by rw [Int32.toInt_toInt64]; omega) (by rw [Int32.toInt_toInt64]; omega)
  rw [e, Int32.toInt_toInt64, hw, hx]
  rfl
theorem num3 {x c : Int32} {B : Nat → Int} {q m : Nat} (h : x.toInt = nb B q m) (hd : allP tk_d B q m = true) (hm : m ≤ 2) (hc : c.toInt = B (q + m)) (hB : ∀ q, 0 ≤ B q ∧ B q ≤ 255) : (10 * x + c - 48).toInt = nb B q (m + 1) := by
  have r := nb_rng hd (by omega)
  have c2 := hB (q + m)
  have e10 : (10 : Int32).toInt = 10 := rfl
  have e48 : (48 : Int32).toInt = 48 := rfl
  have e1 : (10 * x).toInt = 10 * x.toInt := by
    rw [Int32.toInt_mul, e10]
    exact Int.bmod_eq_of_le (by omega) (by omega)
  have e2 : (10 * x + c).toInt = 10 * x.toInt + c.toInt := by rw [i_addI (by omega) (by omega), e1]
  rw [i_subI (by omega) (by omega), e2, e48]
  show _ = nb B q m * 10 + (B (q + m) - 48)
  omega
theorem sg_y {F : FW} {n q : Nat} {x : Int32} (hq : q < n) (h : pkw F n q = x) (hx : x.toInt = 59 ∨ x.toInt = 40 ∨ x.toInt = 41 ∨ (60 ≤ x.toInt ∧ x.toInt ≤ 62)) : tsg (RBF F n q) = RBF F n q ∧ rkk (RBF F n q) = 3 := by
  have e : RBF F n q = x.toInt := by rw [← pkw_to hq, h]
  rw [e]
  exact rkk_yes hx
theorem sm_eq {F : FW} {n q : Nat} (h : q < n) : smL (pkw F n q) = tk_l (RBF F n q) := by
  cases e : smL (pkw F n q) with
  | true => rw [(sm_t e).2]
  | false => rw [sm_f h e]
theorem all_z {B : Nat → Int} {q m : Nat} {sm : Bool} (h : b2i (allP (cls sm) B q m) = 0) : 0 = b2i (allP (cls sm) B q (m + 1)) := by
  rw [all_s, b2z.mp h]
  rfl
theorem all_y {B : Nat → Int} {q m : Nat} {sm : Bool} (h : ¬ b2i (allP (cls sm) B q m) = 0) (hr : tk_r (B (q + m)) = true) (e : tk_l (B (q + m)) = sm) : 1 = b2i (allP (cls sm) B q (m + 1)) := by
  rw [all_s, b2n.mp h, cls_eq sm hr, e, Bool.true_and]
  cases sm <;> rfl
theorem all_n {B : Nat → Int} {q m : Nat} {sm : Bool} (hr : tk_r (B (q + m)) = true) (e : ¬ tk_l (B (q + m)) = sm) : 0 = b2i (allP (cls sm) B q (m + 1)) := by
  have e2 : (tk_l (B (q + m)) == sm) = false := beq_eq_false_iff_ne.mpr e
  rw [all_s, cls_eq sm hr, e2, Bool.and_false]
  rfl
theorem all_1 {B : Nat → Int} {q m : Nat} (h : allP (cls false) B q (m + 1) = true) : allP (cls false) B q m = true := by
  rw [all_s, Bool.and_eq_true] at h
  exact h.1
theorem pkw_neg {F : FW} {n q : Nat} (h : ¬ 0 ≤ pkw F n q) : n ≤ q := by
  by_cases c : q < n
  · refine absurd ?_ h
    rw [Int32.le_iff_toInt_le, pkw_to c]
    exact (RB_b F n q).1
  · omega
theorem pkw_pos {F : FW} {n q : Nat} (h : 0 ≤ pkw F n q) : q < n := by
  by_cases c : q < n
  · exact c
  · rw [pkw_ge (by omega)] at h
    exact absurd h (by decide)
theorem sg_3 {F : FW} {n q : Nat} (hq : q < n) (h1 : ¬ pkw F n q < 60) (h2 : ¬ (62 : Int32) < pkw F n q) : tsg (RBF F n q) = RBF F n q ∧ rkk (RBF F n q) = 3 := by
  rw [Int32.lt_iff_toInt_lt] at h1 h2
  have e1 : (60 : Int32).toInt = 60 := rfl
  have e2 : (62 : Int32).toInt = 62 := rfl
  exact sg_y hq rfl (Or.inr (Or.inr (Or.inr ⟨by omega, by omega⟩)))
theorem sg_n {F : FW} {n q : Nat} (hq : q < n) (h1 : ¬ pkw F n q = 59) (h2 : ¬ pkw F n q = 40) (h3 : ¬ pkw F n q = 41) (h4 : pkw F n q < 60 ∨ (62 : Int32) < pkw F n q) : rkk (tsg (RBF F n q)) = 4 := by
  refine rkk_no (fun c => ?_)
  rw [← pkw_to hq] at c
  have e1 : (60 : Int32).toInt = 60 := rfl
  have e2 : (62 : Int32).toInt = 62 := rfl
  rw [Int32.lt_iff_toInt_lt, Int32.lt_iff_toInt_lt] at h4
  rcases c with c | c | c | c
  · exact h1 (Int32.toInt_inj.mp c)
  · exact h2 (Int32.toInt_inj.mp c)
  · exact h3 (Int32.toInt_inj.mp c)
  · omega
end
-- 63.b75a.lean.txt
section
set_option maxRecDepth 100000 in
set_option maxHeartbeats 4000000 in
theorem g_isSmall {F : FW} (x : Int32) : Pm Z_X11_isSmall [.int x] F (fun r F' => r = some (.int (b2i (smL x))) ∧ F' = F) := by
  refine Pm.of fun N => ?_
  obtain ⟨Q, hQ⟩ : ∃ Q : Option Value → FW → Prop, Q = (fun r F' => r = some (.int (b2i (smL x))) ∧ F' = F) := ⟨_, rfl⟩
  rw [← hQ]
  refine (show Pv (ab_T L_X11_isSmall) N 0 [some (.int x)] [] F Q from ?_)
  refine Pv.iload rfl rfl ?_
  refine Pv.lit rfl ?_
  refine Pv.icmp rfl (fun c1 => ?_) (fun c1 => ?_)
  · skip
    replace c1 := of_decide_eq_true c1
    refine Pv.lit rfl ?_
    exact Pv.zret rfl (by rw [hQ]; exact ⟨b2_f (by unfold smL; rw [decide_eq_false (Int32.not_le.mpr c1)]; rfl), rfl⟩)
  · skip
    replace c1 := of_decide_eq_false c1
    refine Pv.iload rfl rfl ?_
    refine Pv.lit rfl ?_
    refine Pv.icmp rfl (fun c2 => ?_) (fun c2 => ?_)
    · skip
      replace c2 := of_decide_eq_true c2
      refine Pv.lit rfl ?_
      exact Pv.zret rfl (by rw [hQ]; exact ⟨b2_f (by unfold smL; rw [decide_eq_false (Int32.not_le.mpr c2), Bool.and_false]), rfl⟩)
    · skip
      replace c2 := of_decide_eq_false c2
      refine Pv.lit rfl ?_
      refine Pv.goto rfl ?_
      exact Pv.zret rfl (by rw [hQ]; exact ⟨b2_t (by unfold smL; rw [decide_eq_true (Int32.not_lt.mp c1), decide_eq_true (Int32.not_lt.mp c2)]; rfl), rfl⟩)
set_option maxRecDepth 100000 in
set_option maxHeartbeats 4000000 in
theorem g_isDigit {F : FW} (x : Int32) : Pm Z_X11_isDigit [.int x] F (fun r F' => r = some (.int (b2i (dgL x))) ∧ F' = F) := by
  refine Pm.of fun N => ?_
  obtain ⟨Q, hQ⟩ : ∃ Q : Option Value → FW → Prop, Q = (fun r F' => r = some (.int (b2i (dgL x))) ∧ F' = F) := ⟨_, rfl⟩
  rw [← hQ]
  refine (show Pv (ab_T L_X11_isDigit) N 0 [some (.int x)] [] F Q from ?_)
  refine Pv.iload rfl rfl ?_
  refine Pv.lit rfl ?_
  refine Pv.icmp rfl (fun c1 => ?_) (fun c1 => ?_)
  · skip
    replace c1 := of_decide_eq_true c1
    refine Pv.lit rfl ?_
    exact Pv.zret rfl (by rw [hQ]; exact ⟨b2_f (by unfold dgL; rw [decide_eq_false (Int32.not_le.mpr c1)]; rfl), rfl⟩)
  · skip
    replace c1 := of_decide_eq_false c1
    refine Pv.iload rfl rfl ?_
    refine Pv.lit rfl ?_
    refine Pv.icmp rfl (fun c2 => ?_) (fun c2 => ?_)
    · skip
      replace c2 := of_decide_eq_true c2
      refine Pv.lit rfl ?_
      exact Pv.zret rfl (by rw [hQ]; exact ⟨b2_f (by unfold dgL; rw [decide_eq_false (Int32.not_le.mpr c2), Bool.and_false]), rfl⟩)
    · skip
      replace c2 := of_decide_eq_false c2
      refine Pv.lit rfl ?_
      refine Pv.goto rfl ?_
      exact Pv.zret rfl (by rw [hQ]; exact ⟨b2_t (by unfold dgL; rw [decide_eq_true (Int32.not_lt.mp c1), decide_eq_true (Int32.not_lt.mp c2)]; rfl), rfl⟩)
set_option maxRecDepth 100000 in
set_option maxHeartbeats 4000000 in
theorem g_peek {F F0 : FW} {p n : Nat} (hG : GW F) (h4 : F.1 69 4 = Int32.ofNat p) (h3 : F.1 69 3 = Int32.ofNat n) (hp : p ≤ 2000) (hn : n ≤ 940) (hB : ∀ q, F.1 70 q = F0.1 70 q) : Pm Z_X11_peek [.ref 69] F (fun r F' => r = some (.int (pkw F0 n p)) ∧ F' = F) := by
  refine Pm.of fun N => ?_
  obtain ⟨Q, hQ⟩ : ∃ Q : Option Value → FW → Prop, Q = (fun r F' => r = some (.int (pkw F0 n p)) ∧ F' = F) := ⟨_, rfl⟩
  rw [← hQ]
  refine (show Pv (ab_T L_X11_peek) N 0 [some (.ref 69)] [] F Q from ?_)
  refine Pv.aload rfl rfl ?_
  refine Pv.getI (z := Int32.ofNat p) rfl rfl (h4) ?_
  refine Pv.aload rfl rfl ?_
  refine Pv.getI (z := Int32.ofNat n) rfl rfl (h3) ?_
  refine Pv.icmp rfl (fun c1 => ?_) (fun c1 => ?_)
  · skip
    replace c1 := (i_le (a := n) (b := p) (by omega) (by omega)).mp (of_decide_eq_true c1)
    refine Pv.lit rfl ?_
    exact Pv.ret rfl (by rw [hQ]; exact ⟨by rw [pkw_ge (F := F0) (n := n) (q := p) (by omega)], rfl⟩)
  · skip
    replace c1 := mt (i_le (a := n) (b := p) (by omega) (by omega)).mpr (of_decide_eq_false c1)
    refine Pv.aload rfl rfl ?_
    refine Pv.getR (v := .ref 70) rfl rfl (GW.at (a := 69) (k := 1) (b := 70) hG (by decide)) ?_
    refine Pv.aload rfl rfl ?_
    refine Pv.getI (z := Int32.ofNat p) rfl rfl (h4) ?_
    refine Pv.ald (z := F0.1 70 p) rfl (by rw [i_toNat (by omega)]; exact hB _) ?_
    refine Pv.lit rfl ?_
    refine Pv.bin (z := (F0.1 70 p) &&& 255) rfl (rfl) ?_
    refine Pv.goto rfl ?_
    exact Pv.ret rfl (by rw [hQ]; exact ⟨by rw [pkw_lt (F := F0) (n := n) (q := p) (by omega)]; rfl, rfl⟩)
set_option maxRecDepth 100000 in
set_option maxHeartbeats 4000000 in
theorem g_nx298 {F F0 : FW} {B : Nat → Int} {q m : Nat} {sm al : Bool} {x : Int32} {w : Int64} (hG : GW F) (hx : RNX F0 F) (h4 : F.1 69 4 = Int32.ofNat (q + m)) (h12 : F.1 69 12 = Int32.ofNat q) (h13 : F.1 69 13 = Int32.ofNat m) (h14 : F.1 69 14 = x) (h17 : F.2.2.1 69 17 = w) (hm : 1 ≤ m) (hqm : q + m ≤ 940) (hsm : cls sm (B q) = true) (hal : al = allP (cls sm) B q m) (hw7 : m ≤ 7 → w.toInt = wd B q m) (hx3 : allP (cls false) B q m = true → m ≤ 3 → x.toInt = nb B q m) (o : Option Value) (N : Nat) : Pv (ab_T (L_X11_next Z_X11_peek Z_X11_isSmall Z_X11_isDigit)) N 298 [some (.ref 69), o, some (.int (b2i sm)), some (.int (b2i al))] [] F (fun r F' => r = none ∧ RNX F0 F' ∧ NTF F' (trn B q m)) := by
  obtain ⟨Q, hQ⟩ : ∃ Q : Option Value → FW → Prop, Q = (fun r F' => r = none ∧ RNX F0 F' ∧ NTF F' (trn B q m)) := ⟨_, rfl⟩
  rw [← hQ]
  refine (show Pv (ab_T (L_X11_next Z_X11_peek Z_X11_isSmall Z_X11_isDigit)) N 298 [some (.ref 69), o, some (.int (b2i sm)), some (.int (b2i al))] [] F Q from ?_)
  refine Pv.aload rfl rfl ?_
  refine Pv.iload rfl rfl ?_
  refine Pv.if0 rfl (fun c1 => ?_) (fun c1 => ?_)
  · skip
    replace c1 := of_decide_eq_true c1
    replace c1 := b2z.mp c1
    refine Pv.lit rfl ?_
    refine Pv.goto rfl ?_
    refine Pv.putI rfl rfl ?_
    have TK : trn B q m = ⟨1, q, 0, q + m⟩ := run_no hm hsm (Or.inl (hal.symm.trans c1))
    exact Pv.vret rfl (by rw [hQ]; exact ⟨rfl, RNX.fp hx (Or.inr (Or.inl rfl)), by rw [TK]; exact ⟨(congrArg Int32.toInt ((fp_ne (Or.inr (by decide))).trans (h12))).trans (i_toInt (by omega)), (fp_ne (Or.inr (by decide))).trans (h4), (congrArg Int32.toInt (fp_eq)).trans (rfl), fun e => absurd e (by show rkk 1 ≠ 2; decide), fun e => absurd e (by show rkk 1 ≠ 3; decide), fun e => absurd e (by show rkk 1 ≠ 1; decide)⟩⟩)
  · skip
    replace c1 := of_decide_eq_false c1
    replace c1 := b2n.mp c1
    refine Pv.aload rfl rfl ?_
    refine Pv.getI (z := Int32.ofNat m) rfl rfl (h13) ?_
    refine Pv.iload rfl rfl ?_
    refine Pv.if0 rfl (fun c2 => ?_) (fun c2 => ?_)
    · skip
      replace c2 := of_decide_eq_true c2
      replace c2 := b2z.mp c2
      refine Pv.lit rfl ?_
      refine Pv.icmp rfl (fun c3 => ?_) (fun c3 => ?_)
      · skip
        replace c3 := (i_le (a := m) (b := 3) (by omega) (by omega)).mp (of_decide_eq_true c3)
        refine Pv.iload rfl rfl ?_
        refine Pv.if0 rfl (fun c4 => ?_) (fun c4 => ?_)
        · skip
          replace c4 := of_decide_eq_true c4
          replace c4 := b2z.mp c4
          refine Pv.lit rfl ?_
          refine Pv.putI rfl rfl ?_
          have es : sm = false := c2
          subst es
          have ea : allP (cls false) B q m = true := hal.symm.trans c1
          have TK : trn B q m = ⟨3, q, nb B q m, q + m⟩ := run_d hm hsm ea (by omega)
          exact Pv.vret rfl (by rw [hQ]; exact ⟨rfl, RNX.fp hx (Or.inr (Or.inl rfl)), by rw [TK]; exact ⟨(congrArg Int32.toInt ((fp_ne (Or.inr (by decide))).trans (h12))).trans (i_toInt (by omega)), (fp_ne (Or.inr (by decide))).trans (h4), (congrArg Int32.toInt (fp_eq)).trans (rfl), fun _ => (congrArg Int32.toInt ((fp_ne (Or.inr (by decide))).trans (h14))).trans (hx3 ea (by omega)), fun e => absurd e (by show rkk 3 ≠ 3; decide), fun e => absurd e (by show rkk 3 ≠ 1; decide)⟩⟩)
        · skip
          replace c4 := of_decide_eq_false c4
          replace c4 := b2n.mp c4
          exact absurd (c2.symm.trans c4) (by decide)
      · skip
        replace c3 := mt (i_le (a := m) (b := 3) (by omega) (by omega)).mpr (of_decide_eq_false c3)
        refine Pv.lit rfl ?_
        refine Pv.goto rfl ?_
        refine Pv.putI rfl rfl ?_
        have es : sm = false := c2
        have TK : trn B q m = ⟨1, q, 0, q + m⟩ := run_no hm hsm (Or.inr (by rw [es]; exact (show 3 < m by omega)))
        exact Pv.vret rfl (by rw [hQ]; exact ⟨rfl, RNX.fp hx (Or.inr (Or.inl rfl)), by rw [TK]; exact ⟨(congrArg Int32.toInt ((fp_ne (Or.inr (by decide))).trans (h12))).trans (i_toInt (by omega)), (fp_ne (Or.inr (by decide))).trans (h4), (congrArg Int32.toInt (fp_eq)).trans (rfl), fun e => absurd e (by show rkk 1 ≠ 2; decide), fun e => absurd e (by show rkk 1 ≠ 3; decide), fun e => absurd e (by show rkk 1 ≠ 1; decide)⟩⟩)
    · skip
      replace c2 := of_decide_eq_false c2
      replace c2 := b2n.mp c2
      refine Pv.lit rfl ?_
      refine Pv.goto rfl ?_
      refine Pv.icmp rfl (fun c5 => ?_) (fun c5 => ?_)
      · skip
        replace c5 := (i_le (a := m) (b := 7) (by omega) (by omega)).mp (of_decide_eq_true c5)
        refine Pv.iload rfl rfl ?_
        refine Pv.if0 rfl (fun c6 => ?_) (fun c6 => ?_)
        · skip
          replace c6 := of_decide_eq_true c6
          replace c6 := b2z.mp c6
          exact absurd (c2.symm.trans c6) (by decide)
        · skip
          replace c6 := of_decide_eq_false c6
          replace c6 := b2n.mp c6
          refine Pv.lit rfl ?_
          refine Pv.goto rfl ?_
          refine Pv.putI rfl rfl ?_
          have es : sm = true := c2
          subst es
          have ea : allP (cls true) B q m = true := hal.symm.trans c1
          have TK : trn B q m = ⟨kw (pv B q m), q, wd B q m, q + m⟩ := run_l ea (by omega)
          exact Pv.vret rfl (by rw [hQ]; exact ⟨rfl, RNX.fp hx (Or.inr (Or.inl rfl)), by rw [TK]; exact ⟨(congrArg Int32.toInt ((fp_ne (Or.inr (by decide))).trans (h12))).trans (i_toInt (by omega)), (fp_ne (Or.inr (by decide))).trans (h4), (congrArg Int32.toInt (fp_eq)).trans ((show (1 : Int32).toInt = rkk (kw (pv B q m)) by rw [rkk_word]; rfl)), fun e => absurd e (by show rkk (kw (pv B q m)) ≠ 2; rw [rkk_word]; decide), fun e => absurd e (by show rkk (kw (pv B q m)) ≠ 3; rw [rkk_word]; decide), fun _ => (congrArg Int64.toInt ((fp_l).trans (h17))).trans (hw7 (by omega))⟩⟩)
      · skip
        replace c5 := mt (i_le (a := m) (b := 7) (by omega) (by omega)).mpr (of_decide_eq_false c5)
        refine Pv.lit rfl ?_
        refine Pv.goto rfl ?_
        refine Pv.putI rfl rfl ?_
        have es : sm = true := c2
        have TK : trn B q m = ⟨1, q, 0, q + m⟩ := run_no hm hsm (Or.inr (by rw [es]; exact (show 7 < m by omega)))
        exact Pv.vret rfl (by rw [hQ]; exact ⟨rfl, RNX.fp hx (Or.inr (Or.inl rfl)), by rw [TK]; exact ⟨(congrArg Int32.toInt ((fp_ne (Or.inr (by decide))).trans (h12))).trans (i_toInt (by omega)), (fp_ne (Or.inr (by decide))).trans (h4), (congrArg Int32.toInt (fp_eq)).trans (rfl), fun e => absurd e (by show rkk 1 ≠ 2; decide), fun e => absurd e (by show rkk 1 ≠ 3; decide), fun e => absurd e (by show rkk 1 ≠ 1; decide)⟩⟩)
set_option maxRecDepth 100000 in
set_option maxHeartbeats 4000000 in
theorem g_nx181 {F F0 : FW} {q n : Nat} {sm : Bool} (hG : GW F) (hx : RNX F0 F) (hB : ∀ k, F.1 70 k = F0.1 70 k) (h3 : F.1 69 3 = Int32.ofNat n) (h4 : F.1 69 4 = Int32.ofNat q) (h12 : F.1 69 12 = Int32.ofNat q) (h13 : F.1 69 13 = 0) (h14 : F.1 69 14 = 0) (h17 : F.2.2.1 69 17 = 0) (hn : n ≤ 940) (hqn : q < n) (hsm : cls sm ((RBF F0 n) q) = true) (hfr : tk_r ((RBF F0 n) q) = true) (o : Option Value) (N : Nat) : Pv (ab_T (L_X11_next Z_X11_peek Z_X11_isSmall Z_X11_isDigit)) N 181 [some (.ref 69), o, some (.int (b2i sm)), some (.int 1)] [] F (fun r F' => r = none ∧ RNX F0 F' ∧ NTF F' (trn (RBF F0 n) q (tk_e tk_r (RBF F0 n) n q - q))) := by
  obtain ⟨Q, hQ⟩ : ∃ Q : Option Value → FW → Prop, Q = (fun r F' => r = none ∧ RNX F0 F' ∧ NTF F' (trn (RBF F0 n) q (tk_e tk_r (RBF F0 n) n q - q))) := ⟨_, rfl⟩
  rw [← hQ]
  refine (show Pv (ab_T (L_X11_next Z_X11_peek Z_X11_isSmall Z_X11_isDigit)) N 181 [some (.ref 69), o, some (.int (b2i sm)), some (.int 1)] [] F Q from ?_)
  refine Pv.lp (ι := Int32 × FW × Nat × Int32 × Int64) (lof := fun ⟨a, G, m, x, w⟩ => [some (.ref 69), o, some (.int (b2i sm)), some (.int a)]) (Ff := fun ⟨a, G, m, x, w⟩ => G) (P := fun ⟨a, G, m, x, w⟩ => (m ≤ n - q) ∧ (RNX F0 G) ∧ (GW G) ∧ (∀ k, G.1 70 k = F0.1 70 k) ∧ (G.1 69 3 = Int32.ofNat n) ∧ (G.1 69 4 = Int32.ofNat (q + m)) ∧ (G.1 69 12 = Int32.ofNat q) ∧ (G.1 69 13 = Int32.ofNat m) ∧ (G.1 69 14 = x) ∧ (G.2.2.1 69 17 = w) ∧ (tk_e tk_r (RBF F0 n) n (q + m) = tk_e tk_r (RBF F0 n) n q) ∧ (a = b2i (allP (cls sm) (RBF F0 n) q m)) ∧ (m ≤ 7 → w.toInt = wd (RBF F0 n) q m) ∧ (allP (cls false) (RBF F0 n) q m = true → m ≤ 3 → x.toInt = nb (RBF F0 n) q m)) ?_ (1, F, 0, 0, 0) (⟨Nat.zero_le _, hx, hG, hB, h3, h4, h12, h13, h14, h17, rfl, rfl, fun _ => rfl, fun _ _ => rfl⟩)
  rintro N1 hN2 ⟨a, G, m, x, w⟩ hi3 ih4
  refine (show Pv _ _ 181 [some (.ref 69), o, some (.int (b2i sm)), some (.int a)] [] G Q from ?_)
  obtain ⟨hmn, hxG, hGG, hBG, g3, g4, g12, g13, g14, g17, hrun, ha, hw7, hx3⟩ := hi3
  refine Pv.aloadS rfl rfl ?_
  refine Pv.callVI (as := [.ref 69]) (rest := []) (z := pkw F0 n (q + m)) rfl rfl rfl (g_peek (F0 := F0) (p := q + m) (n := n) hGG (g4) (g3) (by omega) (by omega) (fun q => hBG _)) ?_
  refine Pv.callI (as := [.int (pkw F0 n (q + m))]) (rest := []) (z := b2i (smL (pkw F0 n (q + m)))) rfl rfl rfl (g_isSmall (pkw F0 n (q + m))) ?_
  refine Pv.if0 rfl (fun c5 => ?_) (fun c5 => ?_)
  · skip
    replace c5 : decide (b2i (smL (pkw F0 n (q + m))) = 0) = false := by simpa using c5
    replace c5 := of_decide_eq_false c5
    replace c5 := b2n.mp c5
    have hq2 := sm_t c5
    have hr : tk_r ((RBF F0 n) (q + m)) = true := tk_r_l hq2.2
    have hq1 : q + m < n := hq2.1
    refine Pv.iload rfl rfl ?_
    refine Pv.if0 rfl (fun c6 => ?_) (fun c6 => ?_)
    · skip
      replace c6 := of_decide_eq_true c6
      refine Pv.lit rfl ?_
      refine Pv.istore (lo' := [some (.ref 69), o, some (.int (b2i sm)), some (.int 0)]) rfl rfl ?_
      refine Pv.aload rfl rfl ?_
      refine Pv.getI (z := Int32.ofNat m) rfl rfl (g13) ?_
      refine Pv.lit rfl ?_
      refine Pv.icmp rfl (fun c7 => ?_) (fun c7 => ?_)
      · skip
        replace c7 := (i_le (a := 7) (b := m) (by omega) (by omega)).mp (of_decide_eq_true c7)
        refine Pv.aload rfl rfl ?_
        refine Pv.getI (z := Int32.ofNat m) rfl rfl (g13) ?_
        refine Pv.lit rfl ?_
        refine Pv.icmp rfl (fun c8 => ?_) (fun c8 => ?_)
        · skip
          replace c8 := (i_le (a := 3) (b := m) (by omega) (by omega)).mp (of_decide_eq_true c8)
          refine Pv.aload rfl rfl ?_
          refine Pv.dup rfl ?_
          refine Pv.getI (z := Int32.ofNat m) rfl rfl (g13) ?_
          refine Pv.lit rfl ?_
          refine Pv.bin (z := Int32.ofNat (m + 1)) rfl (i_add m 1) ?_
          refine Pv.putI rfl rfl ?_
          refine Pv.aload rfl rfl ?_
          refine Pv.dup rfl ?_
          refine Pv.getI (z := Int32.ofNat (q + m)) rfl rfl ((fp_ne (Or.inr (by decide))).trans (g4)) ?_
          refine Pv.lit rfl ?_
          refine Pv.bin (z := Int32.ofNat ((q + m) + 1)) rfl (i_add (q + m) 1) ?_
          refine Pv.putI rfl rfl ?_
          refine Pv.goto rfl ?_
          exact ih4 (0, (fp (fp G 69 13 (Int32.ofNat (m + 1))) 69 4 (Int32.ofNat ((q + m) + 1))), (m + 1), x, w) (⟨by omega, (RNX.fp (RNX.fp hxG (Or.inr (Or.inr (Or.inr (Or.inl rfl))))) (Or.inl rfl)), (fun y my => hGG y my), fun k => (fp_ne (Or.inl (by decide))).trans ((fp_ne (Or.inl (by decide))).trans (hBG _)), (fp_ne (Or.inr (by decide))).trans ((fp_ne (Or.inr (by decide))).trans (g3)), (fp_eq), (fp_ne (Or.inr (by decide))).trans ((fp_ne (Or.inr (by decide))).trans (g12)), (fp_ne (Or.inr (by decide))).trans (fp_eq), (fp_ne (Or.inr (by decide))).trans ((fp_ne (Or.inr (by decide))).trans (g14)), (fp_l).trans ((fp_l).trans (g17)), (congrArg (tk_e tk_r (RBF F0 n) n) (Nat.add_assoc q m 1).symm).trans ((tk_go hq1 hr).symm.trans hrun), all_z (ha.symm.trans c6), fun h => absurd h (by omega), fun h1 h2 => absurd h2 (by omega)⟩)
        · skip
          replace c8 := mt (i_le (a := 3) (b := m) (by omega) (by omega)).mpr (of_decide_eq_false c8)
          refine Pv.aload rfl rfl ?_
          refine Pv.lit rfl ?_
          refine Pv.aload rfl rfl ?_
          refine Pv.getI (z := x) rfl rfl (g14) ?_
          refine Pv.bin (z := 10 * x) rfl (rfl) ?_
          refine Pv.aload rfl rfl ?_
          refine Pv.callVI (as := [.ref 69]) (rest := [.int (10 * x), .ref 69]) (z := pkw F0 n (q + m)) rfl rfl rfl (g_peek (F0 := F0) (p := q + m) (n := n) hGG (g4) (g3) (by omega) (by omega) (fun q => hBG _)) ?_
          refine Pv.bin (z := (10 * x) + (pkw F0 n (q + m))) rfl (rfl) ?_
          refine Pv.lit rfl ?_
          refine Pv.bin (z := ((10 * x) + (pkw F0 n (q + m))) - 48) rfl (rfl) ?_
          refine Pv.putI rfl rfl ?_
          refine Pv.aload rfl rfl ?_
          refine Pv.dup rfl ?_
          refine Pv.getI (z := Int32.ofNat m) rfl rfl ((fp_ne (Or.inr (by decide))).trans (g13)) ?_
          refine Pv.lit rfl ?_
          refine Pv.bin (z := Int32.ofNat (m + 1)) rfl (i_add m 1) ?_
          refine Pv.putI rfl rfl ?_
          refine Pv.aload rfl rfl ?_
          refine Pv.dup rfl ?_
          refine Pv.getI (z := Int32.ofNat (q + m)) rfl rfl ((fp_ne (Or.inr (by decide))).trans ((fp_ne (Or.inr (by decide))).trans (g4))) ?_
          refine Pv.lit rfl ?_
          refine Pv.bin (z := Int32.ofNat ((q + m) + 1)) rfl (i_add (q + m) 1) ?_
          refine Pv.putI rfl rfl ?_
          refine Pv.goto rfl ?_
          exact ih4 (0, (fp (fp (fp G 69 14 (((10 * x) + (pkw F0 n (q + m))) - 48)) 69 13 (Int32.ofNat (m + 1))) 69 4 (Int32.ofNat ((q + m) + 1))), (m + 1), ((10 * x) + (pkw F0 n (q + m))) - 48, w) (⟨by omega, (RNX.fp (RNX.fp (RNX.fp hxG (Or.inr (Or.inr (Or.inr (Or.inr rfl))))) (Or.inr (Or.inr (Or.inr (Or.inl rfl))))) (Or.inl rfl)), (fun y my => hGG y my), fun k => (fp_ne (Or.inl (by decide))).trans ((fp_ne (Or.inl (by decide))).trans ((fp_ne (Or.inl (by decide))).trans (hBG _))), (fp_ne (Or.inr (by decide))).trans ((fp_ne (Or.inr (by decide))).trans ((fp_ne (Or.inr (by decide))).trans (g3))), (fp_eq), (fp_ne (Or.inr (by decide))).trans ((fp_ne (Or.inr (by decide))).trans ((fp_ne (Or.inr (by decide))).trans (g12))), (fp_ne (Or.inr (by decide))).trans (fp_eq), (fp_ne (Or.inr (by decide))).trans ((fp_ne (Or.inr (by decide))).trans (fp_eq)), (fp_l).trans ((fp_l).trans ((fp_l).trans (g17))), (congrArg (tk_e tk_r (RBF F0 n) n) (Nat.add_assoc q m 1).symm).trans ((tk_go hq1 hr).symm.trans hrun), all_z (ha.symm.trans c6), fun h => absurd h (by omega), fun h1 h2 => num3 (hx3 (all_1 h1) (by omega)) (all_1 h1) (by omega) (pkw_to hq1) (RB_b F0 n)⟩)
      · skip
        replace c7 := mt (i_le (a := 7) (b := m) (by omega) (by omega)).mpr (of_decide_eq_false c7)
        refine Pv.aload rfl rfl ?_
        refine Pv.aload rfl rfl ?_
        refine Pv.getL (z := w) rfl rfl (g17) ?_
        refine Pv.lit rfl ?_
        refine Pv.lsh (z := w <<< (Int32.toInt64 8 &&& 63)) rfl (rfl) ?_
        refine Pv.aload rfl rfl ?_
        refine Pv.callVI (as := [.ref 69]) (rest := [.long (w <<< (Int32.toInt64 8 &&& 63)), .ref 69]) (z := pkw F0 n (q + m)) rfl rfl rfl (g_peek (F0 := F0) (p := q + m) (n := n) hGG (g4) (g3) (by omega) (by omega) (fun q => hBG _)) ?_
        refine Pv.i2l (z := Int32.toInt64 (pkw F0 n (q + m))) rfl (rfl) ?_
        refine Pv.lbin (z := (w <<< (Int32.toInt64 8 &&& 63)) ||| (Int32.toInt64 (pkw F0 n (q + m)))) rfl (rfl) ?_
        refine Pv.putL rfl rfl ?_
        refine Pv.aload rfl rfl ?_
        refine Pv.getI (z := Int32.ofNat m) rfl rfl ((fpl_i).trans (g13)) ?_
        refine Pv.lit rfl ?_
        refine Pv.icmp rfl (fun c9 => ?_) (fun c9 => ?_)
        · skip
          replace c9 := (i_le (a := 3) (b := m) (by omega) (by omega)).mp (of_decide_eq_true c9)
          refine Pv.aload rfl rfl ?_
          refine Pv.dup rfl ?_
          refine Pv.getI (z := Int32.ofNat m) rfl rfl ((fpl_i).trans (g13)) ?_
          refine Pv.lit rfl ?_
          refine Pv.bin (z := Int32.ofNat (m + 1)) rfl (i_add m 1) ?_
          refine Pv.putI rfl rfl ?_
          refine Pv.aload rfl rfl ?_
          refine Pv.dup rfl ?_
          refine Pv.getI (z := Int32.ofNat (q + m)) rfl rfl ((fp_ne (Or.inr (by decide))).trans ((fpl_i).trans (g4))) ?_
          refine Pv.lit rfl ?_
          refine Pv.bin (z := Int32.ofNat ((q + m) + 1)) rfl (i_add (q + m) 1) ?_
          refine Pv.putI rfl rfl ?_
          refine Pv.goto rfl ?_
          exact ih4 (0, (fp (fp (fpl G 69 17 ((w <<< (Int32.toInt64 8 &&& 63)) ||| (Int32.toInt64 (pkw F0 n (q + m))))) 69 13 (Int32.ofNat (m + 1))) 69 4 (Int32.ofNat ((q + m) + 1))), (m + 1), x, (w <<< (Int32.toInt64 8 &&& 63)) ||| (Int32.toInt64 (pkw F0 n (q + m)))) (⟨by omega, (RNX.fp (RNX.fp (RNX.fl hxG) (Or.inr (Or.inr (Or.inr (Or.inl rfl))))) (Or.inl rfl)), (fun y my => hGG y my), fun k => (fp_ne (Or.inl (by decide))).trans ((fp_ne (Or.inl (by decide))).trans ((fpl_i).trans (hBG _))), (fp_ne (Or.inr (by decide))).trans ((fp_ne (Or.inr (by decide))).trans ((fpl_i).trans (g3))), (fp_eq), (fp_ne (Or.inr (by decide))).trans ((fp_ne (Or.inr (by decide))).trans ((fpl_i).trans (g12))), (fp_ne (Or.inr (by decide))).trans (fp_eq), (fp_ne (Or.inr (by decide))).trans ((fp_ne (Or.inr (by decide))).trans ((fpl_i).trans (g14))), (fp_l).trans ((fp_l).trans (fpl_eq)), (congrArg (tk_e tk_r (RBF F0 n) n) (Nat.add_assoc q m 1).symm).trans ((tk_go hq1 hr).symm.trans hrun), all_z (ha.symm.trans c6), fun h => or8 (RB_b F0 n) (hw7 (by omega)) (by omega) (pkw_to hq1), fun h1 h2 => absurd h2 (by omega)⟩)
        · skip
          replace c9 := mt (i_le (a := 3) (b := m) (by omega) (by omega)).mpr (of_decide_eq_false c9)
          refine Pv.aload rfl rfl ?_
          refine Pv.lit rfl ?_
          refine Pv.aload rfl rfl ?_
          refine Pv.getI (z := x) rfl rfl ((fpl_i).trans (g14)) ?_
          refine Pv.bin (z := 10 * x) rfl (rfl) ?_
          refine Pv.aload rfl rfl ?_
          refine Pv.callVI (as := [.ref 69]) (rest := [.int (10 * x), .ref 69]) (z := pkw F0 n (q + m)) rfl rfl rfl (g_peek (F0 := F0) (p := q + m) (n := n) (hGG.fx (P := fun _ => True) (((FX.rf (P := fun _ => True))).fpl trivial)) ((fpl_i).trans (g4)) ((fpl_i).trans (g3)) (by omega) (by omega) (fun q => (fpl_i).trans (hBG _))) ?_
          refine Pv.bin (z := (10 * x) + (pkw F0 n (q + m))) rfl (rfl) ?_
          refine Pv.lit rfl ?_
          refine Pv.bin (z := ((10 * x) + (pkw F0 n (q + m))) - 48) rfl (rfl) ?_
          refine Pv.putI rfl rfl ?_
          refine Pv.aload rfl rfl ?_
          refine Pv.dup rfl ?_
          refine Pv.getI (z := Int32.ofNat m) rfl rfl ((fp_ne (Or.inr (by decide))).trans ((fpl_i).trans (g13))) ?_
          refine Pv.lit rfl ?_
          refine Pv.bin (z := Int32.ofNat (m + 1)) rfl (i_add m 1) ?_
          refine Pv.putI rfl rfl ?_
          refine Pv.aload rfl rfl ?_
          refine Pv.dup rfl ?_
          refine Pv.getI (z := Int32.ofNat (q + m)) rfl rfl ((fp_ne (Or.inr (by decide))).trans ((fp_ne (Or.inr (by decide))).trans ((fpl_i).trans (g4)))) ?_
          refine Pv.lit rfl ?_
          refine Pv.bin (z := Int32.ofNat ((q + m) + 1)) rfl (i_add (q + m) 1) ?_
          refine Pv.putI rfl rfl ?_
          refine Pv.goto rfl ?_
          exact ih4 (0, (fp (fp (fp (fpl G 69 17 ((w <<< (Int32.toInt64 8 &&& 63)) ||| (Int32.toInt64 (pkw F0 n (q + m))))) 69 14 (((10 * x) + (pkw F0 n (q + m))) - 48)) 69 13 (Int32.ofNat (m + 1))) 69 4 (Int32.ofNat ((q + m) + 1))), (m + 1), ((10 * x) + (pkw F0 n (q + m))) - 48, (w <<< (Int32.toInt64 8 &&& 63)) ||| (Int32.toInt64 (pkw F0 n (q + m)))) (⟨by omega, (RNX.fp (RNX.fp (RNX.fp (RNX.fl hxG) (Or.inr (Or.inr (Or.inr (Or.inr rfl))))) (Or.inr (Or.inr (Or.inr (Or.inl rfl))))) (Or.inl rfl)), (fun y my => hGG y my), fun k => (fp_ne (Or.inl (by decide))).trans ((fp_ne (Or.inl (by decide))).trans ((fp_ne (Or.inl (by decide))).trans ((fpl_i).trans (hBG _)))), (fp_ne (Or.inr (by decide))).trans ((fp_ne (Or.inr (by decide))).trans ((fp_ne (Or.inr (by decide))).trans ((fpl_i).trans (g3)))), (fp_eq), (fp_ne (Or.inr (by decide))).trans ((fp_ne (Or.inr (by decide))).trans ((fp_ne (Or.inr (by decide))).trans ((fpl_i).trans (g12)))), (fp_ne (Or.inr (by decide))).trans (fp_eq), (fp_ne (Or.inr (by decide))).trans ((fp_ne (Or.inr (by decide))).trans (fp_eq)), (fp_l).trans ((fp_l).trans ((fp_l).trans (fpl_eq))), (congrArg (tk_e tk_r (RBF F0 n) n) (Nat.add_assoc q m 1).symm).trans ((tk_go hq1 hr).symm.trans hrun), all_z (ha.symm.trans c6), fun h => or8 (RB_b F0 n) (hw7 (by omega)) (by omega) (pkw_to hq1), fun h1 h2 => num3 (hx3 (all_1 h1) (by omega)) (all_1 h1) (by omega) (pkw_to hq1) (RB_b F0 n)⟩)
    · skip
      replace c6 := of_decide_eq_false c6
      refine Pv.aload rfl rfl ?_
      refine Pv.callVI (as := [.ref 69]) (rest := []) (z := pkw F0 n (q + m)) rfl rfl rfl (g_peek (F0 := F0) (p := q + m) (n := n) hGG (g4) (g3) (by omega) (by omega) (fun q => hBG _)) ?_
      refine Pv.callI (as := [.int (pkw F0 n (q + m))]) (rest := []) (z := b2i (smL (pkw F0 n (q + m)))) rfl rfl rfl (g_isSmall (pkw F0 n (q + m))) ?_
      rw [show (b2i (smL (pkw F0 n (q + m)))) = b2i (tk_l ((RBF F0 n) (q + m))) from congrArg b2i (sm_eq hq1)]
      refine Pv.iload rfl rfl ?_
      refine Pv.icmp rfl (fun c10 => ?_) (fun c10 => ?_)
      · skip
        replace c10 : decide (b2i (tk_l ((RBF F0 n) (q + m))) = b2i sm) = false := by simpa using c10
        replace c10 := of_decide_eq_false c10
        refine Pv.lit rfl ?_
        refine Pv.istore (lo' := [some (.ref 69), o, some (.int (b2i sm)), some (.int 0)]) rfl rfl ?_
        refine Pv.aload rfl rfl ?_
        refine Pv.getI (z := Int32.ofNat m) rfl rfl (g13) ?_
        refine Pv.lit rfl ?_
        refine Pv.icmp rfl (fun c11 => ?_) (fun c11 => ?_)
        · skip
          replace c11 := (i_le (a := 7) (b := m) (by omega) (by omega)).mp (of_decide_eq_true c11)
          refine Pv.aload rfl rfl ?_
          refine Pv.getI (z := Int32.ofNat m) rfl rfl (g13) ?_
          refine Pv.lit rfl ?_
          refine Pv.icmp rfl (fun c12 => ?_) (fun c12 => ?_)
          · skip
            replace c12 := (i_le (a := 3) (b := m) (by omega) (by omega)).mp (of_decide_eq_true c12)
            refine Pv.aload rfl rfl ?_
            refine Pv.dup rfl ?_
            refine Pv.getI (z := Int32.ofNat m) rfl rfl (g13) ?_
            refine Pv.lit rfl ?_
            refine Pv.bin (z := Int32.ofNat (m + 1)) rfl (i_add m 1) ?_
            refine Pv.putI rfl rfl ?_
            refine Pv.aload rfl rfl ?_
            refine Pv.dup rfl ?_
            refine Pv.getI (z := Int32.ofNat (q + m)) rfl rfl ((fp_ne (Or.inr (by decide))).trans (g4)) ?_
            refine Pv.lit rfl ?_
            refine Pv.bin (z := Int32.ofNat ((q + m) + 1)) rfl (i_add (q + m) 1) ?_
            refine Pv.putI rfl rfl ?_
            refine Pv.goto rfl ?_
            exact ih4 (0, (fp (fp G 69 13 (Int32.ofNat (m + 1))) 69 4 (Int32.ofNat ((q + m) + 1))), (m + 1), x, w) (⟨by omega, (RNX.fp (RNX.fp hxG (Or.inr (Or.inr (Or.inr (Or.inl rfl))))) (Or.inl rfl)), (fun y my => hGG y my), fun k => (fp_ne (Or.inl (by decide))).trans ((fp_ne (Or.inl (by decide))).trans (hBG _)), (fp_ne (Or.inr (by decide))).trans ((fp_ne (Or.inr (by decide))).trans (g3)), (fp_eq), (fp_ne (Or.inr (by decide))).trans ((fp_ne (Or.inr (by decide))).trans (g12)), (fp_ne (Or.inr (by decide))).trans (fp_eq), (fp_ne (Or.inr (by decide))).trans ((fp_ne (Or.inr (by decide))).trans (g14)), (fp_l).trans ((fp_l).trans (g17)), (congrArg (tk_e tk_r (RBF F0 n) n) (Nat.add_assoc q m 1).symm).trans ((tk_go hq1 hr).symm.trans hrun), all_n hr (fun e => c10 (congrArg b2i e)), fun h => absurd h (by omega), fun h1 h2 => absurd h2 (by omega)⟩)
          · skip
            replace c12 := mt (i_le (a := 3) (b := m) (by omega) (by omega)).mpr (of_decide_eq_false c12)
            refine Pv.aload rfl rfl ?_
            refine Pv.lit rfl ?_
            refine Pv.aload rfl rfl ?_
            refine Pv.getI (z := x) rfl rfl (g14) ?_
            refine Pv.bin (z := 10 * x) rfl (rfl) ?_
            refine Pv.aload rfl rfl ?_
            refine Pv.callVI (as := [.ref 69]) (rest := [.int (10 * x), .ref 69]) (z := pkw F0 n (q + m)) rfl rfl rfl (g_peek (F0 := F0) (p := q + m) (n := n) hGG (g4) (g3) (by omega) (by omega) (fun q => hBG _)) ?_
            refine Pv.bin (z := (10 * x) + (pkw F0 n (q + m))) rfl (rfl) ?_
            refine Pv.lit rfl ?_
            refine Pv.bin (z := ((10 * x) + (pkw F0 n (q + m))) - 48) rfl (rfl) ?_
            refine Pv.putI rfl rfl ?_
            refine Pv.aload rfl rfl ?_
            refine Pv.dup rfl ?_
            refine Pv.getI (z := Int32.ofNat m) rfl rfl ((fp_ne (Or.inr (by decide))).trans (g13)) ?_
            refine Pv.lit rfl ?_
            refine Pv.bin (z := Int32.ofNat (m + 1)) rfl (i_add m 1) ?_
            refine Pv.putI rfl rfl ?_
            refine Pv.aload rfl rfl ?_
            refine Pv.dup rfl ?_
            refine Pv.getI (z := Int32.ofNat (q + m)) rfl rfl ((fp_ne (Or.inr (by decide))).trans ((fp_ne (Or.inr (by decide))).trans (g4))) ?_
            refine Pv.lit rfl ?_
            refine Pv.bin (z := Int32.ofNat ((q + m) + 1)) rfl (i_add (q + m) 1) ?_
            refine Pv.putI rfl rfl ?_
            refine Pv.goto rfl ?_
            exact ih4 (0, (fp (fp (fp G 69 14 (((10 * x) + (pkw F0 n (q + m))) - 48)) 69 13 (Int32.ofNat (m + 1))) 69 4 (Int32.ofNat ((q + m) + 1))), (m + 1), ((10 * x) + (pkw F0 n (q + m))) - 48, w) (⟨by omega, (RNX.fp (RNX.fp (RNX.fp hxG (Or.inr (Or.inr (Or.inr (Or.inr rfl))))) (Or.inr (Or.inr (Or.inr (Or.inl rfl))))) (Or.inl rfl)), (fun y my => hGG y my), fun k => (fp_ne (Or.inl (by decide))).trans ((fp_ne (Or.inl (by decide))).trans ((fp_ne (Or.inl (by decide))).trans (hBG _))), (fp_ne (Or.inr (by decide))).trans ((fp_ne (Or.inr (by decide))).trans ((fp_ne (Or.inr (by decide))).trans (g3))), (fp_eq), (fp_ne (Or.inr (by decide))).trans ((fp_ne (Or.inr (by decide))).trans ((fp_ne (Or.inr (by decide))).trans (g12))), (fp_ne (Or.inr (by decide))).trans (fp_eq), (fp_ne (Or.inr (by decide))).trans ((fp_ne (Or.inr (by decide))).trans (fp_eq)), (fp_l).trans ((fp_l).trans ((fp_l).trans (g17))), (congrArg (tk_e tk_r (RBF F0 n) n) (Nat.add_assoc q m 1).symm).trans ((tk_go hq1 hr).symm.trans hrun), all_n hr (fun e => c10 (congrArg b2i e)), fun h => absurd h (by omega), fun h1 h2 => num3 (hx3 (all_1 h1) (by omega)) (all_1 h1) (by omega) (pkw_to hq1) (RB_b F0 n)⟩)
        · skip
          replace c11 := mt (i_le (a := 7) (b := m) (by omega) (by omega)).mpr (of_decide_eq_false c11)
          refine Pv.aload rfl rfl ?_
          refine Pv.aload rfl rfl ?_
          refine Pv.getL (z := w) rfl rfl (g17) ?_
          refine Pv.lit rfl ?_
          refine Pv.lsh (z := w <<< (Int32.toInt64 8 &&& 63)) rfl (rfl) ?_
          refine Pv.aload rfl rfl ?_
          refine Pv.callVI (as := [.ref 69]) (rest := [.long (w <<< (Int32.toInt64 8 &&& 63)), .ref 69]) (z := pkw F0 n (q + m)) rfl rfl rfl (g_peek (F0 := F0) (p := q + m) (n := n) hGG (g4) (g3) (by omega) (by omega) (fun q => hBG _)) ?_
          refine Pv.i2l (z := Int32.toInt64 (pkw F0 n (q + m))) rfl (rfl) ?_
          refine Pv.lbin (z := (w <<< (Int32.toInt64 8 &&& 63)) ||| (Int32.toInt64 (pkw F0 n (q + m)))) rfl (rfl) ?_
          refine Pv.putL rfl rfl ?_
          refine Pv.aload rfl rfl ?_
          refine Pv.getI (z := Int32.ofNat m) rfl rfl ((fpl_i).trans (g13)) ?_
          refine Pv.lit rfl ?_
          refine Pv.icmp rfl (fun c13 => ?_) (fun c13 => ?_)
          · skip
            replace c13 := (i_le (a := 3) (b := m) (by omega) (by omega)).mp (of_decide_eq_true c13)
            refine Pv.aload rfl rfl ?_
            refine Pv.dup rfl ?_
            refine Pv.getI (z := Int32.ofNat m) rfl rfl ((fpl_i).trans (g13)) ?_
            refine Pv.lit rfl ?_
            refine Pv.bin (z := Int32.ofNat (m + 1)) rfl (i_add m 1) ?_
            refine Pv.putI rfl rfl ?_
            refine Pv.aload rfl rfl ?_
            refine Pv.dup rfl ?_
            refine Pv.getI (z := Int32.ofNat (q + m)) rfl rfl ((fp_ne (Or.inr (by decide))).trans ((fpl_i).trans (g4))) ?_
            refine Pv.lit rfl ?_
            refine Pv.bin (z := Int32.ofNat ((q + m) + 1)) rfl (i_add (q + m) 1) ?_
            refine Pv.putI rfl rfl ?_
            refine Pv.goto rfl ?_
            exact ih4 (0, (fp (fp (fpl G 69 17 ((w <<< (Int32.toInt64 8 &&& 63)) ||| (Int32.toInt64 (pkw F0 n (q + m))))) 69 13 (Int32.ofNat (m + 1))) 69 4 (Int32.ofNat ((q + m) + 1))), (m + 1), x, (w <<< (Int32.toInt64 8 &&& 63)) ||| (Int32.toInt64 (pkw F0 n (q + m)))) (⟨by omega, (RNX.fp (RNX.fp (RNX.fl hxG) (Or.inr (Or.inr (Or.inr (Or.inl rfl))))) (Or.inl rfl)), (fun y my => hGG y my), fun k => (fp_ne (Or.inl (by decide))).trans ((fp_ne (Or.inl (by decide))).trans ((fpl_i).trans (hBG _))), (fp_ne (Or.inr (by decide))).trans ((fp_ne (Or.inr (by decide))).trans ((fpl_i).trans (g3))), (fp_eq), (fp_ne (Or.inr (by decide))).trans ((fp_ne (Or.inr (by decide))).trans ((fpl_i).trans (g12))), (fp_ne (Or.inr (by decide))).trans (fp_eq), (fp_ne (Or.inr (by decide))).trans ((fp_ne (Or.inr (by decide))).trans ((fpl_i).trans (g14))), (fp_l).trans ((fp_l).trans (fpl_eq)), (congrArg (tk_e tk_r (RBF F0 n) n) (Nat.add_assoc q m 1).symm).trans ((tk_go hq1 hr).symm.trans hrun), all_n hr (fun e => c10 (congrArg b2i e)), fun h => or8 (RB_b F0 n) (hw7 (by omega)) (by omega) (pkw_to hq1), fun h1 h2 => absurd h2 (by omega)⟩)
          · skip
            replace c13 := mt (i_le (a := 3) (b := m) (by omega) (by omega)).mpr (of_decide_eq_false c13)
            refine Pv.aload rfl rfl ?_
            refine Pv.lit rfl ?_
            refine Pv.aload rfl rfl ?_
            refine Pv.getI (z := x) rfl rfl ((fpl_i).trans (g14)) ?_
            refine Pv.bin (z := 10 * x) rfl (rfl) ?_
            refine Pv.aload rfl rfl ?_
            refine Pv.callVI (as := [.ref 69]) (rest := [.int (10 * x), .ref 69]) (z := pkw F0 n (q + m)) rfl rfl rfl (g_peek (F0 := F0) (p := q + m) (n := n) (hGG.fx (P := fun _ => True) (((FX.rf (P := fun _ => True))).fpl trivial)) ((fpl_i).trans (g4)) ((fpl_i).trans (g3)) (by omega) (by omega) (fun q => (fpl_i).trans (hBG _))) ?_
            refine Pv.bin (z := (10 * x) + (pkw F0 n (q + m))) rfl (rfl) ?_
            refine Pv.lit rfl ?_
            refine Pv.bin (z := ((10 * x) + (pkw F0 n (q + m))) - 48) rfl (rfl) ?_
            refine Pv.putI rfl rfl ?_
            refine Pv.aload rfl rfl ?_
            refine Pv.dup rfl ?_
            refine Pv.getI (z := Int32.ofNat m) rfl rfl ((fp_ne (Or.inr (by decide))).trans ((fpl_i).trans (g13))) ?_
            refine Pv.lit rfl ?_
            refine Pv.bin (z := Int32.ofNat (m + 1)) rfl (i_add m 1) ?_
            refine Pv.putI rfl rfl ?_
            refine Pv.aload rfl rfl ?_
            refine Pv.dup rfl ?_
            refine Pv.getI (z := Int32.ofNat (q + m)) rfl rfl ((fp_ne (Or.inr (by decide))).trans ((fp_ne (Or.inr (by decide))).trans ((fpl_i).trans (g4)))) ?_
            refine Pv.lit rfl ?_
            refine Pv.bin (z := Int32.ofNat ((q + m) + 1)) rfl (i_add (q + m) 1) ?_
            refine Pv.putI rfl rfl ?_
            refine Pv.goto rfl ?_
            exact ih4 (0, (fp (fp (fp (fpl G 69 17 ((w <<< (Int32.toInt64 8 &&& 63)) ||| (Int32.toInt64 (pkw F0 n (q + m))))) 69 14 (((10 * x) + (pkw F0 n (q + m))) - 48)) 69 13 (Int32.ofNat (m + 1))) 69 4 (Int32.ofNat ((q + m) + 1))), (m + 1), ((10 * x) + (pkw F0 n (q + m))) - 48, (w <<< (Int32.toInt64 8 &&& 63)) ||| (Int32.toInt64 (pkw F0 n (q + m)))) (⟨by omega, (RNX.fp (RNX.fp (RNX.fp (RNX.fl hxG) (Or.inr (Or.inr (Or.inr (Or.inr rfl))))) (Or.inr (Or.inr (Or.inr (Or.inl rfl))))) (Or.inl rfl)), (fun y my => hGG y my), fun k => (fp_ne (Or.inl (by decide))).trans ((fp_ne (Or.inl (by decide))).trans ((fp_ne (Or.inl (by decide))).trans ((fpl_i).trans (hBG _)))), (fp_ne (Or.inr (by decide))).trans ((fp_ne (Or.inr (by decide))).trans ((fp_ne (Or.inr (by decide))).trans ((fpl_i).trans (g3)))), (fp_eq), (fp_ne (Or.inr (by decide))).trans ((fp_ne (Or.inr (by decide))).trans ((fp_ne (Or.inr (by decide))).trans ((fpl_i).trans (g12)))), (fp_ne (Or.inr (by decide))).trans (fp_eq), (fp_ne (Or.inr (by decide))).trans ((fp_ne (Or.inr (by decide))).trans (fp_eq)), (fp_l).trans ((fp_l).trans ((fp_l).trans (fpl_eq))), (congrArg (tk_e tk_r (RBF F0 n) n) (Nat.add_assoc q m 1).symm).trans ((tk_go hq1 hr).symm.trans hrun), all_n hr (fun e => c10 (congrArg b2i e)), fun h => or8 (RB_b F0 n) (hw7 (by omega)) (by omega) (pkw_to hq1), fun h1 h2 => num3 (hx3 (all_1 h1) (by omega)) (all_1 h1) (by omega) (pkw_to hq1) (RB_b F0 n)⟩)
      · skip
        replace c10 : decide (b2i (tk_l ((RBF F0 n) (q + m))) = b2i sm) = true := by simpa using c10
        replace c10 := of_decide_eq_true c10
        refine Pv.lit rfl ?_
        refine Pv.goto rfl ?_
        refine Pv.istore (lo' := [some (.ref 69), o, some (.int (b2i sm)), some (.int 1)]) rfl rfl ?_
        refine Pv.aload rfl rfl ?_
        refine Pv.getI (z := Int32.ofNat m) rfl rfl (g13) ?_
        refine Pv.lit rfl ?_
        refine Pv.icmp rfl (fun c14 => ?_) (fun c14 => ?_)
        · skip
          replace c14 := (i_le (a := 7) (b := m) (by omega) (by omega)).mp (of_decide_eq_true c14)
          refine Pv.aload rfl rfl ?_
          refine Pv.getI (z := Int32.ofNat m) rfl rfl (g13) ?_
          refine Pv.lit rfl ?_
          refine Pv.icmp rfl (fun c15 => ?_) (fun c15 => ?_)
          · skip
            replace c15 := (i_le (a := 3) (b := m) (by omega) (by omega)).mp (of_decide_eq_true c15)
            refine Pv.aload rfl rfl ?_
            refine Pv.dup rfl ?_
            refine Pv.getI (z := Int32.ofNat m) rfl rfl (g13) ?_
            refine Pv.lit rfl ?_
            refine Pv.bin (z := Int32.ofNat (m + 1)) rfl (i_add m 1) ?_
            refine Pv.putI rfl rfl ?_
            refine Pv.aload rfl rfl ?_
            refine Pv.dup rfl ?_
            refine Pv.getI (z := Int32.ofNat (q + m)) rfl rfl ((fp_ne (Or.inr (by decide))).trans (g4)) ?_
            refine Pv.lit rfl ?_
            refine Pv.bin (z := Int32.ofNat ((q + m) + 1)) rfl (i_add (q + m) 1) ?_
            refine Pv.putI rfl rfl ?_
            refine Pv.goto rfl ?_
            exact ih4 (1, (fp (fp G 69 13 (Int32.ofNat (m + 1))) 69 4 (Int32.ofNat ((q + m) + 1))), (m + 1), x, w) (⟨by omega, (RNX.fp (RNX.fp hxG (Or.inr (Or.inr (Or.inr (Or.inl rfl))))) (Or.inl rfl)), (fun y my => hGG y my), fun k => (fp_ne (Or.inl (by decide))).trans ((fp_ne (Or.inl (by decide))).trans (hBG _)), (fp_ne (Or.inr (by decide))).trans ((fp_ne (Or.inr (by decide))).trans (g3)), (fp_eq), (fp_ne (Or.inr (by decide))).trans ((fp_ne (Or.inr (by decide))).trans (g12)), (fp_ne (Or.inr (by decide))).trans (fp_eq), (fp_ne (Or.inr (by decide))).trans ((fp_ne (Or.inr (by decide))).trans (g14)), (fp_l).trans ((fp_l).trans (g17)), (congrArg (tk_e tk_r (RBF F0 n) n) (Nat.add_assoc q m 1).symm).trans ((tk_go hq1 hr).symm.trans hrun), all_y (fun e => c6 (ha.trans e)) hr (b2i_inj.mp c10), fun h => absurd h (by omega), fun h1 h2 => absurd h2 (by omega)⟩)
          · skip
            replace c15 := mt (i_le (a := 3) (b := m) (by omega) (by omega)).mpr (of_decide_eq_false c15)
            refine Pv.aload rfl rfl ?_
            refine Pv.lit rfl ?_
            refine Pv.aload rfl rfl ?_
            refine Pv.getI (z := x) rfl rfl (g14) ?_
            refine Pv.bin (z := 10 * x) rfl (rfl) ?_
            refine Pv.aload rfl rfl ?_
            refine Pv.callVI (as := [.ref 69]) (rest := [.int (10 * x), .ref 69]) (z := pkw F0 n (q + m)) rfl rfl rfl (g_peek (F0 := F0) (p := q + m) (n := n) hGG (g4) (g3) (by omega) (by omega) (fun q => hBG _)) ?_
            refine Pv.bin (z := (10 * x) + (pkw F0 n (q + m))) rfl (rfl) ?_
            refine Pv.lit rfl ?_
            refine Pv.bin (z := ((10 * x) + (pkw F0 n (q + m))) - 48) rfl (rfl) ?_
            refine Pv.putI rfl rfl ?_
            refine Pv.aload rfl rfl ?_
            refine Pv.dup rfl ?_
            refine Pv.getI (z := Int32.ofNat m) rfl rfl ((fp_ne (Or.inr (by decide))).trans (g13)) ?_
            refine Pv.lit rfl ?_
            refine Pv.bin (z := Int32.ofNat (m + 1)) rfl (i_add m 1) ?_
            refine Pv.putI rfl rfl ?_
            refine Pv.aload rfl rfl ?_
            refine Pv.dup rfl ?_
            refine Pv.getI (z := Int32.ofNat (q + m)) rfl rfl ((fp_ne (Or.inr (by decide))).trans ((fp_ne (Or.inr (by decide))).trans (g4))) ?_
            refine Pv.lit rfl ?_
            refine Pv.bin (z := Int32.ofNat ((q + m) + 1)) rfl (i_add (q + m) 1) ?_
            refine Pv.putI rfl rfl ?_
            refine Pv.goto rfl ?_
            exact ih4 (1, (fp (fp (fp G 69 14 (((10 * x) + (pkw F0 n (q + m))) - 48)) 69 13 (Int32.ofNat (m + 1))) 69 4 (Int32.ofNat ((q + m) + 1))), (m + 1), ((10 * x) + (pkw F0 n (q + m))) - 48, w) (⟨by omega, (RNX.fp (RNX.fp (RNX.fp hxG (Or.inr (Or.inr (Or.inr (Or.inr rfl))))) (Or.inr (Or.inr (Or.inr (Or.inl rfl))))) (Or.inl rfl)), (fun y my => hGG y my), fun k => (fp_ne (Or.inl (by decide))).trans ((fp_ne (Or.inl (by decide))).trans ((fp_ne (Or.inl (by decide))).trans (hBG _))), (fp_ne (Or.inr (by decide))).trans ((fp_ne (Or.inr (by decide))).trans ((fp_ne (Or.inr (by decide))).trans (g3))), (fp_eq), (fp_ne (Or.inr (by decide))).trans ((fp_ne (Or.inr (by decide))).trans ((fp_ne (Or.inr (by decide))).trans (g12))), (fp_ne (Or.inr (by decide))).trans (fp_eq), (fp_ne (Or.inr (by decide))).trans ((fp_ne (Or.inr (by decide))).trans (fp_eq)), (fp_l).trans ((fp_l).trans ((fp_l).trans (g17))), (congrArg (tk_e tk_r (RBF F0 n) n) (Nat.add_assoc q m 1).symm).trans ((tk_go hq1 hr).symm.trans hrun), all_y (fun e => c6 (ha.trans e)) hr (b2i_inj.mp c10), fun h => absurd h (by omega), fun h1 h2 => num3 (hx3 (all_1 h1) (by omega)) (all_1 h1) (by omega) (pkw_to hq1) (RB_b F0 n)⟩)
        · skip
          replace c14 := mt (i_le (a := 7) (b := m) (by omega) (by omega)).mpr (of_decide_eq_false c14)
          refine Pv.aload rfl rfl ?_
          refine Pv.aload rfl rfl ?_
          refine Pv.getL (z := w) rfl rfl (g17) ?_
          refine Pv.lit rfl ?_
          refine Pv.lsh (z := w <<< (Int32.toInt64 8 &&& 63)) rfl (rfl) ?_
          refine Pv.aload rfl rfl ?_
          refine Pv.callVI (as := [.ref 69]) (rest := [.long (w <<< (Int32.toInt64 8 &&& 63)), .ref 69]) (z := pkw F0 n (q + m)) rfl rfl rfl (g_peek (F0 := F0) (p := q + m) (n := n) hGG (g4) (g3) (by omega) (by omega) (fun q => hBG _)) ?_
          refine Pv.i2l (z := Int32.toInt64 (pkw F0 n (q + m))) rfl (rfl) ?_
          refine Pv.lbin (z := (w <<< (Int32.toInt64 8 &&& 63)) ||| (Int32.toInt64 (pkw F0 n (q + m)))) rfl (rfl) ?_
          refine Pv.putL rfl rfl ?_
          refine Pv.aload rfl rfl ?_
          refine Pv.getI (z := Int32.ofNat m) rfl rfl ((fpl_i).trans (g13)) ?_
          refine Pv.lit rfl ?_
          refine Pv.icmp rfl (fun c16 => ?_) (fun c16 => ?_)
          · skip
            replace c16 := (i_le (a := 3) (b := m) (by omega) (by omega)).mp (of_decide_eq_true c16)
            refine Pv.aload rfl rfl ?_
            refine Pv.dup rfl ?_
            refine Pv.getI (z := Int32.ofNat m) rfl rfl ((fpl_i).trans (g13)) ?_
            refine Pv.lit rfl ?_
            refine Pv.bin (z := Int32.ofNat (m + 1)) rfl (i_add m 1) ?_
            refine Pv.putI rfl rfl ?_
            refine Pv.aload rfl rfl ?_
            refine Pv.dup rfl ?_
            refine Pv.getI (z := Int32.ofNat (q + m)) rfl rfl ((fp_ne (Or.inr (by decide))).trans ((fpl_i).trans (g4))) ?_
            refine Pv.lit rfl ?_
            refine Pv.bin (z := Int32.ofNat ((q + m) + 1)) rfl (i_add (q + m) 1) ?_
            refine Pv.putI rfl rfl ?_
            refine Pv.goto rfl ?_
            exact ih4 (1, (fp (fp (fpl G 69 17 ((w <<< (Int32.toInt64 8 &&& 63)) ||| (Int32.toInt64 (pkw F0 n (q + m))))) 69 13 (Int32.ofNat (m + 1))) 69 4 (Int32.ofNat ((q + m) + 1))), (m + 1), x, (w <<< (Int32.toInt64 8 &&& 63)) ||| (Int32.toInt64 (pkw F0 n (q + m)))) (⟨by omega, (RNX.fp (RNX.fp (RNX.fl hxG) (Or.inr (Or.inr (Or.inr (Or.inl rfl))))) (Or.inl rfl)), (fun y my => hGG y my), fun k => (fp_ne (Or.inl (by decide))).trans ((fp_ne (Or.inl (by decide))).trans ((fpl_i).trans (hBG _))), (fp_ne (Or.inr (by decide))).trans ((fp_ne (Or.inr (by decide))).trans ((fpl_i).trans (g3))), (fp_eq), (fp_ne (Or.inr (by decide))).trans ((fp_ne (Or.inr (by decide))).trans ((fpl_i).trans (g12))), (fp_ne (Or.inr (by decide))).trans (fp_eq), (fp_ne (Or.inr (by decide))).trans ((fp_ne (Or.inr (by decide))).trans ((fpl_i).trans (g14))), (fp_l).trans ((fp_l).trans (fpl_eq)), (congrArg (tk_e tk_r (RBF F0 n) n) (Nat.add_assoc q m 1).symm).trans ((tk_go hq1 hr).symm.trans hrun), all_y (fun e => c6 (ha.trans e)) hr (b2i_inj.mp c10), fun h => or8 (RB_b F0 n) (hw7 (by omega)) (by omega) (pkw_to hq1), fun h1 h2 => absurd h2 (by omega)⟩)
          · skip
            replace c16 := mt (i_le (a := 3) (b := m) (by omega) (by omega)).mpr (of_decide_eq_false c16)
            refine Pv.aload rfl rfl ?_
            refine Pv.lit rfl ?_
            refine Pv.aload rfl rfl ?_
            refine Pv.getI (z := x) rfl rfl ((fpl_i).trans (g14)) ?_
            refine Pv.bin (z := 10 * x) rfl (rfl) ?_
            refine Pv.aload rfl rfl ?_
            refine Pv.callVI (as := [.ref 69]) (rest := [.int (10 * x), .ref 69]) (z := pkw F0 n (q + m)) rfl rfl rfl (g_peek (F0 := F0) (p := q + m) (n := n) (hGG.fx (P := fun _ => True) (((FX.rf (P := fun _ => True))).fpl trivial)) ((fpl_i).trans (g4)) ((fpl_i).trans (g3)) (by omega) (by omega) (fun q => (fpl_i).trans (hBG _))) ?_
            refine Pv.bin (z := (10 * x) + (pkw F0 n (q + m))) rfl (rfl) ?_
            refine Pv.lit rfl ?_
            refine Pv.bin (z := ((10 * x) + (pkw F0 n (q + m))) - 48) rfl (rfl) ?_
            refine Pv.putI rfl rfl ?_
            refine Pv.aload rfl rfl ?_
            refine Pv.dup rfl ?_
            refine Pv.getI (z := Int32.ofNat m) rfl rfl ((fp_ne (Or.inr (by decide))).trans ((fpl_i).trans (g13))) ?_
            refine Pv.lit rfl ?_
            refine Pv.bin (z := Int32.ofNat (m + 1)) rfl (i_add m 1) ?_
            refine Pv.putI rfl rfl ?_
            refine Pv.aload rfl rfl ?_
            refine Pv.dup rfl ?_
            refine Pv.getI (z := Int32.ofNat (q + m)) rfl rfl ((fp_ne (Or.inr (by decide))).trans ((fp_ne (Or.inr (by decide))).trans ((fpl_i).trans (g4)))) ?_
            refine Pv.lit rfl ?_
            refine Pv.bin (z := Int32.ofNat ((q + m) + 1)) rfl (i_add (q + m) 1) ?_
            refine Pv.putI rfl rfl ?_
            refine Pv.goto rfl ?_
            exact ih4 (1, (fp (fp (fp (fpl G 69 17 ((w <<< (Int32.toInt64 8 &&& 63)) ||| (Int32.toInt64 (pkw F0 n (q + m))))) 69 14 (((10 * x) + (pkw F0 n (q + m))) - 48)) 69 13 (Int32.ofNat (m + 1))) 69 4 (Int32.ofNat ((q + m) + 1))), (m + 1), ((10 * x) + (pkw F0 n (q + m))) - 48, (w <<< (Int32.toInt64 8 &&& 63)) ||| (Int32.toInt64 (pkw F0 n (q + m)))) (⟨by omega, (RNX.fp (RNX.fp (RNX.fp (RNX.fl hxG) (Or.inr (Or.inr (Or.inr (Or.inr rfl))))) (Or.inr (Or.inr (Or.inr (Or.inl rfl))))) (Or.inl rfl)), (fun y my => hGG y my), fun k => (fp_ne (Or.inl (by decide))).trans ((fp_ne (Or.inl (by decide))).trans ((fp_ne (Or.inl (by decide))).trans ((fpl_i).trans (hBG _)))), (fp_ne (Or.inr (by decide))).trans ((fp_ne (Or.inr (by decide))).trans ((fp_ne (Or.inr (by decide))).trans ((fpl_i).trans (g3)))), (fp_eq), (fp_ne (Or.inr (by decide))).trans ((fp_ne (Or.inr (by decide))).trans ((fp_ne (Or.inr (by decide))).trans ((fpl_i).trans (g12)))), (fp_ne (Or.inr (by decide))).trans (fp_eq), (fp_ne (Or.inr (by decide))).trans ((fp_ne (Or.inr (by decide))).trans (fp_eq)), (fp_l).trans ((fp_l).trans ((fp_l).trans (fpl_eq))), (congrArg (tk_e tk_r (RBF F0 n) n) (Nat.add_assoc q m 1).symm).trans ((tk_go hq1 hr).symm.trans hrun), all_y (fun e => c6 (ha.trans e)) hr (b2i_inj.mp c10), fun h => or8 (RB_b F0 n) (hw7 (by omega)) (by omega) (pkw_to hq1), fun h1 h2 => num3 (hx3 (all_1 h1) (by omega)) (all_1 h1) (by omega) (pkw_to hq1) (RB_b F0 n)⟩)
  · skip
    replace c5 : decide (b2i (smL (pkw F0 n (q + m))) = 0) = true := by simpa using c5
    replace c5 := of_decide_eq_true c5
    replace c5 := b2z.mp c5
    refine Pv.aload rfl rfl ?_
    refine Pv.callVI (as := [.ref 69]) (rest := []) (z := pkw F0 n (q + m)) rfl rfl rfl (g_peek (F0 := F0) (p := q + m) (n := n) hGG (g4) (g3) (by omega) (by omega) (fun q => hBG _)) ?_
    refine Pv.callI (as := [.int (pkw F0 n (q + m))]) (rest := []) (z := b2i (dgL (pkw F0 n (q + m)))) rfl rfl rfl (g_isDigit (pkw F0 n (q + m))) ?_
    refine Pv.if0 rfl (fun c17 => ?_) (fun c17 => ?_)
    · skip
      replace c17 := of_decide_eq_true c17
      replace c17 := b2z.mp c17
      have hm1 : 1 ≤ m := by
        rcases Nat.eq_zero_or_pos m with e | e
        · have z := rn_stop c5 c17
          rw [e, Nat.add_zero, hfr] at z
          rcases z with z | z
          · omega
          · cases z
        · exact e
      have EM : tk_e tk_r (RBF F0 n) n q - q = m := by rw [← hrun, tk_stop (rn_stop c5 c17)]; omega
      rw [ha]
      refine (g_nx298 (B := (RBF F0 n)) hGG hxG g4 g12 g13 g14 g17 hm1 (by omega) hsm rfl hw7 hx3 _ _).imp (fun r F' h => ?_)
      rw [hQ, EM]
      exact h
    · skip
      replace c17 := of_decide_eq_false c17
      replace c17 := b2n.mp c17
      have hq2 := dg_t c17
      have hr : tk_r ((RBF F0 n) (q + m)) = true := tk_r_d hq2.2
      have hq1 : q + m < n := hq2.1
      refine Pv.iload rfl rfl ?_
      refine Pv.if0 rfl (fun c18 => ?_) (fun c18 => ?_)
      · skip
        replace c18 := of_decide_eq_true c18
        refine Pv.lit rfl ?_
        refine Pv.istore (lo' := [some (.ref 69), o, some (.int (b2i sm)), some (.int 0)]) rfl rfl ?_
        refine Pv.aload rfl rfl ?_
        refine Pv.getI (z := Int32.ofNat m) rfl rfl (g13) ?_
        refine Pv.lit rfl ?_
        refine Pv.icmp rfl (fun c19 => ?_) (fun c19 => ?_)
        · skip
          replace c19 := (i_le (a := 7) (b := m) (by omega) (by omega)).mp (of_decide_eq_true c19)
          refine Pv.aload rfl rfl ?_
          refine Pv.getI (z := Int32.ofNat m) rfl rfl (g13) ?_
          refine Pv.lit rfl ?_
          refine Pv.icmp rfl (fun c20 => ?_) (fun c20 => ?_)
          · skip
            replace c20 := (i_le (a := 3) (b := m) (by omega) (by omega)).mp (of_decide_eq_true c20)
            refine Pv.aload rfl rfl ?_
            refine Pv.dup rfl ?_
            refine Pv.getI (z := Int32.ofNat m) rfl rfl (g13) ?_
            refine Pv.lit rfl ?_
            refine Pv.bin (z := Int32.ofNat (m + 1)) rfl (i_add m 1) ?_
            refine Pv.putI rfl rfl ?_
            refine Pv.aload rfl rfl ?_
            refine Pv.dup rfl ?_
            refine Pv.getI (z := Int32.ofNat (q + m)) rfl rfl ((fp_ne (Or.inr (by decide))).trans (g4)) ?_
            refine Pv.lit rfl ?_
            refine Pv.bin (z := Int32.ofNat ((q + m) + 1)) rfl (i_add (q + m) 1) ?_
            refine Pv.putI rfl rfl ?_
            refine Pv.goto rfl ?_
            exact ih4 (0, (fp (fp G 69 13 (Int32.ofNat (m + 1))) 69 4 (Int32.ofNat ((q + m) + 1))), (m + 1), x, w) (⟨by omega, (RNX.fp (RNX.fp hxG (Or.inr (Or.inr (Or.inr (Or.inl rfl))))) (Or.inl rfl)), (fun y my => hGG y my), fun k => (fp_ne (Or.inl (by decide))).trans ((fp_ne (Or.inl (by decide))).trans (hBG _)), (fp_ne (Or.inr (by decide))).trans ((fp_ne (Or.inr (by decide))).trans (g3)), (fp_eq), (fp_ne (Or.inr (by decide))).trans ((fp_ne (Or.inr (by decide))).trans (g12)), (fp_ne (Or.inr (by decide))).trans (fp_eq), (fp_ne (Or.inr (by decide))).trans ((fp_ne (Or.inr (by decide))).trans (g14)), (fp_l).trans ((fp_l).trans (g17)), (congrArg (tk_e tk_r (RBF F0 n) n) (Nat.add_assoc q m 1).symm).trans ((tk_go hq1 hr).symm.trans hrun), all_z (ha.symm.trans c18), fun h => absurd h (by omega), fun h1 h2 => absurd h2 (by omega)⟩)
          · skip
            replace c20 := mt (i_le (a := 3) (b := m) (by omega) (by omega)).mpr (of_decide_eq_false c20)
            refine Pv.aload rfl rfl ?_
            refine Pv.lit rfl ?_
            refine Pv.aload rfl rfl ?_
            refine Pv.getI (z := x) rfl rfl (g14) ?_
            refine Pv.bin (z := 10 * x) rfl (rfl) ?_
            refine Pv.aload rfl rfl ?_
            refine Pv.callVI (as := [.ref 69]) (rest := [.int (10 * x), .ref 69]) (z := pkw F0 n (q + m)) rfl rfl rfl (g_peek (F0 := F0) (p := q + m) (n := n) hGG (g4) (g3) (by omega) (by omega) (fun q => hBG _)) ?_
            refine Pv.bin (z := (10 * x) + (pkw F0 n (q + m))) rfl (rfl) ?_
            refine Pv.lit rfl ?_
            refine Pv.bin (z := ((10 * x) + (pkw F0 n (q + m))) - 48) rfl (rfl) ?_
            refine Pv.putI rfl rfl ?_
            refine Pv.aload rfl rfl ?_
            refine Pv.dup rfl ?_
            refine Pv.getI (z := Int32.ofNat m) rfl rfl ((fp_ne (Or.inr (by decide))).trans (g13)) ?_
            refine Pv.lit rfl ?_
            refine Pv.bin (z := Int32.ofNat (m + 1)) rfl (i_add m 1) ?_
            refine Pv.putI rfl rfl ?_
            refine Pv.aload rfl rfl ?_
            refine Pv.dup rfl ?_
            refine Pv.getI (z := Int32.ofNat (q + m)) rfl rfl ((fp_ne (Or.inr (by decide))).trans ((fp_ne (Or.inr (by decide))).trans (g4))) ?_
            refine Pv.lit rfl ?_
            refine Pv.bin (z := Int32.ofNat ((q + m) + 1)) rfl (i_add (q + m) 1) ?_
            refine Pv.putI rfl rfl ?_
            refine Pv.goto rfl ?_
            exact ih4 (0, (fp (fp (fp G 69 14 (((10 * x) + (pkw F0 n (q + m))) - 48)) 69 13 (Int32.ofNat (m + 1))) 69 4 (Int32.ofNat ((q + m) + 1))), (m + 1), ((10 * x) + (pkw F0 n (q + m))) - 48, w) (⟨by omega, (RNX.fp (RNX.fp (RNX.fp hxG (Or.inr (Or.inr (Or.inr (Or.inr rfl))))) (Or.inr (Or.inr (Or.inr (Or.inl rfl))))) (Or.inl rfl)), (fun y my => hGG y my), fun k => (fp_ne (Or.inl (by decide))).trans ((fp_ne (Or.inl (by decide))).trans ((fp_ne (Or.inl (by decide))).trans (hBG _))), (fp_ne (Or.inr (by decide))).trans ((fp_ne (Or.inr (by decide))).trans ((fp_ne (Or.inr (by decide))).trans (g3))), (fp_eq), (fp_ne (Or.inr (by decide))).trans ((fp_ne (Or.inr (by decide))).trans ((fp_ne (Or.inr (by decide))).trans (g12))), (fp_ne (Or.inr (by decide))).trans (fp_eq), (fp_ne (Or.inr (by decide))).trans ((fp_ne (Or.inr (by decide))).trans (fp_eq)), (fp_l).trans ((fp_l).trans ((fp_l).trans (g17))), (congrArg (tk_e tk_r (RBF F0 n) n) (Nat.add_assoc q m 1).symm).trans ((tk_go hq1 hr).symm.trans hrun), all_z (ha.symm.trans c18), fun h => absurd h (by omega), fun h1 h2 => num3 (hx3 (all_1 h1) (by omega)) (all_1 h1) (by omega) (pkw_to hq1) (RB_b F0 n)⟩)
        · skip
          replace c19 := mt (i_le (a := 7) (b := m) (by omega) (by omega)).mpr (of_decide_eq_false c19)
          refine Pv.aload rfl rfl ?_
          refine Pv.aload rfl rfl ?_
          refine Pv.getL (z := w) rfl rfl (g17) ?_
          refine Pv.lit rfl ?_
          refine Pv.lsh (z := w <<< (Int32.toInt64 8 &&& 63)) rfl (rfl) ?_
          refine Pv.aload rfl rfl ?_
          refine Pv.callVI (as := [.ref 69]) (rest := [.long (w <<< (Int32.toInt64 8 &&& 63)), .ref 69]) (z := pkw F0 n (q + m)) rfl rfl rfl (g_peek (F0 := F0) (p := q + m) (n := n) hGG (g4) (g3) (by omega) (by omega) (fun q => hBG _)) ?_
          refine Pv.i2l (z := Int32.toInt64 (pkw F0 n (q + m))) rfl (rfl) ?_
          refine Pv.lbin (z := (w <<< (Int32.toInt64 8 &&& 63)) ||| (Int32.toInt64 (pkw F0 n (q + m)))) rfl (rfl) ?_
          refine Pv.putL rfl rfl ?_
          refine Pv.aload rfl rfl ?_
          refine Pv.getI (z := Int32.ofNat m) rfl rfl ((fpl_i).trans (g13)) ?_
          refine Pv.lit rfl ?_
          refine Pv.icmp rfl (fun c21 => ?_) (fun c21 => ?_)
          · skip
            replace c21 := (i_le (a := 3) (b := m) (by omega) (by omega)).mp (of_decide_eq_true c21)
            refine Pv.aload rfl rfl ?_
            refine Pv.dup rfl ?_
            refine Pv.getI (z := Int32.ofNat m) rfl rfl ((fpl_i).trans (g13)) ?_
            refine Pv.lit rfl ?_
            refine Pv.bin (z := Int32.ofNat (m + 1)) rfl (i_add m 1) ?_
            refine Pv.putI rfl rfl ?_
            refine Pv.aload rfl rfl ?_
            refine Pv.dup rfl ?_
            refine Pv.getI (z := Int32.ofNat (q + m)) rfl rfl ((fp_ne (Or.inr (by decide))).trans ((fpl_i).trans (g4))) ?_
            refine Pv.lit rfl ?_
            refine Pv.bin (z := Int32.ofNat ((q + m) + 1)) rfl (i_add (q + m) 1) ?_
            refine Pv.putI rfl rfl ?_
            refine Pv.goto rfl ?_
            exact ih4 (0, (fp (fp (fpl G 69 17 ((w <<< (Int32.toInt64 8 &&& 63)) ||| (Int32.toInt64 (pkw F0 n (q + m))))) 69 13 (Int32.ofNat (m + 1))) 69 4 (Int32.ofNat ((q + m) + 1))), (m + 1), x, (w <<< (Int32.toInt64 8 &&& 63)) ||| (Int32.toInt64 (pkw F0 n (q + m)))) (⟨by omega, (RNX.fp (RNX.fp (RNX.fl hxG) (Or.inr (Or.inr (Or.inr (Or.inl rfl))))) (Or.inl rfl)), (fun y my => hGG y my), fun k => (fp_ne (Or.inl (by decide))).trans ((fp_ne (Or.inl (by decide))).trans ((fpl_i).trans (hBG _))), (fp_ne (Or.inr (by decide))).trans ((fp_ne (Or.inr (by decide))).trans ((fpl_i).trans (g3))), (fp_eq), (fp_ne (Or.inr (by decide))).trans ((fp_ne (Or.inr (by decide))).trans ((fpl_i).trans (g12))), (fp_ne (Or.inr (by decide))).trans (fp_eq), (fp_ne (Or.inr (by decide))).trans ((fp_ne (Or.inr (by decide))).trans ((fpl_i).trans (g14))), (fp_l).trans ((fp_l).trans (fpl_eq)), (congrArg (tk_e tk_r (RBF F0 n) n) (Nat.add_assoc q m 1).symm).trans ((tk_go hq1 hr).symm.trans hrun), all_z (ha.symm.trans c18), fun h => or8 (RB_b F0 n) (hw7 (by omega)) (by omega) (pkw_to hq1), fun h1 h2 => absurd h2 (by omega)⟩)
          · skip
            replace c21 := mt (i_le (a := 3) (b := m) (by omega) (by omega)).mpr (of_decide_eq_false c21)
            refine Pv.aload rfl rfl ?_
            refine Pv.lit rfl ?_
            refine Pv.aload rfl rfl ?_
            refine Pv.getI (z := x) rfl rfl ((fpl_i).trans (g14)) ?_
            refine Pv.bin (z := 10 * x) rfl (rfl) ?_
            refine Pv.aload rfl rfl ?_
            refine Pv.callVI (as := [.ref 69]) (rest := [.int (10 * x), .ref 69]) (z := pkw F0 n (q + m)) rfl rfl rfl (g_peek (F0 := F0) (p := q + m) (n := n) (hGG.fx (P := fun _ => True) (((FX.rf (P := fun _ => True))).fpl trivial)) ((fpl_i).trans (g4)) ((fpl_i).trans (g3)) (by omega) (by omega) (fun q => (fpl_i).trans (hBG _))) ?_
            refine Pv.bin (z := (10 * x) + (pkw F0 n (q + m))) rfl (rfl) ?_
            refine Pv.lit rfl ?_
            refine Pv.bin (z := ((10 * x) + (pkw F0 n (q + m))) - 48) rfl (rfl) ?_
            refine Pv.putI rfl rfl ?_
            refine Pv.aload rfl rfl ?_
            refine Pv.dup rfl ?_
            refine Pv.getI (z := Int32.ofNat m) rfl rfl ((fp_ne (Or.inr (by decide))).trans ((fpl_i).trans (g13))) ?_
            refine Pv.lit rfl ?_
            refine Pv.bin (z := Int32.ofNat (m + 1)) rfl (i_add m 1) ?_
            refine Pv.putI rfl rfl ?_
            refine Pv.aload rfl rfl ?_
            refine Pv.dup rfl ?_
            refine Pv.getI (z := Int32.ofNat (q + m)) rfl rfl ((fp_ne (Or.inr (by decide))).trans ((fp_ne (Or.inr (by decide))).trans ((fpl_i).trans (g4)))) ?_
            refine Pv.lit rfl ?_
            refine Pv.bin (z := Int32.ofNat ((q + m) + 1)) rfl (i_add (q + m) 1) ?_
            refine Pv.putI rfl rfl ?_
            refine Pv.goto rfl ?_
            exact ih4 (0, (fp (fp (fp (fpl G 69 17 ((w <<< (Int32.toInt64 8 &&& 63)) ||| (Int32.toInt64 (pkw F0 n (q + m))))) 69 14 (((10 * x) + (pkw F0 n (q + m))) - 48)) 69 13 (Int32.ofNat (m + 1))) 69 4 (Int32.ofNat ((q + m) + 1))), (m + 1), ((10 * x) + (pkw F0 n (q + m))) - 48, (w <<< (Int32.toInt64 8 &&& 63)) ||| (Int32.toInt64 (pkw F0 n (q + m)))) (⟨by omega, (RNX.fp (RNX.fp (RNX.fp (RNX.fl hxG) (Or.inr (Or.inr (Or.inr (Or.inr rfl))))) (Or.inr (Or.inr (Or.inr (Or.inl rfl))))) (Or.inl rfl)), (fun y my => hGG y my), fun k => (fp_ne (Or.inl (by decide))).trans ((fp_ne (Or.inl (by decide))).trans ((fp_ne (Or.inl (by decide))).trans ((fpl_i).trans (hBG _)))), (fp_ne (Or.inr (by decide))).trans ((fp_ne (Or.inr (by decide))).trans ((fp_ne (Or.inr (by decide))).trans ((fpl_i).trans (g3)))), (fp_eq), (fp_ne (Or.inr (by decide))).trans ((fp_ne (Or.inr (by decide))).trans ((fp_ne (Or.inr (by decide))).trans ((fpl_i).trans (g12)))), (fp_ne (Or.inr (by decide))).trans (fp_eq), (fp_ne (Or.inr (by decide))).trans ((fp_ne (Or.inr (by decide))).trans (fp_eq)), (fp_l).trans ((fp_l).trans ((fp_l).trans (fpl_eq))), (congrArg (tk_e tk_r (RBF F0 n) n) (Nat.add_assoc q m 1).symm).trans ((tk_go hq1 hr).symm.trans hrun), all_z (ha.symm.trans c18), fun h => or8 (RB_b F0 n) (hw7 (by omega)) (by omega) (pkw_to hq1), fun h1 h2 => num3 (hx3 (all_1 h1) (by omega)) (all_1 h1) (by omega) (pkw_to hq1) (RB_b F0 n)⟩)
      · skip
        replace c18 := of_decide_eq_false c18
        refine Pv.aload rfl rfl ?_
        refine Pv.callVI (as := [.ref 69]) (rest := []) (z := pkw F0 n (q + m)) rfl rfl rfl (g_peek (F0 := F0) (p := q + m) (n := n) hGG (g4) (g3) (by omega) (by omega) (fun q => hBG _)) ?_
        refine Pv.callI (as := [.int (pkw F0 n (q + m))]) (rest := []) (z := b2i (smL (pkw F0 n (q + m)))) rfl rfl rfl (g_isSmall (pkw F0 n (q + m))) ?_
        rw [show (b2i (smL (pkw F0 n (q + m)))) = b2i (tk_l ((RBF F0 n) (q + m))) from congrArg b2i (sm_eq hq1)]
        refine Pv.iload rfl rfl ?_
        refine Pv.icmp rfl (fun c22 => ?_) (fun c22 => ?_)
        · skip
          replace c22 : decide (b2i (tk_l ((RBF F0 n) (q + m))) = b2i sm) = false := by simpa using c22
          replace c22 := of_decide_eq_false c22
          refine Pv.lit rfl ?_
          refine Pv.istore (lo' := [some (.ref 69), o, some (.int (b2i sm)), some (.int 0)]) rfl rfl ?_
          refine Pv.aload rfl rfl ?_
          refine Pv.getI (z := Int32.ofNat m) rfl rfl (g13) ?_
          refine Pv.lit rfl ?_
          refine Pv.icmp rfl (fun c23 => ?_) (fun c23 => ?_)
          · skip
            replace c23 := (i_le (a := 7) (b := m) (by omega) (by omega)).mp (of_decide_eq_true c23)
            refine Pv.aload rfl rfl ?_
            refine Pv.getI (z := Int32.ofNat m) rfl rfl (g13) ?_
            refine Pv.lit rfl ?_
            refine Pv.icmp rfl (fun c24 => ?_) (fun c24 => ?_)
            · skip
              replace c24 := (i_le (a := 3) (b := m) (by omega) (by omega)).mp (of_decide_eq_true c24)
              refine Pv.aload rfl rfl ?_
              refine Pv.dup rfl ?_
              refine Pv.getI (z := Int32.ofNat m) rfl rfl (g13) ?_
              refine Pv.lit rfl ?_
              refine Pv.bin (z := Int32.ofNat (m + 1)) rfl (i_add m 1) ?_
              refine Pv.putI rfl rfl ?_
              refine Pv.aload rfl rfl ?_
              refine Pv.dup rfl ?_
              refine Pv.getI (z := Int32.ofNat (q + m)) rfl rfl ((fp_ne (Or.inr (by decide))).trans (g4)) ?_
              refine Pv.lit rfl ?_
              refine Pv.bin (z := Int32.ofNat ((q + m) + 1)) rfl (i_add (q + m) 1) ?_
              refine Pv.putI rfl rfl ?_
              refine Pv.goto rfl ?_
              exact ih4 (0, (fp (fp G 69 13 (Int32.ofNat (m + 1))) 69 4 (Int32.ofNat ((q + m) + 1))), (m + 1), x, w) (⟨by omega, (RNX.fp (RNX.fp hxG (Or.inr (Or.inr (Or.inr (Or.inl rfl))))) (Or.inl rfl)), (fun y my => hGG y my), fun k => (fp_ne (Or.inl (by decide))).trans ((fp_ne (Or.inl (by decide))).trans (hBG _)), (fp_ne (Or.inr (by decide))).trans ((fp_ne (Or.inr (by decide))).trans (g3)), (fp_eq), (fp_ne (Or.inr (by decide))).trans ((fp_ne (Or.inr (by decide))).trans (g12)), (fp_ne (Or.inr (by decide))).trans (fp_eq), (fp_ne (Or.inr (by decide))).trans ((fp_ne (Or.inr (by decide))).trans (g14)), (fp_l).trans ((fp_l).trans (g17)), (congrArg (tk_e tk_r (RBF F0 n) n) (Nat.add_assoc q m 1).symm).trans ((tk_go hq1 hr).symm.trans hrun), all_n hr (fun e => c22 (congrArg b2i e)), fun h => absurd h (by omega), fun h1 h2 => absurd h2 (by omega)⟩)
            · skip
              replace c24 := mt (i_le (a := 3) (b := m) (by omega) (by omega)).mpr (of_decide_eq_false c24)
              refine Pv.aload rfl rfl ?_
              refine Pv.lit rfl ?_
              refine Pv.aload rfl rfl ?_
              refine Pv.getI (z := x) rfl rfl (g14) ?_
              refine Pv.bin (z := 10 * x) rfl (rfl) ?_
              refine Pv.aload rfl rfl ?_
              refine Pv.callVI (as := [.ref 69]) (rest := [.int (10 * x), .ref 69]) (z := pkw F0 n (q + m)) rfl rfl rfl (g_peek (F0 := F0) (p := q + m) (n := n) hGG (g4) (g3) (by omega) (by omega) (fun q => hBG _)) ?_
              refine Pv.bin (z := (10 * x) + (pkw F0 n (q + m))) rfl (rfl) ?_
              refine Pv.lit rfl ?_
              refine Pv.bin (z := ((10 * x) + (pkw F0 n (q + m))) - 48) rfl (rfl) ?_
              refine Pv.putI rfl rfl ?_
              refine Pv.aload rfl rfl ?_
              refine Pv.dup rfl ?_
              refine Pv.getI (z := Int32.ofNat m) rfl rfl ((fp_ne (Or.inr (by decide))).trans (g13)) ?_
              refine Pv.lit rfl ?_
              refine Pv.bin (z := Int32.ofNat (m + 1)) rfl (i_add m 1) ?_
              refine Pv.putI rfl rfl ?_
              refine Pv.aload rfl rfl ?_
              refine Pv.dup rfl ?_
              refine Pv.getI (z := Int32.ofNat (q + m)) rfl rfl ((fp_ne (Or.inr (by decide))).trans ((fp_ne (Or.inr (by decide))).trans (g4))) ?_
              refine Pv.lit rfl ?_
              refine Pv.bin (z := Int32.ofNat ((q + m) + 1)) rfl (i_add (q + m) 1) ?_
              refine Pv.putI rfl rfl ?_
              refine Pv.goto rfl ?_
              exact ih4 (0, (fp (fp (fp G 69 14 (((10 * x) + (pkw F0 n (q + m))) - 48)) 69 13 (Int32.ofNat (m + 1))) 69 4 (Int32.ofNat ((q + m) + 1))), (m + 1), ((10 * x) + (pkw F0 n (q + m))) - 48, w) (⟨by omega, (RNX.fp (RNX.fp (RNX.fp hxG (Or.inr (Or.inr (Or.inr (Or.inr rfl))))) (Or.inr (Or.inr (Or.inr (Or.inl rfl))))) (Or.inl rfl)), (fun y my => hGG y my), fun k => (fp_ne (Or.inl (by decide))).trans ((fp_ne (Or.inl (by decide))).trans ((fp_ne (Or.inl (by decide))).trans (hBG _))), (fp_ne (Or.inr (by decide))).trans ((fp_ne (Or.inr (by decide))).trans ((fp_ne (Or.inr (by decide))).trans (g3))), (fp_eq), (fp_ne (Or.inr (by decide))).trans ((fp_ne (Or.inr (by decide))).trans ((fp_ne (Or.inr (by decide))).trans (g12))), (fp_ne (Or.inr (by decide))).trans (fp_eq), (fp_ne (Or.inr (by decide))).trans ((fp_ne (Or.inr (by decide))).trans (fp_eq)), (fp_l).trans ((fp_l).trans ((fp_l).trans (g17))), (congrArg (tk_e tk_r (RBF F0 n) n) (Nat.add_assoc q m 1).symm).trans ((tk_go hq1 hr).symm.trans hrun), all_n hr (fun e => c22 (congrArg b2i e)), fun h => absurd h (by omega), fun h1 h2 => num3 (hx3 (all_1 h1) (by omega)) (all_1 h1) (by omega) (pkw_to hq1) (RB_b F0 n)⟩)
          · skip
            replace c23 := mt (i_le (a := 7) (b := m) (by omega) (by omega)).mpr (of_decide_eq_false c23)
            refine Pv.aload rfl rfl ?_
            refine Pv.aload rfl rfl ?_
            refine Pv.getL (z := w) rfl rfl (g17) ?_
            refine Pv.lit rfl ?_
            refine Pv.lsh (z := w <<< (Int32.toInt64 8 &&& 63)) rfl (rfl) ?_
            refine Pv.aload rfl rfl ?_
            refine Pv.callVI (as := [.ref 69]) (rest := [.long (w <<< (Int32.toInt64 8 &&& 63)), .ref 69]) (z := pkw F0 n (q + m)) rfl rfl rfl (g_peek (F0 := F0) (p := q + m) (n := n) hGG (g4) (g3) (by omega) (by omega) (fun q => hBG _)) ?_
            refine Pv.i2l (z := Int32.toInt64 (pkw F0 n (q + m))) rfl (rfl) ?_
            refine Pv.lbin (z := (w <<< (Int32.toInt64 8 &&& 63)) ||| (Int32.toInt64 (pkw F0 n (q + m)))) rfl (rfl) ?_
            refine Pv.putL rfl rfl ?_
            refine Pv.aload rfl rfl ?_
            refine Pv.getI (z := Int32.ofNat m) rfl rfl ((fpl_i).trans (g13)) ?_
            refine Pv.lit rfl ?_
            refine Pv.icmp rfl (fun c25 => ?_) (fun c25 => ?_)
            · skip
              replace c25 := (i_le (a := 3) (b := m) (by omega) (by omega)).mp (of_decide_eq_true c25)
              refine Pv.aload rfl rfl ?_
              refine Pv.dup rfl ?_
              refine Pv.getI (z := Int32.ofNat m) rfl rfl ((fpl_i).trans (g13)) ?_
              refine Pv.lit rfl ?_
              refine Pv.bin (z := Int32.ofNat (m + 1)) rfl (i_add m 1) ?_
              refine Pv.putI rfl rfl ?_
              refine Pv.aload rfl rfl ?_
              refine Pv.dup rfl ?_
              refine Pv.getI (z := Int32.ofNat (q + m)) rfl rfl ((fp_ne (Or.inr (by decide))).trans ((fpl_i).trans (g4))) ?_
              refine Pv.lit rfl ?_
              refine Pv.bin (z := Int32.ofNat ((q + m) + 1)) rfl (i_add (q + m) 1) ?_
              refine Pv.putI rfl rfl ?_
              refine Pv.goto rfl ?_
              exact ih4 (0, (fp (fp (fpl G 69 17 ((w <<< (Int32.toInt64 8 &&& 63)) ||| (Int32.toInt64 (pkw F0 n (q + m))))) 69 13 (Int32.ofNat (m + 1))) 69 4 (Int32.ofNat ((q + m) + 1))), (m + 1), x, (w <<< (Int32.toInt64 8 &&& 63)) ||| (Int32.toInt64 (pkw F0 n (q + m)))) (⟨by omega, (RNX.fp (RNX.fp (RNX.fl hxG) (Or.inr (Or.inr (Or.inr (Or.inl rfl))))) (Or.inl rfl)), (fun y my => hGG y my), fun k => (fp_ne (Or.inl (by decide))).trans ((fp_ne (Or.inl (by decide))).trans ((fpl_i).trans (hBG _))), (fp_ne (Or.inr (by decide))).trans ((fp_ne (Or.inr (by decide))).trans ((fpl_i).trans (g3))), (fp_eq), (fp_ne (Or.inr (by decide))).trans ((fp_ne (Or.inr (by decide))).trans ((fpl_i).trans (g12))), (fp_ne (Or.inr (by decide))).trans (fp_eq), (fp_ne (Or.inr (by decide))).trans ((fp_ne (Or.inr (by decide))).trans ((fpl_i).trans (g14))), (fp_l).trans ((fp_l).trans (fpl_eq)), (congrArg (tk_e tk_r (RBF F0 n) n) (Nat.add_assoc q m 1).symm).trans ((tk_go hq1 hr).symm.trans hrun), all_n hr (fun e => c22 (congrArg b2i e)), fun h => or8 (RB_b F0 n) (hw7 (by omega)) (by omega) (pkw_to hq1), fun h1 h2 => absurd h2 (by omega)⟩)
            · skip
              replace c25 := mt (i_le (a := 3) (b := m) (by omega) (by omega)).mpr (of_decide_eq_false c25)
              refine Pv.aload rfl rfl ?_
              refine Pv.lit rfl ?_
              refine Pv.aload rfl rfl ?_
              refine Pv.getI (z := x) rfl rfl ((fpl_i).trans (g14)) ?_
              refine Pv.bin (z := 10 * x) rfl (rfl) ?_
              refine Pv.aload rfl rfl ?_
              refine Pv.callVI (as := [.ref 69]) (rest := [.int (10 * x), .ref 69]) (z := pkw F0 n (q + m)) rfl rfl rfl (g_peek (F0 := F0) (p := q + m) (n := n) (hGG.fx (P := fun _ => True) (((FX.rf (P := fun _ => True))).fpl trivial)) ((fpl_i).trans (g4)) ((fpl_i).trans (g3)) (by omega) (by omega) (fun q => (fpl_i).trans (hBG _))) ?_
              refine Pv.bin (z := (10 * x) + (pkw F0 n (q + m))) rfl (rfl) ?_
              refine Pv.lit rfl ?_
              refine Pv.bin (z := ((10 * x) + (pkw F0 n (q + m))) - 48) rfl (rfl) ?_
              refine Pv.putI rfl rfl ?_
              refine Pv.aload rfl rfl ?_
              refine Pv.dup rfl ?_
              refine Pv.getI (z := Int32.ofNat m) rfl rfl ((fp_ne (Or.inr (by decide))).trans ((fpl_i).trans (g13))) ?_
              refine Pv.lit rfl ?_
              refine Pv.bin (z := Int32.ofNat (m + 1)) rfl (i_add m 1) ?_
              refine Pv.putI rfl rfl ?_
              refine Pv.aload rfl rfl ?_
              refine Pv.dup rfl ?_
              refine Pv.getI (z := Int32.ofNat (q + m)) rfl rfl ((fp_ne (Or.inr (by decide))).trans ((fp_ne (Or.inr (by decide))).trans ((fpl_i).trans (g4)))) ?_
              refine Pv.lit rfl ?_
              refine Pv.bin (z := Int32.ofNat ((q + m) + 1)) rfl (i_add (q + m) 1) ?_
              refine Pv.putI rfl rfl ?_
              refine Pv.goto rfl ?_
              exact ih4 (0, (fp (fp (fp (fpl G 69 17 ((w <<< (Int32.toInt64 8 &&& 63)) ||| (Int32.toInt64 (pkw F0 n (q + m))))) 69 14 (((10 * x) + (pkw F0 n (q + m))) - 48)) 69 13 (Int32.ofNat (m + 1))) 69 4 (Int32.ofNat ((q + m) + 1))), (m + 1), ((10 * x) + (pkw F0 n (q + m))) - 48, (w <<< (Int32.toInt64 8 &&& 63)) ||| (Int32.toInt64 (pkw F0 n (q + m)))) (⟨by omega, (RNX.fp (RNX.fp (RNX.fp (RNX.fl hxG) (Or.inr (Or.inr (Or.inr (Or.inr rfl))))) (Or.inr (Or.inr (Or.inr (Or.inl rfl))))) (Or.inl rfl)), (fun y my => hGG y my), fun k => (fp_ne (Or.inl (by decide))).trans ((fp_ne (Or.inl (by decide))).trans ((fp_ne (Or.inl (by decide))).trans ((fpl_i).trans (hBG _)))), (fp_ne (Or.inr (by decide))).trans ((fp_ne (Or.inr (by decide))).trans ((fp_ne (Or.inr (by decide))).trans ((fpl_i).trans (g3)))), (fp_eq), (fp_ne (Or.inr (by decide))).trans ((fp_ne (Or.inr (by decide))).trans ((fp_ne (Or.inr (by decide))).trans ((fpl_i).trans (g12)))), (fp_ne (Or.inr (by decide))).trans (fp_eq), (fp_ne (Or.inr (by decide))).trans ((fp_ne (Or.inr (by decide))).trans (fp_eq)), (fp_l).trans ((fp_l).trans ((fp_l).trans (fpl_eq))), (congrArg (tk_e tk_r (RBF F0 n) n) (Nat.add_assoc q m 1).symm).trans ((tk_go hq1 hr).symm.trans hrun), all_n hr (fun e => c22 (congrArg b2i e)), fun h => or8 (RB_b F0 n) (hw7 (by omega)) (by omega) (pkw_to hq1), fun h1 h2 => num3 (hx3 (all_1 h1) (by omega)) (all_1 h1) (by omega) (pkw_to hq1) (RB_b F0 n)⟩)
        · skip
          replace c22 : decide (b2i (tk_l ((RBF F0 n) (q + m))) = b2i sm) = true := by simpa using c22
          replace c22 := of_decide_eq_true c22
          refine Pv.lit rfl ?_
          refine Pv.goto rfl ?_
          refine Pv.istore (lo' := [some (.ref 69), o, some (.int (b2i sm)), some (.int 1)]) rfl rfl ?_
          refine Pv.aload rfl rfl ?_
          refine Pv.getI (z := Int32.ofNat m) rfl rfl (g13) ?_
          refine Pv.lit rfl ?_
          refine Pv.icmp rfl (fun c26 => ?_) (fun c26 => ?_)
          · skip
            replace c26 := (i_le (a := 7) (b := m) (by omega) (by omega)).mp (of_decide_eq_true c26)
            refine Pv.aload rfl rfl ?_
            refine Pv.getI (z := Int32.ofNat m) rfl rfl (g13) ?_
            refine Pv.lit rfl ?_
            refine Pv.icmp rfl (fun c27 => ?_) (fun c27 => ?_)
            · skip
              replace c27 := (i_le (a := 3) (b := m) (by omega) (by omega)).mp (of_decide_eq_true c27)
              refine Pv.aload rfl rfl ?_
              refine Pv.dup rfl ?_
              refine Pv.getI (z := Int32.ofNat m) rfl rfl (g13) ?_
              refine Pv.lit rfl ?_
              refine Pv.bin (z := Int32.ofNat (m + 1)) rfl (i_add m 1) ?_
              refine Pv.putI rfl rfl ?_
              refine Pv.aload rfl rfl ?_
              refine Pv.dup rfl ?_
              refine Pv.getI (z := Int32.ofNat (q + m)) rfl rfl ((fp_ne (Or.inr (by decide))).trans (g4)) ?_
              refine Pv.lit rfl ?_
              refine Pv.bin (z := Int32.ofNat ((q + m) + 1)) rfl (i_add (q + m) 1) ?_
              refine Pv.putI rfl rfl ?_
              refine Pv.goto rfl ?_
              exact ih4 (1, (fp (fp G 69 13 (Int32.ofNat (m + 1))) 69 4 (Int32.ofNat ((q + m) + 1))), (m + 1), x, w) (⟨by omega, (RNX.fp (RNX.fp hxG (Or.inr (Or.inr (Or.inr (Or.inl rfl))))) (Or.inl rfl)), (fun y my => hGG y my), fun k => (fp_ne (Or.inl (by decide))).trans ((fp_ne (Or.inl (by decide))).trans (hBG _)), (fp_ne (Or.inr (by decide))).trans ((fp_ne (Or.inr (by decide))).trans (g3)), (fp_eq), (fp_ne (Or.inr (by decide))).trans ((fp_ne (Or.inr (by decide))).trans (g12)), (fp_ne (Or.inr (by decide))).trans (fp_eq), (fp_ne (Or.inr (by decide))).trans ((fp_ne (Or.inr (by decide))).trans (g14)), (fp_l).trans ((fp_l).trans (g17)), (congrArg (tk_e tk_r (RBF F0 n) n) (Nat.add_assoc q m 1).symm).trans ((tk_go hq1 hr).symm.trans hrun), all_y (fun e => c18 (ha.trans e)) hr (b2i_inj.mp c22), fun h => absurd h (by omega), fun h1 h2 => absurd h2 (by omega)⟩)
            · skip
              replace c27 := mt (i_le (a := 3) (b := m) (by omega) (by omega)).mpr (of_decide_eq_false c27)
              refine Pv.aload rfl rfl ?_
              refine Pv.lit rfl ?_
              refine Pv.aload rfl rfl ?_
              refine Pv.getI (z := x) rfl rfl (g14) ?_
              refine Pv.bin (z := 10 * x) rfl (rfl) ?_
              refine Pv.aload rfl rfl ?_
              refine Pv.callVI (as := [.ref 69]) (rest := [.int (10 * x), .ref 69]) (z := pkw F0 n (q + m)) rfl rfl rfl (g_peek (F0 := F0) (p := q + m) (n := n) hGG (g4) (g3) (by omega) (by omega) (fun q => hBG _)) ?_
              refine Pv.bin (z := (10 * x) + (pkw F0 n (q + m))) rfl (rfl) ?_
              refine Pv.lit rfl ?_
              refine Pv.bin (z := ((10 * x) + (pkw F0 n (q + m))) - 48) rfl (rfl) ?_
              refine Pv.putI rfl rfl ?_
              refine Pv.aload rfl rfl ?_
              refine Pv.dup rfl ?_
              refine Pv.getI (z := Int32.ofNat m) rfl rfl ((fp_ne (Or.inr (by decide))).trans (g13)) ?_
              refine Pv.lit rfl ?_
              refine Pv.bin (z := Int32.ofNat (m + 1)) rfl (i_add m 1) ?_
              refine Pv.putI rfl rfl ?_
              refine Pv.aload rfl rfl ?_
              refine Pv.dup rfl ?_
              refine Pv.getI (z := Int32.ofNat (q + m)) rfl rfl ((fp_ne (Or.inr (by decide))).trans ((fp_ne (Or.inr (by decide))).trans (g4))) ?_
              refine Pv.lit rfl ?_
              refine Pv.bin (z := Int32.ofNat ((q + m) + 1)) rfl (i_add (q + m) 1) ?_
              refine Pv.putI rfl rfl ?_
              refine Pv.goto rfl ?_
              exact ih4 (1, (fp (fp (fp G 69 14 (((10 * x) + (pkw F0 n (q + m))) - 48)) 69 13 (Int32.ofNat (m + 1))) 69 4 (Int32.ofNat ((q + m) + 1))), (m + 1), ((10 * x) + (pkw F0 n (q + m))) - 48, w) (⟨by omega, (RNX.fp (RNX.fp (RNX.fp hxG (Or.inr (Or.inr (Or.inr (Or.inr rfl))))) (Or.inr (Or.inr (Or.inr (Or.inl rfl))))) (Or.inl rfl)), (fun y my => hGG y my), fun k => (fp_ne (Or.inl (by decide))).trans ((fp_ne (Or.inl (by decide))).trans ((fp_ne (Or.inl (by decide))).trans (hBG _))), (fp_ne (Or.inr (by decide))).trans ((fp_ne (Or.inr (by decide))).trans ((fp_ne (Or.inr (by decide))).trans (g3))), (fp_eq), (fp_ne (Or.inr (by decide))).trans ((fp_ne (Or.inr (by decide))).trans ((fp_ne (Or.inr (by decide))).trans (g12))), (fp_ne (Or.inr (by decide))).trans (fp_eq), (fp_ne (Or.inr (by decide))).trans ((fp_ne (Or.inr (by decide))).trans (fp_eq)), (fp_l).trans ((fp_l).trans ((fp_l).trans (g17))), (congrArg (tk_e tk_r (RBF F0 n) n) (Nat.add_assoc q m 1).symm).trans ((tk_go hq1 hr).symm.trans hrun), all_y (fun e => c18 (ha.trans e)) hr (b2i_inj.mp c22), fun h => absurd h (by omega), fun h1 h2 => num3 (hx3 (all_1 h1) (by omega)) (all_1 h1) (by omega) (pkw_to hq1) (RB_b F0 n)⟩)
          · skip
            replace c26 := mt (i_le (a := 7) (b := m) (by omega) (by omega)).mpr (of_decide_eq_false c26)
            refine Pv.aload rfl rfl ?_
            refine Pv.aload rfl rfl ?_
            refine Pv.getL (z := w) rfl rfl (g17) ?_
            refine Pv.lit rfl ?_
            refine Pv.lsh (z := w <<< (Int32.toInt64 8 &&& 63)) rfl (rfl) ?_
            refine Pv.aload rfl rfl ?_
            refine Pv.callVI (as := [.ref 69]) (rest := [.long (w <<< (Int32.toInt64 8 &&& 63)), .ref 69]) (z := pkw F0 n (q + m)) rfl rfl rfl (g_peek (F0 := F0) (p := q + m) (n := n) hGG (g4) (g3) (by omega) (by omega) (fun q => hBG _)) ?_
            refine Pv.i2l (z := Int32.toInt64 (pkw F0 n (q + m))) rfl (rfl) ?_
            refine Pv.lbin (z := (w <<< (Int32.toInt64 8 &&& 63)) ||| (Int32.toInt64 (pkw F0 n (q + m)))) rfl (rfl) ?_
            refine Pv.putL rfl rfl ?_
            refine Pv.aload rfl rfl ?_
            refine Pv.getI (z := Int32.ofNat m) rfl rfl ((fpl_i).trans (g13)) ?_
            refine Pv.lit rfl ?_
            refine Pv.icmp rfl (fun c28 => ?_) (fun c28 => ?_)
            · skip
              replace c28 := (i_le (a := 3) (b := m) (by omega) (by omega)).mp (of_decide_eq_true c28)
              refine Pv.aload rfl rfl ?_
              refine Pv.dup rfl ?_
              refine Pv.getI (z := Int32.ofNat m) rfl rfl ((fpl_i).trans (g13)) ?_
              refine Pv.lit rfl ?_
              refine Pv.bin (z := Int32.ofNat (m + 1)) rfl (i_add m 1) ?_
              refine Pv.putI rfl rfl ?_
              refine Pv.aload rfl rfl ?_
              refine Pv.dup rfl ?_
              refine Pv.getI (z := Int32.ofNat (q + m)) rfl rfl ((fp_ne (Or.inr (by decide))).trans ((fpl_i).trans (g4))) ?_
              refine Pv.lit rfl ?_
              refine Pv.bin (z := Int32.ofNat ((q + m) + 1)) rfl (i_add (q + m) 1) ?_
              refine Pv.putI rfl rfl ?_
              refine Pv.goto rfl ?_
              exact ih4 (1, (fp (fp (fpl G 69 17 ((w <<< (Int32.toInt64 8 &&& 63)) ||| (Int32.toInt64 (pkw F0 n (q + m))))) 69 13 (Int32.ofNat (m + 1))) 69 4 (Int32.ofNat ((q + m) + 1))), (m + 1), x, (w <<< (Int32.toInt64 8 &&& 63)) ||| (Int32.toInt64 (pkw F0 n (q + m)))) (⟨by omega, (RNX.fp (RNX.fp (RNX.fl hxG) (Or.inr (Or.inr (Or.inr (Or.inl rfl))))) (Or.inl rfl)), (fun y my => hGG y my), fun k => (fp_ne (Or.inl (by decide))).trans ((fp_ne (Or.inl (by decide))).trans ((fpl_i).trans (hBG _))), (fp_ne (Or.inr (by decide))).trans ((fp_ne (Or.inr (by decide))).trans ((fpl_i).trans (g3))), (fp_eq), (fp_ne (Or.inr (by decide))).trans ((fp_ne (Or.inr (by decide))).trans ((fpl_i).trans (g12))), (fp_ne (Or.inr (by decide))).trans (fp_eq), (fp_ne (Or.inr (by decide))).trans ((fp_ne (Or.inr (by decide))).trans ((fpl_i).trans (g14))), (fp_l).trans ((fp_l).trans (fpl_eq)), (congrArg (tk_e tk_r (RBF F0 n) n) (Nat.add_assoc q m 1).symm).trans ((tk_go hq1 hr).symm.trans hrun), all_y (fun e => c18 (ha.trans e)) hr (b2i_inj.mp c22), fun h => or8 (RB_b F0 n) (hw7 (by omega)) (by omega) (pkw_to hq1), fun h1 h2 => absurd h2 (by omega)⟩)
            · skip
              replace c28 := mt (i_le (a := 3) (b := m) (by omega) (by omega)).mpr (of_decide_eq_false c28)
              refine Pv.aload rfl rfl ?_
              refine Pv.lit rfl ?_
              refine Pv.aload rfl rfl ?_
              refine Pv.getI (z := x) rfl rfl ((fpl_i).trans (g14)) ?_
              refine Pv.bin (z := 10 * x) rfl (rfl) ?_
              refine Pv.aload rfl rfl ?_
              refine Pv.callVI (as := [.ref 69]) (rest := [.int (10 * x), .ref 69]) (z := pkw F0 n (q + m)) rfl rfl rfl (g_peek (F0 := F0) (p := q + m) (n := n) (hGG.fx (P := fun _ => True) (((FX.rf (P := fun _ => True))).fpl trivial)) ((fpl_i).trans (g4)) ((fpl_i).trans (g3)) (by omega) (by omega) (fun q => (fpl_i).trans (hBG _))) ?_
              refine Pv.bin (z := (10 * x) + (pkw F0 n (q + m))) rfl (rfl) ?_
              refine Pv.lit rfl ?_
              refine Pv.bin (z := ((10 * x) + (pkw F0 n (q + m))) - 48) rfl (rfl) ?_
              refine Pv.putI rfl rfl ?_
              refine Pv.aload rfl rfl ?_
              refine Pv.dup rfl ?_
              refine Pv.getI (z := Int32.ofNat m) rfl rfl ((fp_ne (Or.inr (by decide))).trans ((fpl_i).trans (g13))) ?_
              refine Pv.lit rfl ?_
              refine Pv.bin (z := Int32.ofNat (m + 1)) rfl (i_add m 1) ?_
              refine Pv.putI rfl rfl ?_
              refine Pv.aload rfl rfl ?_
              refine Pv.dup rfl ?_
              refine Pv.getI (z := Int32.ofNat (q + m)) rfl rfl ((fp_ne (Or.inr (by decide))).trans ((fp_ne (Or.inr (by decide))).trans ((fpl_i).trans (g4)))) ?_
              refine Pv.lit rfl ?_
              refine Pv.bin (z := Int32.ofNat ((q + m) + 1)) rfl (i_add (q + m) 1) ?_
              refine Pv.putI rfl rfl ?_
              refine Pv.goto rfl ?_
              exact ih4 (1, (fp (fp (fp (fpl G 69 17 ((w <<< (Int32.toInt64 8 &&& 63)) ||| (Int32.toInt64 (pkw F0 n (q + m))))) 69 14 (((10 * x) + (pkw F0 n (q + m))) - 48)) 69 13 (Int32.ofNat (m + 1))) 69 4 (Int32.ofNat ((q + m) + 1))), (m + 1), ((10 * x) + (pkw F0 n (q + m))) - 48, (w <<< (Int32.toInt64 8 &&& 63)) ||| (Int32.toInt64 (pkw F0 n (q + m)))) (⟨by omega, (RNX.fp (RNX.fp (RNX.fp (RNX.fl hxG) (Or.inr (Or.inr (Or.inr (Or.inr rfl))))) (Or.inr (Or.inr (Or.inr (Or.inl rfl))))) (Or.inl rfl)), (fun y my => hGG y my), fun k => (fp_ne (Or.inl (by decide))).trans ((fp_ne (Or.inl (by decide))).trans ((fp_ne (Or.inl (by decide))).trans ((fpl_i).trans (hBG _)))), (fp_ne (Or.inr (by decide))).trans ((fp_ne (Or.inr (by decide))).trans ((fp_ne (Or.inr (by decide))).trans ((fpl_i).trans (g3)))), (fp_eq), (fp_ne (Or.inr (by decide))).trans ((fp_ne (Or.inr (by decide))).trans ((fp_ne (Or.inr (by decide))).trans ((fpl_i).trans (g12)))), (fp_ne (Or.inr (by decide))).trans (fp_eq), (fp_ne (Or.inr (by decide))).trans ((fp_ne (Or.inr (by decide))).trans (fp_eq)), (fp_l).trans ((fp_l).trans ((fp_l).trans (fpl_eq))), (congrArg (tk_e tk_r (RBF F0 n) n) (Nat.add_assoc q m 1).symm).trans ((tk_go hq1 hr).symm.trans hrun), all_y (fun e => c18 (ha.trans e)) hr (b2i_inj.mp c22), fun h => or8 (RB_b F0 n) (hw7 (by omega)) (by omega) (pkw_to hq1), fun h1 h2 => num3 (hx3 (all_1 h1) (by omega)) (all_1 h1) (by omega) (pkw_to hq1) (RB_b F0 n)⟩)
set_option maxRecDepth 100000 in
set_option maxHeartbeats 4000000 in
theorem g_next {F : FW} {n p lim : Nat} (hG : GW F) (h3 : F.1 69 3 = Int32.ofNat n) (h4 : F.1 69 4 = Int32.ofNat p) (h5 : F.1 69 5 = Int32.ofNat lim) (hn : n ≤ 940) (hpn : p ≤ n) (hl : lim ≤ 940) : Pm Z_X11_next [.ref 69] F (fun r F' => r = none ∧ RNX F F' ∧ NTF F' (tkt (RBF F n) n lim p)) := by
  refine Pm.of fun N => ?_
  obtain ⟨Q, hQ⟩ : ∃ Q : Option Value → FW → Prop, Q = (fun r F' => r = none ∧ RNX F F' ∧ NTF F' (tkt (RBF F n) n lim p)) := ⟨_, rfl⟩
  rw [← hQ]
  refine Pv.fE (G := fp F 69 4 (Int32.ofNat p)) (fp_id h4) ?_
  refine (show Pv (ab_T (L_X11_next Z_X11_peek Z_X11_isSmall Z_X11_isDigit)) N 0 [some (.ref 69), none, none, none] [] (fp F 69 4 (Int32.ofNat p)) Q from ?_)
  refine Pv.lp (ι := Nat) (lof := fun q => [some (.ref 69), none, none, none]) (Ff := fun q => (fp F 69 4 (Int32.ofNat q))) (P := fun q => p ≤ q ∧ q ≤ n ∧ tk_e tk_b (RBF F n) n q = tk_e tk_b (RBF F n) n p) ?_ p (⟨Nat.le_refl _, hpn, rfl⟩)
  rintro N1 hN2 q hi3 ih4
  refine (show Pv _ _ 0 [some (.ref 69), none, none, none] [] (fp F 69 4 (Int32.ofNat q)) Q from ?_)
  obtain ⟨hpq, hqn0, hrun⟩ := hi3
  refine Pv.aloadS rfl rfl ?_
  refine Pv.callVI (as := [.ref 69]) (rest := []) (z := pkw F n q) rfl rfl rfl (g_peek (F0 := F) (p := q) (n := n) (hG.fx (P := fun _ => True) (((FX.rf (P := fun _ => True))).fp trivial)) (fp_eq) ((fp_ne (Or.inr (by decide))).trans (h3)) (by omega) (by omega) (fun q => fp_ne (Or.inl (by decide)))) ?_
  refine Pv.lit rfl ?_
  refine Pv.icmp rfl (fun c5 => ?_) (fun c5 => ?_)
  · skip
    replace c5 := of_decide_eq_true c5
    have hqy := pkw_in c5 (by decide)
    have hby : tk_b ((RBF F n) q) = true := by rw [hqy.2]; decide
    refine Pv.aload rfl rfl ?_
    refine Pv.dup rfl ?_
    refine Pv.getI (z := Int32.ofNat q) rfl rfl (fp_eq) ?_
    refine Pv.lit rfl ?_
    refine Pv.bin (z := Int32.ofNat (q + 1)) rfl (i_add q 1) ?_
    refine Pv.putI rfl rfl ?_
    refine Pv.goto rfl ?_
    refine Pv.fE (G := fp F 69 4 (Int32.ofNat (q + 1))) (fp_fp) ?_
    exact ih4 (q + 1) (⟨by omega, by omega, (tk_go hqy.1 hby).symm.trans hrun⟩)
  · skip
    replace c5 := of_decide_eq_false c5
    refine Pv.aload rfl rfl ?_
    refine Pv.callVI (as := [.ref 69]) (rest := []) (z := pkw F n q) rfl rfl rfl (g_peek (F0 := F) (p := q) (n := n) (hG.fx (P := fun _ => True) (((FX.rf (P := fun _ => True))).fp trivial)) (fp_eq) ((fp_ne (Or.inr (by decide))).trans (h3)) (by omega) (by omega) (fun q => fp_ne (Or.inl (by decide)))) ?_
    refine Pv.lit rfl ?_
    refine Pv.icmp rfl (fun c6 => ?_) (fun c6 => ?_)
    · skip
      replace c6 : decide (pkw F n q = 10) = false := by simpa using c6
      replace c6 := of_decide_eq_false c6
      have hs : tk_e tk_b (RBF F n) n p = q := hrun.symm.trans (tk_stop (pkw_nb c5 c6))
      have ht : tkt (RBF F n) n lim p = tkq (RBF F n) n lim q := congrArg (tkq (RBF F n) n lim) hs
      refine Pv.aload rfl rfl ?_
      refine Pv.aload rfl rfl ?_
      refine Pv.getI (z := Int32.ofNat q) rfl rfl (fp_eq) ?_
      refine Pv.putI rfl rfl ?_
      refine Pv.aload rfl rfl ?_
      refine Pv.lit rfl ?_
      refine Pv.putI rfl rfl ?_
      refine Pv.aload rfl rfl ?_
      refine Pv.getI (z := Int32.ofNat n) rfl rfl ((fp_ne (Or.inr (by decide))).trans ((fp_ne (Or.inr (by decide))).trans ((fp_ne (Or.inr (by decide))).trans (h3)))) ?_
      refine Pv.aload rfl rfl ?_
      refine Pv.getI (z := Int32.ofNat lim) rfl rfl ((fp_ne (Or.inr (by decide))).trans ((fp_ne (Or.inr (by decide))).trans ((fp_ne (Or.inr (by decide))).trans (h5)))) ?_
      refine Pv.icmp rfl (fun c7 => ?_) (fun c7 => ?_)
      · skip
        replace c7 := (i_le (a := n) (b := lim) (by omega) (by omega)).mp (of_decide_eq_true c7)
        have hlim : ¬ (lim < n ∧ lim ≤ q) := by omega
        refine Pv.aload rfl rfl ?_
        refine Pv.callVI (as := [.ref 69]) (rest := []) (z := pkw F n q) rfl rfl rfl (g_peek (F0 := F) (p := q) (n := n) (hG.fx (P := fun _ => True) (((((FX.rf (P := fun _ => True))).fp trivial).fp trivial).fp trivial)) ((fp_ne (Or.inr (by decide))).trans ((fp_ne (Or.inr (by decide))).trans (fp_eq))) ((fp_ne (Or.inr (by decide))).trans ((fp_ne (Or.inr (by decide))).trans ((fp_ne (Or.inr (by decide))).trans (h3)))) (by omega) (by omega) (fun q => (fp_ne (Or.inl (by decide))).trans ((fp_ne (Or.inl (by decide))).trans (fp_ne (Or.inl (by decide)))))) ?_
        refine Pv.istore (lo' := [some (.ref 69), some (.int (pkw F n q)), none, none]) rfl rfl ?_
        refine Pv.iload rfl rfl ?_
        refine Pv.if0 rfl (fun c8 => ?_) (fun c8 => ?_)
        · skip
          replace c8 := of_decide_eq_true c8
          refine Pv.iload rfl rfl ?_
          refine Pv.callI (as := [.int (pkw F n q)]) (rest := []) (z := b2i (smL (pkw F n q))) rfl rfl rfl (g_isSmall (pkw F n q)) ?_
          refine Pv.if0 rfl (fun c9 => ?_) (fun c9 => ?_)
          · skip
            replace c9 : decide (b2i (smL (pkw F n q)) = 0) = false := by simpa using c9
            replace c9 := of_decide_eq_false c9
            replace c9 := b2n.mp c9
            refine Pv.iload rfl rfl ?_
            refine Pv.callI (as := [.int (pkw F n q)]) (rest := []) (z := b2i (smL (pkw F n q))) rfl rfl rfl (g_isSmall (pkw F n q)) ?_
            refine Pv.istore (lo' := [some (.ref 69), some (.int (pkw F n q)), some (.int (b2i (smL (pkw F n q)))), none]) rfl rfl ?_
            refine Pv.lit rfl ?_
            refine Pv.istore (lo' := [some (.ref 69), some (.int (pkw F n q)), some (.int (b2i (smL (pkw F n q)))), some (.int 1)]) rfl rfl ?_
            refine Pv.aload rfl rfl ?_
            refine Pv.lit rfl ?_
            refine Pv.putL rfl rfl ?_
            refine Pv.aload rfl rfl ?_
            refine Pv.lit rfl ?_
            refine Pv.putI rfl rfl ?_
            have hq2 := sm_t c9
            have hfr : tk_r ((RBF F n) q) = true := tk_r_l hq2.2
            have hq1 : q < n := hq2.1
            refine (g_nx181 (F0 := F) (q := q) (n := n) (sm := smL (pkw F n q)) (hG.fx (P := fun _ => True) (((((((FX.rf (P := fun _ => True))).fp trivial).fp trivial).fp trivial).fpl trivial).fp trivial)) (RNX.fp (RNX.fl (RNX.fp (RNX.fp (RNX.fp RNX.rf (Or.inl rfl)) (Or.inr (Or.inr (Or.inl rfl)))) (Or.inr (Or.inr (Or.inr (Or.inl rfl)))))) (Or.inr (Or.inr (Or.inr (Or.inr rfl))))) (fun k => (fp_ne (Or.inl (by decide))).trans ((fpl_i).trans ((fp_ne (Or.inl (by decide))).trans ((fp_ne (Or.inl (by decide))).trans (fp_ne (Or.inl (by decide))))))) ((fp_ne (Or.inr (by decide))).trans ((fpl_i).trans ((fp_ne (Or.inr (by decide))).trans ((fp_ne (Or.inr (by decide))).trans ((fp_ne (Or.inr (by decide))).trans (h3)))))) ((fp_ne (Or.inr (by decide))).trans ((fpl_i).trans ((fp_ne (Or.inr (by decide))).trans ((fp_ne (Or.inr (by decide))).trans (fp_eq))))) ((fp_ne (Or.inr (by decide))).trans ((fpl_i).trans ((fp_ne (Or.inr (by decide))).trans (fp_eq)))) ((fp_ne (Or.inr (by decide))).trans ((fpl_i).trans (fp_eq))) (fp_eq) ((fp_l).trans (fpl_eq)) hn hq1 (by rw [cls_eq _ hfr, sm_eq hq1]; exact beq_self_eq_true _) hfr _ _).imp (fun r F' h => ?_)
            rw [hQ, ht, tkq_run hlim hq1 hfr]
            exact h
          · skip
            replace c9 : decide (b2i (smL (pkw F n q)) = 0) = true := by simpa using c9
            replace c9 := of_decide_eq_true c9
            replace c9 := b2z.mp c9
            refine Pv.iload rfl rfl ?_
            refine Pv.callI (as := [.int (pkw F n q)]) (rest := []) (z := b2i (dgL (pkw F n q))) rfl rfl rfl (g_isDigit (pkw F n q)) ?_
            refine Pv.if0 rfl (fun c10 => ?_) (fun c10 => ?_)
            · skip
              replace c10 : decide (b2i (dgL (pkw F n q)) = 0) = false := by simpa using c10
              replace c10 := of_decide_eq_false c10
              replace c10 := b2n.mp c10
              refine Pv.iload rfl rfl ?_
              refine Pv.callI (as := [.int (pkw F n q)]) (rest := []) (z := b2i (smL (pkw F n q))) rfl rfl rfl (g_isSmall (pkw F n q)) ?_
              refine Pv.istore (lo' := [some (.ref 69), some (.int (pkw F n q)), some (.int (b2i (smL (pkw F n q)))), none]) rfl rfl ?_
              refine Pv.lit rfl ?_
              refine Pv.istore (lo' := [some (.ref 69), some (.int (pkw F n q)), some (.int (b2i (smL (pkw F n q)))), some (.int 1)]) rfl rfl ?_
              refine Pv.aload rfl rfl ?_
              refine Pv.lit rfl ?_
              refine Pv.putL rfl rfl ?_
              refine Pv.aload rfl rfl ?_
              refine Pv.lit rfl ?_
              refine Pv.putI rfl rfl ?_
              have hq2 := dg_t c10
              have hfr : tk_r ((RBF F n) q) = true := tk_r_d hq2.2
              have hq1 : q < n := hq2.1
              refine (g_nx181 (F0 := F) (q := q) (n := n) (sm := smL (pkw F n q)) (hG.fx (P := fun _ => True) (((((((FX.rf (P := fun _ => True))).fp trivial).fp trivial).fp trivial).fpl trivial).fp trivial)) (RNX.fp (RNX.fl (RNX.fp (RNX.fp (RNX.fp RNX.rf (Or.inl rfl)) (Or.inr (Or.inr (Or.inl rfl)))) (Or.inr (Or.inr (Or.inr (Or.inl rfl)))))) (Or.inr (Or.inr (Or.inr (Or.inr rfl))))) (fun k => (fp_ne (Or.inl (by decide))).trans ((fpl_i).trans ((fp_ne (Or.inl (by decide))).trans ((fp_ne (Or.inl (by decide))).trans (fp_ne (Or.inl (by decide))))))) ((fp_ne (Or.inr (by decide))).trans ((fpl_i).trans ((fp_ne (Or.inr (by decide))).trans ((fp_ne (Or.inr (by decide))).trans ((fp_ne (Or.inr (by decide))).trans (h3)))))) ((fp_ne (Or.inr (by decide))).trans ((fpl_i).trans ((fp_ne (Or.inr (by decide))).trans ((fp_ne (Or.inr (by decide))).trans (fp_eq))))) ((fp_ne (Or.inr (by decide))).trans ((fpl_i).trans ((fp_ne (Or.inr (by decide))).trans (fp_eq)))) ((fp_ne (Or.inr (by decide))).trans ((fpl_i).trans (fp_eq))) (fp_eq) ((fp_l).trans (fpl_eq)) hn hq1 (by rw [cls_eq _ hfr, sm_eq hq1]; exact beq_self_eq_true _) hfr _ _).imp (fun r F' h => ?_)
              rw [hQ, ht, tkq_run hlim hq1 hfr]
              exact h
            · skip
              replace c10 : decide (b2i (dgL (pkw F n q)) = 0) = true := by simpa using c10
              replace c10 := of_decide_eq_true c10
              replace c10 := b2z.mp c10
              refine Pv.aload rfl rfl ?_
              refine Pv.iload rfl rfl ?_
              refine Pv.lit rfl ?_
              refine Pv.icmp rfl (fun c11 => ?_) (fun c11 => ?_)
              · skip
                replace c11 := of_decide_eq_true c11
                refine Pv.lit rfl ?_
                refine Pv.goto rfl ?_
                refine Pv.putI rfl rfl ?_
                refine Pv.aload rfl rfl ?_
                refine Pv.iload rfl rfl ?_
                refine Pv.putI rfl rfl ?_
                refine Pv.aload rfl rfl ?_
                refine Pv.dup rfl ?_
                refine Pv.getI (z := Int32.ofNat q) rfl rfl ((fp_ne (Or.inr (by decide))).trans ((fp_ne (Or.inr (by decide))).trans ((fp_ne (Or.inr (by decide))).trans ((fp_ne (Or.inr (by decide))).trans (fp_eq))))) ?_
                refine Pv.lit rfl ?_
                refine Pv.bin (z := Int32.ofNat (q + 1)) rfl (i_add q 1) ?_
                refine Pv.putI rfl rfl ?_
                have hq1 := pkw_pos c8
                have hr0 : tk_r ((RBF F n) q) = false := tk_r_f (sm_f hq1 c9) (dg_f hq1 c10)
                have sg := sg_y hq1 c11 (Or.inl rfl)
                have TK := ht.trans (tkq_sig hlim hq1 hr0)
                exact Pv.vret rfl (by rw [hQ]; exact ⟨rfl, (RNX.fp (RNX.fp (RNX.fp (RNX.fp (RNX.fp (RNX.fp RNX.rf (Or.inl rfl)) (Or.inr (Or.inr (Or.inl rfl)))) (Or.inr (Or.inr (Or.inr (Or.inl rfl))))) (Or.inr (Or.inl rfl))) (Or.inr (Or.inr (Or.inr (Or.inr rfl))))) (Or.inl rfl)), by rw [TK]; exact ⟨(congrArg Int32.toInt ((fp_ne (Or.inr (by decide))).trans ((fp_ne (Or.inr (by decide))).trans ((fp_ne (Or.inr (by decide))).trans ((fp_ne (Or.inr (by decide))).trans (fp_eq)))))).trans (i_toInt (by omega)), fp_eq, (congrArg Int32.toInt ((fp_ne (Or.inr (by decide))).trans ((fp_ne (Or.inr (by decide))).trans (fp_eq)))).trans ((show (3 : Int32).toInt = rkk (tsg ((RBF F n) q)) by rw [sg.1, sg.2]; rfl)), fun e => absurd e (by show rkk (tsg ((RBF F n) q)) ≠ 2; rw [sg.1, sg.2]; decide), fun _ => (congrArg Int32.toInt ((fp_ne (Or.inr (by decide))).trans (fp_eq))).trans (show (pkw F n q).toInt = tsg ((RBF F n) q) by rw [sg.1, pkw_to hq1]), fun e => absurd e (by show rkk (tsg ((RBF F n) q)) ≠ 1; rw [sg.1, sg.2]; decide)⟩⟩)
              · skip
                replace c11 := of_decide_eq_false c11
                refine Pv.iload rfl rfl ?_
                refine Pv.lit rfl ?_
                refine Pv.icmp rfl (fun c12 => ?_) (fun c12 => ?_)
                · skip
                  replace c12 := of_decide_eq_true c12
                  refine Pv.lit rfl ?_
                  refine Pv.goto rfl ?_
                  refine Pv.putI rfl rfl ?_
                  refine Pv.aload rfl rfl ?_
                  refine Pv.iload rfl rfl ?_
                  refine Pv.putI rfl rfl ?_
                  refine Pv.aload rfl rfl ?_
                  refine Pv.dup rfl ?_
                  refine Pv.getI (z := Int32.ofNat q) rfl rfl ((fp_ne (Or.inr (by decide))).trans ((fp_ne (Or.inr (by decide))).trans ((fp_ne (Or.inr (by decide))).trans ((fp_ne (Or.inr (by decide))).trans (fp_eq))))) ?_
                  refine Pv.lit rfl ?_
                  refine Pv.bin (z := Int32.ofNat (q + 1)) rfl (i_add q 1) ?_
                  refine Pv.putI rfl rfl ?_
                  have hq1 := pkw_pos c8
                  have hr0 : tk_r ((RBF F n) q) = false := tk_r_f (sm_f hq1 c9) (dg_f hq1 c10)
                  have sg := sg_y hq1 c12 (Or.inr (Or.inl rfl))
                  have TK := ht.trans (tkq_sig hlim hq1 hr0)
                  exact Pv.vret rfl (by rw [hQ]; exact ⟨rfl, (RNX.fp (RNX.fp (RNX.fp (RNX.fp (RNX.fp (RNX.fp RNX.rf (Or.inl rfl)) (Or.inr (Or.inr (Or.inl rfl)))) (Or.inr (Or.inr (Or.inr (Or.inl rfl))))) (Or.inr (Or.inl rfl))) (Or.inr (Or.inr (Or.inr (Or.inr rfl))))) (Or.inl rfl)), by rw [TK]; exact ⟨(congrArg Int32.toInt ((fp_ne (Or.inr (by decide))).trans ((fp_ne (Or.inr (by decide))).trans ((fp_ne (Or.inr (by decide))).trans ((fp_ne (Or.inr (by decide))).trans (fp_eq)))))).trans (i_toInt (by omega)), fp_eq, (congrArg Int32.toInt ((fp_ne (Or.inr (by decide))).trans ((fp_ne (Or.inr (by decide))).trans (fp_eq)))).trans ((show (3 : Int32).toInt = rkk (tsg ((RBF F n) q)) by rw [sg.1, sg.2]; rfl)), fun e => absurd e (by show rkk (tsg ((RBF F n) q)) ≠ 2; rw [sg.1, sg.2]; decide), fun _ => (congrArg Int32.toInt ((fp_ne (Or.inr (by decide))).trans (fp_eq))).trans (show (pkw F n q).toInt = tsg ((RBF F n) q) by rw [sg.1, pkw_to hq1]), fun e => absurd e (by show rkk (tsg ((RBF F n) q)) ≠ 1; rw [sg.1, sg.2]; decide)⟩⟩)
                · skip
                  replace c12 := of_decide_eq_false c12
                  refine Pv.iload rfl rfl ?_
                  refine Pv.lit rfl ?_
                  refine Pv.icmp rfl (fun c13 => ?_) (fun c13 => ?_)
                  · skip
                    replace c13 := of_decide_eq_true c13
                    refine Pv.lit rfl ?_
                    refine Pv.goto rfl ?_
                    refine Pv.putI rfl rfl ?_
                    refine Pv.aload rfl rfl ?_
                    refine Pv.iload rfl rfl ?_
                    refine Pv.putI rfl rfl ?_
                    refine Pv.aload rfl rfl ?_
                    refine Pv.dup rfl ?_
                    refine Pv.getI (z := Int32.ofNat q) rfl rfl ((fp_ne (Or.inr (by decide))).trans ((fp_ne (Or.inr (by decide))).trans ((fp_ne (Or.inr (by decide))).trans ((fp_ne (Or.inr (by decide))).trans (fp_eq))))) ?_
                    refine Pv.lit rfl ?_
                    refine Pv.bin (z := Int32.ofNat (q + 1)) rfl (i_add q 1) ?_
                    refine Pv.putI rfl rfl ?_
                    have hq1 := pkw_pos c8
                    have hr0 : tk_r ((RBF F n) q) = false := tk_r_f (sm_f hq1 c9) (dg_f hq1 c10)
                    have sg := sg_y hq1 c13 (Or.inr (Or.inr (Or.inl rfl)))
                    have TK := ht.trans (tkq_sig hlim hq1 hr0)
                    exact Pv.vret rfl (by rw [hQ]; exact ⟨rfl, (RNX.fp (RNX.fp (RNX.fp (RNX.fp (RNX.fp (RNX.fp RNX.rf (Or.inl rfl)) (Or.inr (Or.inr (Or.inl rfl)))) (Or.inr (Or.inr (Or.inr (Or.inl rfl))))) (Or.inr (Or.inl rfl))) (Or.inr (Or.inr (Or.inr (Or.inr rfl))))) (Or.inl rfl)), by rw [TK]; exact ⟨(congrArg Int32.toInt ((fp_ne (Or.inr (by decide))).trans ((fp_ne (Or.inr (by decide))).trans ((fp_ne (Or.inr (by decide))).trans ((fp_ne (Or.inr (by decide))).trans (fp_eq)))))).trans (i_toInt (by omega)), fp_eq, (congrArg Int32.toInt ((fp_ne (Or.inr (by decide))).trans ((fp_ne (Or.inr (by decide))).trans (fp_eq)))).trans ((show (3 : Int32).toInt = rkk (tsg ((RBF F n) q)) by rw [sg.1, sg.2]; rfl)), fun e => absurd e (by show rkk (tsg ((RBF F n) q)) ≠ 2; rw [sg.1, sg.2]; decide), fun _ => (congrArg Int32.toInt ((fp_ne (Or.inr (by decide))).trans (fp_eq))).trans (show (pkw F n q).toInt = tsg ((RBF F n) q) by rw [sg.1, pkw_to hq1]), fun e => absurd e (by show rkk (tsg ((RBF F n) q)) ≠ 1; rw [sg.1, sg.2]; decide)⟩⟩)
                  · skip
                    replace c13 := of_decide_eq_false c13
                    refine Pv.iload rfl rfl ?_
                    refine Pv.lit rfl ?_
                    refine Pv.icmp rfl (fun c14 => ?_) (fun c14 => ?_)
                    · skip
                      replace c14 := of_decide_eq_true c14
                      refine Pv.lit rfl ?_
                      refine Pv.putI rfl rfl ?_
                      refine Pv.aload rfl rfl ?_
                      refine Pv.iload rfl rfl ?_
                      refine Pv.putI rfl rfl ?_
                      refine Pv.aload rfl rfl ?_
                      refine Pv.dup rfl ?_
                      refine Pv.getI (z := Int32.ofNat q) rfl rfl ((fp_ne (Or.inr (by decide))).trans ((fp_ne (Or.inr (by decide))).trans ((fp_ne (Or.inr (by decide))).trans ((fp_ne (Or.inr (by decide))).trans (fp_eq))))) ?_
                      refine Pv.lit rfl ?_
                      refine Pv.bin (z := Int32.ofNat (q + 1)) rfl (i_add q 1) ?_
                      refine Pv.putI rfl rfl ?_
                      have hq1 := pkw_pos c8
                      have hr0 : tk_r ((RBF F n) q) = false := tk_r_f (sm_f hq1 c9) (dg_f hq1 c10)
                      have sg := sg_n hq1 c11 c12 c13 (Or.inl c14)
                      have TK := ht.trans (tkq_sig hlim hq1 hr0)
                      exact Pv.vret rfl (by rw [hQ]; exact ⟨rfl, (RNX.fp (RNX.fp (RNX.fp (RNX.fp (RNX.fp (RNX.fp RNX.rf (Or.inl rfl)) (Or.inr (Or.inr (Or.inl rfl)))) (Or.inr (Or.inr (Or.inr (Or.inl rfl))))) (Or.inr (Or.inl rfl))) (Or.inr (Or.inr (Or.inr (Or.inr rfl))))) (Or.inl rfl)), by rw [TK]; exact ⟨(congrArg Int32.toInt ((fp_ne (Or.inr (by decide))).trans ((fp_ne (Or.inr (by decide))).trans ((fp_ne (Or.inr (by decide))).trans ((fp_ne (Or.inr (by decide))).trans (fp_eq)))))).trans (i_toInt (by omega)), fp_eq, (congrArg Int32.toInt ((fp_ne (Or.inr (by decide))).trans ((fp_ne (Or.inr (by decide))).trans (fp_eq)))).trans ((show (4 : Int32).toInt = rkk (tsg ((RBF F n) q)) by rw [sg]; rfl)), fun e => absurd e (by show rkk (tsg ((RBF F n) q)) ≠ 2; rw [sg]; decide), fun e => absurd e (by show rkk (tsg ((RBF F n) q)) ≠ 3; rw [sg]; decide), fun e => absurd e (by show rkk (tsg ((RBF F n) q)) ≠ 1; rw [sg]; decide)⟩⟩)
                    · skip
                      replace c14 := of_decide_eq_false c14
                      refine Pv.iload rfl rfl ?_
                      refine Pv.lit rfl ?_
                      refine Pv.icmp rfl (fun c15 => ?_) (fun c15 => ?_)
                      · skip
                        replace c15 := of_decide_eq_true c15
                        refine Pv.lit rfl ?_
                        refine Pv.putI rfl rfl ?_
                        refine Pv.aload rfl rfl ?_
                        refine Pv.iload rfl rfl ?_
                        refine Pv.putI rfl rfl ?_
                        refine Pv.aload rfl rfl ?_
                        refine Pv.dup rfl ?_
                        refine Pv.getI (z := Int32.ofNat q) rfl rfl ((fp_ne (Or.inr (by decide))).trans ((fp_ne (Or.inr (by decide))).trans ((fp_ne (Or.inr (by decide))).trans ((fp_ne (Or.inr (by decide))).trans (fp_eq))))) ?_
                        refine Pv.lit rfl ?_
                        refine Pv.bin (z := Int32.ofNat (q + 1)) rfl (i_add q 1) ?_
                        refine Pv.putI rfl rfl ?_
                        have hq1 := pkw_pos c8
                        have hr0 : tk_r ((RBF F n) q) = false := tk_r_f (sm_f hq1 c9) (dg_f hq1 c10)
                        have sg := sg_n hq1 c11 c12 c13 (Or.inr c15)
                        have TK := ht.trans (tkq_sig hlim hq1 hr0)
                        exact Pv.vret rfl (by rw [hQ]; exact ⟨rfl, (RNX.fp (RNX.fp (RNX.fp (RNX.fp (RNX.fp (RNX.fp RNX.rf (Or.inl rfl)) (Or.inr (Or.inr (Or.inl rfl)))) (Or.inr (Or.inr (Or.inr (Or.inl rfl))))) (Or.inr (Or.inl rfl))) (Or.inr (Or.inr (Or.inr (Or.inr rfl))))) (Or.inl rfl)), by rw [TK]; exact ⟨(congrArg Int32.toInt ((fp_ne (Or.inr (by decide))).trans ((fp_ne (Or.inr (by decide))).trans ((fp_ne (Or.inr (by decide))).trans ((fp_ne (Or.inr (by decide))).trans (fp_eq)))))).trans (i_toInt (by omega)), fp_eq, (congrArg Int32.toInt ((fp_ne (Or.inr (by decide))).trans ((fp_ne (Or.inr (by decide))).trans (fp_eq)))).trans ((show (4 : Int32).toInt = rkk (tsg ((RBF F n) q)) by rw [sg]; rfl)), fun e => absurd e (by show rkk (tsg ((RBF F n) q)) ≠ 2; rw [sg]; decide), fun e => absurd e (by show rkk (tsg ((RBF F n) q)) ≠ 3; rw [sg]; decide), fun e => absurd e (by show rkk (tsg ((RBF F n) q)) ≠ 1; rw [sg]; decide)⟩⟩)
                      · skip
                        replace c15 := of_decide_eq_false c15
                        refine Pv.lit rfl ?_
                        refine Pv.goto rfl ?_
                        refine Pv.putI rfl rfl ?_
                        refine Pv.aload rfl rfl ?_
                        refine Pv.iload rfl rfl ?_
                        refine Pv.putI rfl rfl ?_
                        refine Pv.aload rfl rfl ?_
                        refine Pv.dup rfl ?_
                        refine Pv.getI (z := Int32.ofNat q) rfl rfl ((fp_ne (Or.inr (by decide))).trans ((fp_ne (Or.inr (by decide))).trans ((fp_ne (Or.inr (by decide))).trans ((fp_ne (Or.inr (by decide))).trans (fp_eq))))) ?_
                        refine Pv.lit rfl ?_
                        refine Pv.bin (z := Int32.ofNat (q + 1)) rfl (i_add q 1) ?_
                        refine Pv.putI rfl rfl ?_
                        have hq1 := pkw_pos c8
                        have hr0 : tk_r ((RBF F n) q) = false := tk_r_f (sm_f hq1 c9) (dg_f hq1 c10)
                        have sg := sg_3 hq1 c14 c15
                        have TK := ht.trans (tkq_sig hlim hq1 hr0)
                        exact Pv.vret rfl (by rw [hQ]; exact ⟨rfl, (RNX.fp (RNX.fp (RNX.fp (RNX.fp (RNX.fp (RNX.fp RNX.rf (Or.inl rfl)) (Or.inr (Or.inr (Or.inl rfl)))) (Or.inr (Or.inr (Or.inr (Or.inl rfl))))) (Or.inr (Or.inl rfl))) (Or.inr (Or.inr (Or.inr (Or.inr rfl))))) (Or.inl rfl)), by rw [TK]; exact ⟨(congrArg Int32.toInt ((fp_ne (Or.inr (by decide))).trans ((fp_ne (Or.inr (by decide))).trans ((fp_ne (Or.inr (by decide))).trans ((fp_ne (Or.inr (by decide))).trans (fp_eq)))))).trans (i_toInt (by omega)), fp_eq, (congrArg Int32.toInt ((fp_ne (Or.inr (by decide))).trans ((fp_ne (Or.inr (by decide))).trans (fp_eq)))).trans ((show (3 : Int32).toInt = rkk (tsg ((RBF F n) q)) by rw [sg.1, sg.2]; rfl)), fun e => absurd e (by show rkk (tsg ((RBF F n) q)) ≠ 2; rw [sg.1, sg.2]; decide), fun _ => (congrArg Int32.toInt ((fp_ne (Or.inr (by decide))).trans (fp_eq))).trans (show (pkw F n q).toInt = tsg ((RBF F n) q) by rw [sg.1, pkw_to hq1]), fun e => absurd e (by show rkk (tsg ((RBF F n) q)) ≠ 1; rw [sg.1, sg.2]; decide)⟩⟩)
        · skip
          replace c8 := of_decide_eq_false c8
          refine Pv.aload rfl rfl ?_
          refine Pv.lit rfl ?_
          refine Pv.putI rfl rfl ?_
          have hnq : q = n := by have := pkw_neg c8; omega
          have TK := ht.trans (tkq_end hlim (by omega))
          exact Pv.vret rfl (by rw [hQ]; exact ⟨rfl, (RNX.fp (RNX.fp (RNX.fp (RNX.fp RNX.rf (Or.inl rfl)) (Or.inr (Or.inr (Or.inl rfl)))) (Or.inr (Or.inr (Or.inr (Or.inl rfl))))) (Or.inr (Or.inl rfl))), by rw [TK]; exact ⟨(congrArg Int32.toInt ((fp_ne (Or.inr (by decide))).trans ((fp_ne (Or.inr (by decide))).trans (fp_eq)))).trans ((i_toInt (by omega)).trans (congrArg Int.ofNat hnq)), (fp_ne (Or.inr (by decide))).trans ((fp_ne (Or.inr (by decide))).trans ((fp_ne (Or.inr (by decide))).trans (fp_eq))), (congrArg Int32.toInt (fp_eq)).trans (rfl), fun e => absurd e (by show rkk 0 ≠ 2; decide), fun e => absurd e (by show rkk 0 ≠ 3; decide), fun e => absurd e (by show rkk 0 ≠ 1; decide)⟩⟩)
      · skip
        replace c7 := mt (i_le (a := n) (b := lim) (by omega) (by omega)).mpr (of_decide_eq_false c7)
        refine Pv.aload rfl rfl ?_
        refine Pv.getI (z := Int32.ofNat q) rfl rfl ((fp_ne (Or.inr (by decide))).trans ((fp_ne (Or.inr (by decide))).trans (fp_eq))) ?_
        refine Pv.aload rfl rfl ?_
        refine Pv.getI (z := Int32.ofNat lim) rfl rfl ((fp_ne (Or.inr (by decide))).trans ((fp_ne (Or.inr (by decide))).trans ((fp_ne (Or.inr (by decide))).trans (h5)))) ?_
        refine Pv.icmp rfl (fun c16 => ?_) (fun c16 => ?_)
        · skip
          replace c16 := (i_lt (a := q) (b := lim) (by omega) (by omega)).mp (of_decide_eq_true c16)
          have hlim : ¬ (lim < n ∧ lim ≤ q) := by omega
          refine Pv.aload rfl rfl ?_
          refine Pv.callVI (as := [.ref 69]) (rest := []) (z := pkw F n q) rfl rfl rfl (g_peek (F0 := F) (p := q) (n := n) (hG.fx (P := fun _ => True) (((((FX.rf (P := fun _ => True))).fp trivial).fp trivial).fp trivial)) ((fp_ne (Or.inr (by decide))).trans ((fp_ne (Or.inr (by decide))).trans (fp_eq))) ((fp_ne (Or.inr (by decide))).trans ((fp_ne (Or.inr (by decide))).trans ((fp_ne (Or.inr (by decide))).trans (h3)))) (by omega) (by omega) (fun q => (fp_ne (Or.inl (by decide))).trans ((fp_ne (Or.inl (by decide))).trans (fp_ne (Or.inl (by decide)))))) ?_
          refine Pv.istore (lo' := [some (.ref 69), some (.int (pkw F n q)), none, none]) rfl rfl ?_
          refine Pv.iload rfl rfl ?_
          refine Pv.if0 rfl (fun c17 => ?_) (fun c17 => ?_)
          · skip
            replace c17 := of_decide_eq_true c17
            refine Pv.iload rfl rfl ?_
            refine Pv.callI (as := [.int (pkw F n q)]) (rest := []) (z := b2i (smL (pkw F n q))) rfl rfl rfl (g_isSmall (pkw F n q)) ?_
            refine Pv.if0 rfl (fun c18 => ?_) (fun c18 => ?_)
            · skip
              replace c18 : decide (b2i (smL (pkw F n q)) = 0) = false := by simpa using c18
              replace c18 := of_decide_eq_false c18
              replace c18 := b2n.mp c18
              refine Pv.iload rfl rfl ?_
              refine Pv.callI (as := [.int (pkw F n q)]) (rest := []) (z := b2i (smL (pkw F n q))) rfl rfl rfl (g_isSmall (pkw F n q)) ?_
              refine Pv.istore (lo' := [some (.ref 69), some (.int (pkw F n q)), some (.int (b2i (smL (pkw F n q)))), none]) rfl rfl ?_
              refine Pv.lit rfl ?_
              refine Pv.istore (lo' := [some (.ref 69), some (.int (pkw F n q)), some (.int (b2i (smL (pkw F n q)))), some (.int 1)]) rfl rfl ?_
              refine Pv.aload rfl rfl ?_
              refine Pv.lit rfl ?_
              refine Pv.putL rfl rfl ?_
              refine Pv.aload rfl rfl ?_
              refine Pv.lit rfl ?_
              refine Pv.putI rfl rfl ?_
              have hq2 := sm_t c18
              have hfr : tk_r ((RBF F n) q) = true := tk_r_l hq2.2
              have hq1 : q < n := hq2.1
              refine (g_nx181 (F0 := F) (q := q) (n := n) (sm := smL (pkw F n q)) (hG.fx (P := fun _ => True) (((((((FX.rf (P := fun _ => True))).fp trivial).fp trivial).fp trivial).fpl trivial).fp trivial)) (RNX.fp (RNX.fl (RNX.fp (RNX.fp (RNX.fp RNX.rf (Or.inl rfl)) (Or.inr (Or.inr (Or.inl rfl)))) (Or.inr (Or.inr (Or.inr (Or.inl rfl)))))) (Or.inr (Or.inr (Or.inr (Or.inr rfl))))) (fun k => (fp_ne (Or.inl (by decide))).trans ((fpl_i).trans ((fp_ne (Or.inl (by decide))).trans ((fp_ne (Or.inl (by decide))).trans (fp_ne (Or.inl (by decide))))))) ((fp_ne (Or.inr (by decide))).trans ((fpl_i).trans ((fp_ne (Or.inr (by decide))).trans ((fp_ne (Or.inr (by decide))).trans ((fp_ne (Or.inr (by decide))).trans (h3)))))) ((fp_ne (Or.inr (by decide))).trans ((fpl_i).trans ((fp_ne (Or.inr (by decide))).trans ((fp_ne (Or.inr (by decide))).trans (fp_eq))))) ((fp_ne (Or.inr (by decide))).trans ((fpl_i).trans ((fp_ne (Or.inr (by decide))).trans (fp_eq)))) ((fp_ne (Or.inr (by decide))).trans ((fpl_i).trans (fp_eq))) (fp_eq) ((fp_l).trans (fpl_eq)) hn hq1 (by rw [cls_eq _ hfr, sm_eq hq1]; exact beq_self_eq_true _) hfr _ _).imp (fun r F' h => ?_)
              rw [hQ, ht, tkq_run hlim hq1 hfr]
              exact h
            · skip
              replace c18 : decide (b2i (smL (pkw F n q)) = 0) = true := by simpa using c18
              replace c18 := of_decide_eq_true c18
              replace c18 := b2z.mp c18
              refine Pv.iload rfl rfl ?_
              refine Pv.callI (as := [.int (pkw F n q)]) (rest := []) (z := b2i (dgL (pkw F n q))) rfl rfl rfl (g_isDigit (pkw F n q)) ?_
              refine Pv.if0 rfl (fun c19 => ?_) (fun c19 => ?_)
              · skip
                replace c19 : decide (b2i (dgL (pkw F n q)) = 0) = false := by simpa using c19
                replace c19 := of_decide_eq_false c19
                replace c19 := b2n.mp c19
                refine Pv.iload rfl rfl ?_
                refine Pv.callI (as := [.int (pkw F n q)]) (rest := []) (z := b2i (smL (pkw F n q))) rfl rfl rfl (g_isSmall (pkw F n q)) ?_
                refine Pv.istore (lo' := [some (.ref 69), some (.int (pkw F n q)), some (.int (b2i (smL (pkw F n q)))), none]) rfl rfl ?_
                refine Pv.lit rfl ?_
                refine Pv.istore (lo' := [some (.ref 69), some (.int (pkw F n q)), some (.int (b2i (smL (pkw F n q)))), some (.int 1)]) rfl rfl ?_
                refine Pv.aload rfl rfl ?_
                refine Pv.lit rfl ?_
                refine Pv.putL rfl rfl ?_
                refine Pv.aload rfl rfl ?_
                refine Pv.lit rfl ?_
                refine Pv.putI rfl rfl ?_
                have hq2 := dg_t c19
                have hfr : tk_r ((RBF F n) q) = true := tk_r_d hq2.2
                have hq1 : q < n := hq2.1
                refine (g_nx181 (F0 := F) (q := q) (n := n) (sm := smL (pkw F n q)) (hG.fx (P := fun _ => True) (((((((FX.rf (P := fun _ => True))).fp trivial).fp trivial).fp trivial).fpl trivial).fp trivial)) (RNX.fp (RNX.fl (RNX.fp (RNX.fp (RNX.fp RNX.rf (Or.inl rfl)) (Or.inr (Or.inr (Or.inl rfl)))) (Or.inr (Or.inr (Or.inr (Or.inl rfl)))))) (Or.inr (Or.inr (Or.inr (Or.inr rfl))))) (fun k => (fp_ne (Or.inl (by decide))).trans ((fpl_i).trans ((fp_ne (Or.inl (by decide))).trans ((fp_ne (Or.inl (by decide))).trans (fp_ne (Or.inl (by decide))))))) ((fp_ne (Or.inr (by decide))).trans ((fpl_i).trans ((fp_ne (Or.inr (by decide))).trans ((fp_ne (Or.inr (by decide))).trans ((fp_ne (Or.inr (by decide))).trans (h3)))))) ((fp_ne (Or.inr (by decide))).trans ((fpl_i).trans ((fp_ne (Or.inr (by decide))).trans ((fp_ne (Or.inr (by decide))).trans (fp_eq))))) ((fp_ne (Or.inr (by decide))).trans ((fpl_i).trans ((fp_ne (Or.inr (by decide))).trans (fp_eq)))) ((fp_ne (Or.inr (by decide))).trans ((fpl_i).trans (fp_eq))) (fp_eq) ((fp_l).trans (fpl_eq)) hn hq1 (by rw [cls_eq _ hfr, sm_eq hq1]; exact beq_self_eq_true _) hfr _ _).imp (fun r F' h => ?_)
                rw [hQ, ht, tkq_run hlim hq1 hfr]
                exact h
              · skip
                replace c19 : decide (b2i (dgL (pkw F n q)) = 0) = true := by simpa using c19
                replace c19 := of_decide_eq_true c19
                replace c19 := b2z.mp c19
                refine Pv.aload rfl rfl ?_
                refine Pv.iload rfl rfl ?_
                refine Pv.lit rfl ?_
                refine Pv.icmp rfl (fun c20 => ?_) (fun c20 => ?_)
                · skip
                  replace c20 := of_decide_eq_true c20
                  refine Pv.lit rfl ?_
                  refine Pv.goto rfl ?_
                  refine Pv.putI rfl rfl ?_
                  refine Pv.aload rfl rfl ?_
                  refine Pv.iload rfl rfl ?_
                  refine Pv.putI rfl rfl ?_
                  refine Pv.aload rfl rfl ?_
                  refine Pv.dup rfl ?_
                  refine Pv.getI (z := Int32.ofNat q) rfl rfl ((fp_ne (Or.inr (by decide))).trans ((fp_ne (Or.inr (by decide))).trans ((fp_ne (Or.inr (by decide))).trans ((fp_ne (Or.inr (by decide))).trans (fp_eq))))) ?_
                  refine Pv.lit rfl ?_
                  refine Pv.bin (z := Int32.ofNat (q + 1)) rfl (i_add q 1) ?_
                  refine Pv.putI rfl rfl ?_
                  have hq1 := pkw_pos c17
                  have hr0 : tk_r ((RBF F n) q) = false := tk_r_f (sm_f hq1 c18) (dg_f hq1 c19)
                  have sg := sg_y hq1 c20 (Or.inl rfl)
                  have TK := ht.trans (tkq_sig hlim hq1 hr0)
                  exact Pv.vret rfl (by rw [hQ]; exact ⟨rfl, (RNX.fp (RNX.fp (RNX.fp (RNX.fp (RNX.fp (RNX.fp RNX.rf (Or.inl rfl)) (Or.inr (Or.inr (Or.inl rfl)))) (Or.inr (Or.inr (Or.inr (Or.inl rfl))))) (Or.inr (Or.inl rfl))) (Or.inr (Or.inr (Or.inr (Or.inr rfl))))) (Or.inl rfl)), by rw [TK]; exact ⟨(congrArg Int32.toInt ((fp_ne (Or.inr (by decide))).trans ((fp_ne (Or.inr (by decide))).trans ((fp_ne (Or.inr (by decide))).trans ((fp_ne (Or.inr (by decide))).trans (fp_eq)))))).trans (i_toInt (by omega)), fp_eq, (congrArg Int32.toInt ((fp_ne (Or.inr (by decide))).trans ((fp_ne (Or.inr (by decide))).trans (fp_eq)))).trans ((show (3 : Int32).toInt = rkk (tsg ((RBF F n) q)) by rw [sg.1, sg.2]; rfl)), fun e => absurd e (by show rkk (tsg ((RBF F n) q)) ≠ 2; rw [sg.1, sg.2]; decide), fun _ => (congrArg Int32.toInt ((fp_ne (Or.inr (by decide))).trans (fp_eq))).trans (show (pkw F n q).toInt = tsg ((RBF F n) q) by rw [sg.1, pkw_to hq1]), fun e => absurd e (by show rkk (tsg ((RBF F n) q)) ≠ 1; rw [sg.1, sg.2]; decide)⟩⟩)
                · skip
                  replace c20 := of_decide_eq_false c20
                  refine Pv.iload rfl rfl ?_
                  refine Pv.lit rfl ?_
                  refine Pv.icmp rfl (fun c21 => ?_) (fun c21 => ?_)
                  · skip
                    replace c21 := of_decide_eq_true c21
                    refine Pv.lit rfl ?_
                    refine Pv.goto rfl ?_
                    refine Pv.putI rfl rfl ?_
                    refine Pv.aload rfl rfl ?_
                    refine Pv.iload rfl rfl ?_
                    refine Pv.putI rfl rfl ?_
                    refine Pv.aload rfl rfl ?_
                    refine Pv.dup rfl ?_
                    refine Pv.getI (z := Int32.ofNat q) rfl rfl ((fp_ne (Or.inr (by decide))).trans ((fp_ne (Or.inr (by decide))).trans ((fp_ne (Or.inr (by decide))).trans ((fp_ne (Or.inr (by decide))).trans (fp_eq))))) ?_
                    refine Pv.lit rfl ?_
                    refine Pv.bin (z := Int32.ofNat (q + 1)) rfl (i_add q 1) ?_
                    refine Pv.putI rfl rfl ?_
                    have hq1 := pkw_pos c17
                    have hr0 : tk_r ((RBF F n) q) = false := tk_r_f (sm_f hq1 c18) (dg_f hq1 c19)
                    have sg := sg_y hq1 c21 (Or.inr (Or.inl rfl))
                    have TK := ht.trans (tkq_sig hlim hq1 hr0)
                    exact Pv.vret rfl (by rw [hQ]; exact ⟨rfl, (RNX.fp (RNX.fp (RNX.fp (RNX.fp (RNX.fp (RNX.fp RNX.rf (Or.inl rfl)) (Or.inr (Or.inr (Or.inl rfl)))) (Or.inr (Or.inr (Or.inr (Or.inl rfl))))) (Or.inr (Or.inl rfl))) (Or.inr (Or.inr (Or.inr (Or.inr rfl))))) (Or.inl rfl)), by rw [TK]; exact ⟨(congrArg Int32.toInt ((fp_ne (Or.inr (by decide))).trans ((fp_ne (Or.inr (by decide))).trans ((fp_ne (Or.inr (by decide))).trans ((fp_ne (Or.inr (by decide))).trans (fp_eq)))))).trans (i_toInt (by omega)), fp_eq, (congrArg Int32.toInt ((fp_ne (Or.inr (by decide))).trans ((fp_ne (Or.inr (by decide))).trans (fp_eq)))).trans ((show (3 : Int32).toInt = rkk (tsg ((RBF F n) q)) by rw [sg.1, sg.2]; rfl)), fun e => absurd e (by show rkk (tsg ((RBF F n) q)) ≠ 2; rw [sg.1, sg.2]; decide), fun _ => (congrArg Int32.toInt ((fp_ne (Or.inr (by decide))).trans (fp_eq))).trans (show (pkw F n q).toInt = tsg ((RBF F n) q) by rw [sg.1, pkw_to hq1]), fun e => absurd e (by show rkk (tsg ((RBF F n) q)) ≠ 1; rw [sg.1, sg.2]; decide)⟩⟩)
                  · skip
                    replace c21 := of_decide_eq_false c21
                    refine Pv.iload rfl rfl ?_
                    refine Pv.lit rfl ?_
                    refine Pv.icmp rfl (fun c22 => ?_) (fun c22 => ?_)
                    · skip
                      replace c22 := of_decide_eq_true c22
                      refine Pv.lit rfl ?_
                      refine Pv.goto rfl ?_
                      refine Pv.putI rfl rfl ?_
                      refine Pv.aload rfl rfl ?_
                      refine Pv.iload rfl rfl ?_
                      refine Pv.putI rfl rfl ?_
                      refine Pv.aload rfl rfl ?_
                      refine Pv.dup rfl ?_
                      refine Pv.getI (z := Int32.ofNat q) rfl rfl ((fp_ne (Or.inr (by decide))).trans ((fp_ne (Or.inr (by decide))).trans ((fp_ne (Or.inr (by decide))).trans ((fp_ne (Or.inr (by decide))).trans (fp_eq))))) ?_
                      refine Pv.lit rfl ?_
                      refine Pv.bin (z := Int32.ofNat (q + 1)) rfl (i_add q 1) ?_
                      refine Pv.putI rfl rfl ?_
                      have hq1 := pkw_pos c17
                      have hr0 : tk_r ((RBF F n) q) = false := tk_r_f (sm_f hq1 c18) (dg_f hq1 c19)
                      have sg := sg_y hq1 c22 (Or.inr (Or.inr (Or.inl rfl)))
                      have TK := ht.trans (tkq_sig hlim hq1 hr0)
                      exact Pv.vret rfl (by rw [hQ]; exact ⟨rfl, (RNX.fp (RNX.fp (RNX.fp (RNX.fp (RNX.fp (RNX.fp RNX.rf (Or.inl rfl)) (Or.inr (Or.inr (Or.inl rfl)))) (Or.inr (Or.inr (Or.inr (Or.inl rfl))))) (Or.inr (Or.inl rfl))) (Or.inr (Or.inr (Or.inr (Or.inr rfl))))) (Or.inl rfl)), by rw [TK]; exact ⟨(congrArg Int32.toInt ((fp_ne (Or.inr (by decide))).trans ((fp_ne (Or.inr (by decide))).trans ((fp_ne (Or.inr (by decide))).trans ((fp_ne (Or.inr (by decide))).trans (fp_eq)))))).trans (i_toInt (by omega)), fp_eq, (congrArg Int32.toInt ((fp_ne (Or.inr (by decide))).trans ((fp_ne (Or.inr (by decide))).trans (fp_eq)))).trans ((show (3 : Int32).toInt = rkk (tsg ((RBF F n) q)) by rw [sg.1, sg.2]; rfl)), fun e => absurd e (by show rkk (tsg ((RBF F n) q)) ≠ 2; rw [sg.1, sg.2]; decide), fun _ => (congrArg Int32.toInt ((fp_ne (Or.inr (by decide))).trans (fp_eq))).trans (show (pkw F n q).toInt = tsg ((RBF F n) q) by rw [sg.1, pkw_to hq1]), fun e => absurd e (by show rkk (tsg ((RBF F n) q)) ≠ 1; rw [sg.1, sg.2]; decide)⟩⟩)
                    · skip
                      replace c22 := of_decide_eq_false c22
                      refine Pv.iload rfl rfl ?_
                      refine Pv.lit rfl ?_
                      refine Pv.icmp rfl (fun c23 => ?_) (fun c23 => ?_)
                      · skip
                        replace c23 := of_decide_eq_true c23
                        refine Pv.lit rfl ?_
                        refine Pv.putI rfl rfl ?_
                        refine Pv.aload rfl rfl ?_
                        refine Pv.iload rfl rfl ?_
                        refine Pv.putI rfl rfl ?_
                        refine Pv.aload rfl rfl ?_
                        refine Pv.dup rfl ?_
                        refine Pv.getI (z := Int32.ofNat q) rfl rfl ((fp_ne (Or.inr (by decide))).trans ((fp_ne (Or.inr (by decide))).trans ((fp_ne (Or.inr (by decide))).trans ((fp_ne (Or.inr (by decide))).trans (fp_eq))))) ?_
                        refine Pv.lit rfl ?_
                        refine Pv.bin (z := Int32.ofNat (q + 1)) rfl (i_add q 1) ?_
                        refine Pv.putI rfl rfl ?_
                        have hq1 := pkw_pos c17
                        have hr0 : tk_r ((RBF F n) q) = false := tk_r_f (sm_f hq1 c18) (dg_f hq1 c19)
                        have sg := sg_n hq1 c20 c21 c22 (Or.inl c23)
                        have TK := ht.trans (tkq_sig hlim hq1 hr0)
                        exact Pv.vret rfl (by rw [hQ]; exact ⟨rfl, (RNX.fp (RNX.fp (RNX.fp (RNX.fp (RNX.fp (RNX.fp RNX.rf (Or.inl rfl)) (Or.inr (Or.inr (Or.inl rfl)))) (Or.inr (Or.inr (Or.inr (Or.inl rfl))))) (Or.inr (Or.inl rfl))) (Or.inr (Or.inr (Or.inr (Or.inr rfl))))) (Or.inl rfl)), by rw [TK]; exact ⟨(congrArg Int32.toInt ((fp_ne (Or.inr (by decide))).trans ((fp_ne (Or.inr (by decide))).trans ((fp_ne (Or.inr (by decide))).trans ((fp_ne (Or.inr (by decide))).trans (fp_eq)))))).trans (i_toInt (by omega)), fp_eq, (congrArg Int32.toInt ((fp_ne (Or.inr (by decide))).trans ((fp_ne (Or.inr (by decide))).trans (fp_eq)))).trans ((show (4 : Int32).toInt = rkk (tsg ((RBF F n) q)) by rw [sg]; rfl)), fun e => absurd e (by show rkk (tsg ((RBF F n) q)) ≠ 2; rw [sg]; decide), fun e => absurd e (by show rkk (tsg ((RBF F n) q)) ≠ 3; rw [sg]; decide), fun e => absurd e (by show rkk (tsg ((RBF F n) q)) ≠ 1; rw [sg]; decide)⟩⟩)
                      · skip
                        replace c23 := of_decide_eq_false c23
                        refine Pv.iload rfl rfl ?_
                        refine Pv.lit rfl ?_
                        refine Pv.icmp rfl (fun c24 => ?_) (fun c24 => ?_)
                        · skip
                          replace c24 := of_decide_eq_true c24
                          refine Pv.lit rfl ?_
                          refine Pv.putI rfl rfl ?_
                          refine Pv.aload rfl rfl ?_
                          refine Pv.iload rfl rfl ?_
                          refine Pv.putI rfl rfl ?_
                          refine Pv.aload rfl rfl ?_
                          refine Pv.dup rfl ?_
                          refine Pv.getI (z := Int32.ofNat q) rfl rfl ((fp_ne (Or.inr (by decide))).trans ((fp_ne (Or.inr (by decide))).trans ((fp_ne (Or.inr (by decide))).trans ((fp_ne (Or.inr (by decide))).trans (fp_eq))))) ?_
                          refine Pv.lit rfl ?_
                          refine Pv.bin (z := Int32.ofNat (q + 1)) rfl (i_add q 1) ?_
                          refine Pv.putI rfl rfl ?_
                          have hq1 := pkw_pos c17
                          have hr0 : tk_r ((RBF F n) q) = false := tk_r_f (sm_f hq1 c18) (dg_f hq1 c19)
                          have sg := sg_n hq1 c20 c21 c22 (Or.inr c24)
                          have TK := ht.trans (tkq_sig hlim hq1 hr0)
                          exact Pv.vret rfl (by rw [hQ]; exact ⟨rfl, (RNX.fp (RNX.fp (RNX.fp (RNX.fp (RNX.fp (RNX.fp RNX.rf (Or.inl rfl)) (Or.inr (Or.inr (Or.inl rfl)))) (Or.inr (Or.inr (Or.inr (Or.inl rfl))))) (Or.inr (Or.inl rfl))) (Or.inr (Or.inr (Or.inr (Or.inr rfl))))) (Or.inl rfl)), by rw [TK]; exact ⟨(congrArg Int32.toInt ((fp_ne (Or.inr (by decide))).trans ((fp_ne (Or.inr (by decide))).trans ((fp_ne (Or.inr (by decide))).trans ((fp_ne (Or.inr (by decide))).trans (fp_eq)))))).trans (i_toInt (by omega)), fp_eq, (congrArg Int32.toInt ((fp_ne (Or.inr (by decide))).trans ((fp_ne (Or.inr (by decide))).trans (fp_eq)))).trans ((show (4 : Int32).toInt = rkk (tsg ((RBF F n) q)) by rw [sg]; rfl)), fun e => absurd e (by show rkk (tsg ((RBF F n) q)) ≠ 2; rw [sg]; decide), fun e => absurd e (by show rkk (tsg ((RBF F n) q)) ≠ 3; rw [sg]; decide), fun e => absurd e (by show rkk (tsg ((RBF F n) q)) ≠ 1; rw [sg]; decide)⟩⟩)
                        · skip
                          replace c24 := of_decide_eq_false c24
                          refine Pv.lit rfl ?_
                          refine Pv.goto rfl ?_
                          refine Pv.putI rfl rfl ?_
                          refine Pv.aload rfl rfl ?_
                          refine Pv.iload rfl rfl ?_
                          refine Pv.putI rfl rfl ?_
                          refine Pv.aload rfl rfl ?_
                          refine Pv.dup rfl ?_
                          refine Pv.getI (z := Int32.ofNat q) rfl rfl ((fp_ne (Or.inr (by decide))).trans ((fp_ne (Or.inr (by decide))).trans ((fp_ne (Or.inr (by decide))).trans ((fp_ne (Or.inr (by decide))).trans (fp_eq))))) ?_
                          refine Pv.lit rfl ?_
                          refine Pv.bin (z := Int32.ofNat (q + 1)) rfl (i_add q 1) ?_
                          refine Pv.putI rfl rfl ?_
                          have hq1 := pkw_pos c17
                          have hr0 : tk_r ((RBF F n) q) = false := tk_r_f (sm_f hq1 c18) (dg_f hq1 c19)
                          have sg := sg_3 hq1 c23 c24
                          have TK := ht.trans (tkq_sig hlim hq1 hr0)
                          exact Pv.vret rfl (by rw [hQ]; exact ⟨rfl, (RNX.fp (RNX.fp (RNX.fp (RNX.fp (RNX.fp (RNX.fp RNX.rf (Or.inl rfl)) (Or.inr (Or.inr (Or.inl rfl)))) (Or.inr (Or.inr (Or.inr (Or.inl rfl))))) (Or.inr (Or.inl rfl))) (Or.inr (Or.inr (Or.inr (Or.inr rfl))))) (Or.inl rfl)), by rw [TK]; exact ⟨(congrArg Int32.toInt ((fp_ne (Or.inr (by decide))).trans ((fp_ne (Or.inr (by decide))).trans ((fp_ne (Or.inr (by decide))).trans ((fp_ne (Or.inr (by decide))).trans (fp_eq)))))).trans (i_toInt (by omega)), fp_eq, (congrArg Int32.toInt ((fp_ne (Or.inr (by decide))).trans ((fp_ne (Or.inr (by decide))).trans (fp_eq)))).trans ((show (3 : Int32).toInt = rkk (tsg ((RBF F n) q)) by rw [sg.1, sg.2]; rfl)), fun e => absurd e (by show rkk (tsg ((RBF F n) q)) ≠ 2; rw [sg.1, sg.2]; decide), fun _ => (congrArg Int32.toInt ((fp_ne (Or.inr (by decide))).trans (fp_eq))).trans (show (pkw F n q).toInt = tsg ((RBF F n) q) by rw [sg.1, pkw_to hq1]), fun e => absurd e (by show rkk (tsg ((RBF F n) q)) ≠ 1; rw [sg.1, sg.2]; decide)⟩⟩)
          · skip
            replace c17 := of_decide_eq_false c17
            refine Pv.aload rfl rfl ?_
            refine Pv.lit rfl ?_
            refine Pv.putI rfl rfl ?_
            have hnq : q = n := by have := pkw_neg c17; omega
            have TK := ht.trans (tkq_end hlim (by omega))
            exact Pv.vret rfl (by rw [hQ]; exact ⟨rfl, (RNX.fp (RNX.fp (RNX.fp (RNX.fp RNX.rf (Or.inl rfl)) (Or.inr (Or.inr (Or.inl rfl)))) (Or.inr (Or.inr (Or.inr (Or.inl rfl))))) (Or.inr (Or.inl rfl))), by rw [TK]; exact ⟨(congrArg Int32.toInt ((fp_ne (Or.inr (by decide))).trans ((fp_ne (Or.inr (by decide))).trans (fp_eq)))).trans ((i_toInt (by omega)).trans (congrArg Int.ofNat hnq)), (fp_ne (Or.inr (by decide))).trans ((fp_ne (Or.inr (by decide))).trans ((fp_ne (Or.inr (by decide))).trans (fp_eq))), (congrArg Int32.toInt (fp_eq)).trans (rfl), fun e => absurd e (by show rkk 0 ≠ 2; decide), fun e => absurd e (by show rkk 0 ≠ 3; decide), fun e => absurd e (by show rkk 0 ≠ 1; decide)⟩⟩)
        · skip
          replace c16 := mt (i_lt (a := q) (b := lim) (by omega) (by omega)).mpr (of_decide_eq_false c16)
          refine Pv.aload rfl rfl ?_
          refine Pv.aload rfl rfl ?_
          refine Pv.getI (z := Int32.ofNat lim) rfl rfl ((fp_ne (Or.inr (by decide))).trans ((fp_ne (Or.inr (by decide))).trans ((fp_ne (Or.inr (by decide))).trans (h5)))) ?_
          refine Pv.putI rfl rfl ?_
          refine Pv.aload rfl rfl ?_
          refine Pv.lit rfl ?_
          refine Pv.putI rfl rfl ?_
          have TK := ht.trans (tkq_none (by omega) (by omega))
          exact Pv.vret rfl (by rw [hQ]; exact ⟨rfl, (RNX.fp (RNX.fp (RNX.fp (RNX.fp (RNX.fp RNX.rf (Or.inl rfl)) (Or.inr (Or.inr (Or.inl rfl)))) (Or.inr (Or.inr (Or.inr (Or.inl rfl))))) (Or.inr (Or.inr (Or.inl rfl)))) (Or.inr (Or.inl rfl))), by rw [TK]; exact ⟨(congrArg Int32.toInt ((fp_ne (Or.inr (by decide))).trans (fp_eq))).trans (i_toInt (by omega)), (fp_ne (Or.inr (by decide))).trans ((fp_ne (Or.inr (by decide))).trans ((fp_ne (Or.inr (by decide))).trans ((fp_ne (Or.inr (by decide))).trans (fp_eq)))), (congrArg Int32.toInt (fp_eq)).trans (rfl), fun e => absurd e (by show rkk 1 ≠ 2; decide), fun e => absurd e (by show rkk 1 ≠ 3; decide), fun e => absurd e (by show rkk 1 ≠ 1; decide)⟩⟩)
    · skip
      replace c6 : decide (pkw F n q = 10) = true := by simpa using c6
      replace c6 := of_decide_eq_true c6
      have hqy := pkw_in c6 (by decide)
      have hby : tk_b ((RBF F n) q) = true := by rw [hqy.2]; decide
      refine Pv.aload rfl rfl ?_
      refine Pv.dup rfl ?_
      refine Pv.getI (z := Int32.ofNat q) rfl rfl (fp_eq) ?_
      refine Pv.lit rfl ?_
      refine Pv.bin (z := Int32.ofNat (q + 1)) rfl (i_add q 1) ?_
      refine Pv.putI rfl rfl ?_
      refine Pv.goto rfl ?_
      refine Pv.fE (G := fp F 69 4 (Int32.ofNat (q + 1))) (fp_fp) ?_
      exact ih4 (q + 1) (⟨by omega, by omega, (tk_go hqy.1 hby).symm.trans hrun⟩)
end
