/-! ===== what is kept of the past: the class ===== -/
theorem Pv.imp {T : Nat → Option ab_A} {N i : Nat} {lo : List (Option Value)} {st : List Value} {F : FW} {Q Q' : Option Value → FW → Prop} (h : Pv T N i lo st F Q) (g : ∀ r F', Q r F' → Q' r F') : Pv T N i lo st F Q' := fun f u hp o hf hw hF e => ⟨(h f u hp o hf hw hF e).1, g _ _ (h f u hp o hf hw hF e).2⟩
def SLT (F : FW) (a : Nat) : Prop := ∃ (j v : Nat), j < 8 ∧ F.2.1 11 j = .ref v ∧ v ≤ a ∧ a ≤ v + 7
def HW (F : FW) (c : Nat) (s : Nat → Nat) : Prop := c ≤ 8 ∧ (∀ j, j < c → F.2.1 11 j = .ref (s j) ∧ O7 F (s j) ∧ 88 ≤ s j ∧ s j + 8 ≤ F.2.2.2.1) ∧ (∀ j, c ≤ j → j < 8 → F.2.1 11 j = .null) ∧ ∀ i j, i < c → j < c → i ≠ j → s i + 7 < s j ∨ s j + 7 < s i
def HST (F : FW) (m n : Nat) (H : Nat → Sh) : Prop := ∃ c s, HW F c s ∧ n ≤ c ∧ F.1 10 1 = Int32.ofNat n ∧ ∀ j, j < n → SHR F (s j) m (H j)
def m_kn (n : Nat) : Nat := if n < 8 then n + 1 else 8
def m_kH (n : Nat) (H : Nat → Sh) (S : Sh) : Nat → Sh := fun j => if n < 8 then (if j < n then H j else S) else if j < 7 then H (j + 1) else S
/-- all but the history, and the places of P, is what it was; the heap may have grown -/
def KF (P : Nat → Prop) (F F' : FW) : Prop := F.2.2.2.1 ≤ F'.2.2.2.1 ∧ (∀ k, F'.2.1 10 k = F.2.1 10 k) ∧ (∀ a, a < F.2.2.2.1 → a ≠ 10 → a ≠ 11 → ¬ SLT F a → (∀ k, ¬ P a → F'.1 a k = F.1 a k) ∧ (∀ k, F'.2.1 a k = F.2.1 a k) ∧ ∀ k, ¬ P a → F'.2.2.1 a k = F.2.2.1 a k) ∧ ∀ a, SLT F' a → SLT F a ∨ F.2.2.2.1 ≤ a
theorem SLT.eq {F G : FW} (h : G.2.1 = F.2.1) {a : Nat} (s : SLT G a) : SLT F a := by
  obtain ⟨j, v, h1, h2, h3⟩ := s
  exact ⟨j, v, h1, by rw [← h]; exact h2, h3⟩
theorem KF.rf {P : Nat → Prop} {F : FW} : KF P F F := ⟨Nat.le_refl _, fun _ => rfl, fun _ _ _ _ _ => ⟨fun _ _ => rfl, fun _ => rfl, fun _ _ => rfl⟩, fun _ h => Or.inl h⟩
theorem KF.fx {P R : Nat → Prop} {F G K : FW} (h : KF P F G) (x : FX R G K) (w : ∀ q, q ≠ 10 → R q → P q) : KF P F K := ⟨by rw [x.2.2.2]; exact h.1, fun k => by rw [x.2.2.1]; exact h.2.1 k, fun a ha h1 h2 h3 => ⟨fun k c => (x.1 a k (fun r => c (w a h1 r))).trans ((h.2.2.1 a ha h1 h2 h3).1 k c), fun k => by rw [x.2.2.1]; exact (h.2.2.1 a ha h1 h2 h3).2.1 k, fun k c => (x.2.1 a k (fun r => c (w a h1 r))).trans ((h.2.2.1 a ha h1 h2 h3).2.2 k c)⟩, fun a s => h.2.2.2 a (s.eq x.2.2.1)⟩
theorem KF.tr {P : Nat → Prop} {F G K : FW} (h : KF P F G) (x : KF P G K) : KF P F K := ⟨Nat.le_trans h.1 x.1, fun k => (x.2.1 k).trans (h.2.1 k), fun a ha h1 h2 h3 => by
  have p := h.2.2.1 a ha h1 h2 h3
  have q := x.2.2.1 a (Nat.lt_of_lt_of_le ha h.1) h1 h2 (fun c => (h.2.2.2 a c).elim h3 (fun z => absurd ha (by omega)))
  exact ⟨fun k c => (q.1 k c).trans (p.1 k c), fun k => (q.2.1 k).trans (p.2.1 k), fun k c => (q.2.2 k c).trans (p.2.2 k c)⟩, fun a s => (x.2.2.2 a s).elim (h.2.2.2 a) (fun z => Or.inr (Nat.le_trans h.1 z))⟩
theorem wires_lt : ∀ x ∈ wires, x.1 ≠ 11 ∧ x.1 < 88 := by decide
theorem HST.ns {F : FW} {m n : Nat} {H : Nat → Sh} (h : HST F m n H) {a : Nat} (ha : a < 88) : ¬ SLT F a := by
  rintro ⟨j, v, hj, e, h1, h2⟩
  obtain ⟨c, s, hW, -⟩ := h
  rcases Nat.lt_or_ge j c with q | q
  · have w := hW.2.1 j q
    rw [w.1] at e
    obtain rfl := Value.ref.inj e
    omega
  · have w := hW.2.2.1 j q hj
    rw [w] at e
    cases e
theorem KF.gw {P : Nat → Prop} {F G : FW} {m n : Nat} {H : Nat → Sh} (h : KF P F G) (hH : HST F m n H) (hG : GW F) (h88 : 88 ≤ F.2.2.2.1) : GW G := fun x mx => by
  have w := wires_lt x mx
  rcases Classical.em (x.1 = 10) with e | e
  · rw [e, h.2.1]
    have := hG x mx
    rw [e] at this
    exact this
  · exact ((h.2.2.1 x.1 (by omega) e w.1 (hH.ns w.2)).2.1 _).trans (hG x mx)
theorem KF.sh {F G : FW} {p m mm n : Nat} {S : Sh} {H : Nat → Sh} (h : KF (fun _ => False) F G) (hH : HST F mm n H) (hS : SHR F p m S) (h1 : 12 ≤ p) (h2 : p + 7 < 88) (h88 : 88 ≤ F.2.2.2.1) : SHR G p m S :=
  hS.sm (fun a k c1 c2 => (h.2.2.1 a (by omega) (by omega) (by omega) (hH.ns (by omega))).1 k id) (fun k => (h.2.2.1 p (by omega) (by omega) (by omega) (hH.ns (by omega))).2.1 k)
theorem f_keep13 {F : FW} {n mm c : Nat} {s : Nat → Nat} {S : Sh} {H : Nat → Sh} (h10 : F.2.1 10 0 = .ref 11) (hn : F.1 10 1 = Int32.ofNat n) (hm : n < 8) (hW : HW F c s) (hc : n ≤ c) (hH : ∀ j, j < n → SHR F (s j) mm (H j)) (hS : SHR F 12 mm S) (hmm : mm ≤ 8) (h88 : 88 ≤ F.2.2.2.1) (N : Nat) : Pv (ab_T (L_X2_keep Z_X2_dropOldest Z_X6_init Z_X6_copyFrom)) N 13 [some (.ref 10), some (.ref 12), none] [] F (fun r F' => r = none ∧ HST F' mm (n + 1) (fun j => if j < n then H j else S) ∧ KF (fun _ => False) F F') := by
  rcases Nat.lt_or_ge n c with h | h
  · have a := hW.2.1 n h
    refine (f_keepA h10 hn hm a.1 hS hmm a.2.1 a.2.2.1 N).imp ?_
    rintro r F' ⟨e, x, y, z⟩
    refine ⟨e, ⟨c, s, ⟨hW.1, fun j hj => ?_, fun j h1 h2 => by rw [x.2.2.1]; exact hW.2.2.1 j h1 h2, hW.2.2.2⟩, h, z, fun j hj => ?_⟩, by rw [x.2.2.2]; exact Nat.le_refl _, fun k => by rw [x.2.2.1], fun q hq h1 h2 h3 => ?_, fun a sa => Or.inl (sa.eq x.2.2.1)⟩
    · obtain ⟨b1, b2, b3, b4⟩ := hW.2.1 j hj
      exact ⟨by rw [x.2.2.1]; exact b1, x.O7 b2, b3, by rw [x.2.2.2]; exact b4⟩
    · dsimp only
      rcases Nat.lt_or_ge j n with q | q
      · rw [if_pos q]
        have d := hW.2.2.2 j n (by omega) h (by omega)
        have b := hW.2.1 j (by omega)
        exact (hH j q).fx x (fun w h1 h2 c1 => by omega)
      · rw [if_neg (by omega)]
        obtain rfl : j = n := by omega
        exact y
    · have g : ¬ ((s n ≤ q ∧ q ≤ s n + 7) ∨ q = 10) := fun c1 => c1.elim (fun c2 => h3 ⟨n, s n, hm, a.1, c2.1, c2.2⟩) h1
      exact ⟨fun k _ => x.1 q k g, fun k => by rw [x.2.2.1], fun k _ => x.2.1 q k g⟩
  · obtain rfl : c = n := by omega
    refine (f_keepB h10 hn hm (hW.2.2.1 c (Nat.le_refl _) hm) hS hmm h88 N).imp ?_
    rintro r F' ⟨e, y, g1, g2, g3, g4, g5, g6⟩
    have oj : ∀ j, j < c → s j ≠ 11 ∧ s j < F.2.2.2.1 := fun j hj => by
      have b := hW.2.1 j hj
      omega
    refine ⟨e, ⟨c + 1, fun j => if j < c then s j else F.2.2.2.1, ⟨by omega, fun j hj => ?_, fun j h1 h2 => (g5 11 j (by omega) (by omega)).trans (hW.2.2.1 j (by omega) h2), fun i j hi hj hij => ?_⟩, Nat.le_refl _, g2, fun j hj => ?_⟩, by omega, fun k => g5 10 k (by omega) (by omega), fun q hq h1 h2 h3 => ⟨fun k _ => g4 q k hq h1, fun k => g5 q k hq (by omega), fun k _ => g6 q k hq⟩, fun a sa => ?_⟩
    · dsimp only
      rcases Nat.lt_or_ge j c with q | q
      · rw [if_pos q]
        obtain ⟨b1, b2, b3, b4⟩ := hW.2.1 j q
        exact ⟨(g5 11 j (by omega) (by omega)).trans b1, fun i hi => (g5 _ _ (by omega) (by omega)).trans (b2 i hi), b3, by omega⟩
      · rw [if_neg (by omega)]
        obtain rfl : j = c := by omega
        exact ⟨g3, y.o, h88, by omega⟩
    · dsimp only
      rcases Nat.lt_or_ge i c with q | q <;> rcases Nat.lt_or_ge j c with q' | q'
      · rw [if_pos q, if_pos q']
        exact hW.2.2.2 i j q q' hij
      · rw [if_pos q, if_neg (by omega)]
        have b := hW.2.1 i q
        omega
      · rw [if_neg (by omega), if_pos q']
        have b := hW.2.1 j q'
        omega
      · omega
    · dsimp only
      rcases Nat.lt_or_ge j c with q | q
      · rw [if_pos q, if_pos q]
        have b := hW.2.1 j q
        exact (hH j q).sm (fun a k h1 h2 => g4 a k (by omega) (by omega)) (fun k => g5 _ k (by omega) (by omega))
      · rw [if_neg (by omega), if_neg (by omega)]
        exact y
    · obtain ⟨j, v, hj8, ev, h1, h2⟩ := sa
      rcases Classical.em (j = c) with q | q
      · rw [q, g3] at ev
        obtain rfl := Value.ref.inj ev
        exact Or.inr h1
      · rw [g5 11 j (by omega) (by omega)] at ev
        exact Or.inl ⟨j, v, hj8, ev, h1, h2⟩
theorem f_keep {F : FW} {n mm : Nat} {S : Sh} {H : Nat → Sh} (hG : GW F) (hH : HST F mm n H) (hS : SHR F 12 mm S) (hmm : mm ≤ 8) (h88 : 88 ≤ F.2.2.2.1) : Pm Z_X2_keep [.ref 10, .ref 12] F (fun r F' => r = none ∧ HST F' mm (m_kn n) (m_kH n H S) ∧ KF (fun _ => False) F F') := by
  refine Pm.of fun N => ?_
  refine (show Pv (ab_T (L_X2_keep Z_X2_dropOldest Z_X6_init Z_X6_copyFrom)) N 0 [some (.ref 10), some (.ref 12), none] [] F _ from ?_)
  obtain ⟨c, s, hW, hc, hn, hj⟩ := hH
  have hc8 := hW.1
  refine Pv.aload rfl rfl ?_
  refine Pv.getI (z := Int32.ofNat n) rfl rfl hn ?_
  refine Pv.lit rfl ?_
  refine Pv.icmp rfl (fun c6 => ?_) (fun c6 => ?_)
  · replace c6 := (i_lt (a := n) (b := 8) (by omega) (by omega)).mp (of_decide_eq_true c6)
    refine (f_keep13 (H := H) (GW.at (a := 10) (k := 0) (b := 11) hG (by decide)) hn (by omega) hW hc hj hS hmm h88 N).imp ?_
    rintro r F' ⟨e, y, z⟩
    refine ⟨e, ?_, z⟩
    unfold m_kn m_kH
    rw [if_pos (by omega)]
    rw [show (fun j => if n < 8 then (if j < n then H j else S) else if j < 7 then H (j + 1) else S) = fun j => if j < n then H j else S from funext fun j => if_pos (by omega)]
    exact y
  · replace c6 := mt (i_lt (a := n) (b := 8) (by omega) (by omega)).mpr (of_decide_eq_false c6)
    obtain rfl : n = 8 := by omega
    obtain rfl : c = 8 := by omega
    refine Pv.aload rfl rfl ?_
    refine Pv.callV (as := [.ref 10]) (rest := []) rfl rfl rfl (f_dropOldest (q := s) hG (fun j h => (hW.2.1 j h).1)) ?_
    rintro _ G ⟨rfl, x1, x2, x3, x4⟩
    have g1 : ∀ a k, a ≠ 10 → G.1 a k = F.1 a k := fun a k h => by
      rw [x1]
      exact fp_ne (Or.inl h)
    have hW' : HW G 8 (fun j => if j < 7 then s (j + 1) else s 0) := by
      refine ⟨Nat.le_refl _, fun j h => ⟨x4 j h, ?_⟩, fun j h1 h2 => by omega, fun i j hi hj hij => ?_⟩
      · rw [x2]
        dsimp only
        split
        · obtain ⟨-, b2, b3, b4⟩ := hW.2.1 (j + 1) (by omega)
          exact ⟨fun i hi => (x3 _ _ (by omega)).trans (b2 i hi), b3, b4⟩
        · obtain ⟨-, b2, b3, b4⟩ := hW.2.1 0 (by omega)
          exact ⟨fun i hi => (x3 _ _ (by omega)).trans (b2 i hi), b3, b4⟩
      · dsimp only
        have d1 := hW.2.2.2 (i + 1) (j + 1)
        have d2 := hW.2.2.2 (i + 1) 0
        have d3 := hW.2.2.2 0 (j + 1)
        split <;> split <;> omega
    refine (f_keep13 (n := 7) (H := fun j => H (j + 1)) ((x3 10 0 (by decide)).trans (GW.at (a := 10) (k := 0) (b := 11) hG (by decide))) (by rw [x1]; exact fp_eq) (by omega) hW' (by omega) (fun j h => ?_) (hS.sm (fun a k h1 h2 => g1 a k (by omega)) (fun k => x3 12 k (by decide))) hmm (by rw [x2]; exact h88) N).imp ?_
    · rw [if_pos h]
      have b := hW.2.1 (j + 1) (by omega)
      exact (hj (j + 1) (by omega)).sm (fun a k h1 h2 => g1 a k (by omega)) (fun k => x3 _ k (by omega))
    · rintro r F' ⟨e, y, z⟩
      have k0 : KF (fun _ => False) F G := by
        refine ⟨by rw [x2]; exact Nat.le_refl _, fun k => x3 10 k (by decide), fun a ha h1 h2 h3 => ⟨fun k _ => g1 a k h1, fun k => x3 a k h2, fun k _ => by rw [x2]⟩, ?_⟩
        rintro a ⟨j, v, hj8, ev, h1, h2⟩
        rw [x4 j hj8] at ev
        obtain rfl := Value.ref.inj ev
        refine Or.inl ?_
        rcases Nat.lt_or_ge j 7 with q | q
        · rw [if_pos q] at h1 h2
          exact ⟨j + 1, _, by omega, (hW.2.1 (j + 1) (by omega)).1, h1, h2⟩
        · rw [if_neg (by omega)] at h1 h2
          exact ⟨0, _, by omega, (hW.2.1 0 (by omega)).1, h1, h2⟩
      exact ⟨e, y, k0.tr z⟩
theorem KF.wide {P : Nat → Prop} {F G : FW} (h : KF (fun _ => False) F G) : KF P F G := ⟨h.1, h.2.1, fun a ha h1 h2 h3 => ⟨fun k _ => (h.2.2.1 a ha h1 h2 h3).1 k id, (h.2.2.1 a ha h1 h2 h3).2.1, fun k _ => (h.2.2.1 a ha h1 h2 h3).2.2 k id⟩, h.2.2.2⟩
theorem AR.sm {F G : FW} {a n : Nat} {f : Nat → Int32} (h : AR F a n f) (x : ∀ k, G.1 a k = F.1 a k) : AR G a n f := fun j hj => (x j).trans (h j hj)
theorem KF.st {F G : FW} {t mm n : Nat} {T : St} {H : Nat → Sh} (h : KF (fun _ => False) F G) (hH : HST F mm n H) (hT : TR F t T) (h1 : 12 ≤ t) (h2 : t + 7 < 88) (h88 : 88 ≤ F.2.2.2.1) : TR G t T := by
  have x : ∀ a, t ≤ a → a ≤ t + 7 → (∀ k, G.1 a k = F.1 a k) ∧ ∀ k, G.2.1 a k = F.2.1 a k := fun a c1 c2 =>
    ⟨fun k => (h.2.2.1 a (by omega) (by omega) (by omega) (hH.ns (by omega))).1 k id, fun k => (h.2.2.1 a (by omega) (by omega) (by omega) (hH.ns (by omega))).2.1 k⟩
  exact ⟨fun j hj => ((x t (by omega) (by omega)).2 j).trans (hT.o j hj), hT.w, ((x t (by omega) (by omega)).1 _).trans hT.l, ((x t (by omega) (by omega)).1 _).trans hT.g, ((x t (by omega) (by omega)).1 _).trans hT.m, ((x t (by omega) (by omega)).1 _).trans hT.n,
    hT.a.sm (x _ (by omega) (by omega)).1, hT.r.sm (x _ (by omega) (by omega)).1, hT.d.sm (x _ (by omega) (by omega)).1, hT.dd.sm (x _ (by omega) (by omega)).1, hT.f.sm (x _ (by omega) (by omega)).1⟩
theorem HST.fx {P : Nat → Prop} {F G : FW} {m n : Nat} {H : Nat → Sh} (h : HST F m n H) (x : FX P F G) (c : ∀ a, P a → a < 88 ∧ a ≠ 10) : HST G m n H := by
  obtain ⟨k, s, hW, h1, h2, h3⟩ := h
  have np : ∀ a, 88 ≤ a → ¬ P a := fun a ha q => by
    have := (c a q).1
    omega
  refine ⟨k, s, ⟨hW.1, fun j hj => ?_, fun j a b => by rw [x.2.2.1]; exact hW.2.2.1 j a b, hW.2.2.2⟩, h1, (x.1 10 1 (fun q => (c 10 q).2 rfl)).trans h2, fun j hj => ?_⟩
  · obtain ⟨b1, b2, b3, b4⟩ := hW.2.1 j hj
    exact ⟨by rw [x.2.2.1]; exact b1, x.O7 b2, b3, by rw [x.2.2.2]; exact b4⟩
  · have b := hW.2.1 j (by omega)
    exact (h3 j hj).fx x (fun a c1 c2 => np a (by omega))
theorem f_why {F : FW} {p m k n d : Nat} {S : Sh} (hS : SHR F p m S) (hk : k < 12) (hn : n < 1000) (hd : d < 3) : Pm Z_X6_whyNot [.ref p, .int (Int32.ofNat d), .int (Int32.ofNat k), .int (Int32.ofNat n)] F (fun r F' => r = some (.int (m_why d S k (Int32.ofNat n))) ∧ F' = F) :=
  match d, hd with
  | 0, _ => f_whyNot0 hS hk hn
  | 1, _ => f_whyNot1 hS hk hn
  | 2, _ => f_whyNot2 hS hk hn
  | d + 3, h => absurd h (by omega)
theorem f_perf {F : FW} {p m k n d : Nat} {S : Sh} (hS : SHR F p m S) (hk : k < 12) (hn : n < 1000) (hd : d < 3) : Pm Z_X6_perform [.ref p, .int (Int32.ofNat d), .int (Int32.ofNat k), .int (Int32.ofNat n)] F (fun r F' => r = none ∧ FX (fun q => p ≤ q ∧ q ≤ p + 7) F F' ∧ SHR F' p m (m_do d S k (Int32.ofNat n))) :=
  match d, hd with
  | 0, _ => f_perform0 hS hk hn
  | 1, _ => f_perform1 hS hk hn
  | 2, _ => f_perform2 hS hk hn
  | d + 3, h => absurd h (by omega)
/-! what is done: the answer, and what is so then -/
def a_act (d : Nat) (T : St) (S : Sh) (x y z : Int32) : Int32 := aGS T x y fun g s => match ndr 1 250 z with
  | none => -1
  | some n => m_why d S (2 * g + s) (Int32.ofNat n)
def m_act (d : Nat) (T : St) (S : Sh) (x y z : Int32) : Sh := match nd (t_g T) x, nd 2 y, ndr 1 250 z with
  | some g, some s, some n => m_try d S (2 * g + s) (Int32.ofNat n)
  | _, _, _ => S
theorem m_act_f {d : Nat} {T : St} {S : Sh} {x y z : Int32} (h : ((nd (t_g T) x).isSome && (nd 2 y).isSome) = false) : m_act d T S x y z = S := by
  unfold m_act
  cases e1 : nd (t_g T) x with
  | none => rfl
  | some g => cases e2 : nd 2 y with
    | none => rfl
    | some s =>
      rw [e1, e2] at h
      cases h
theorem m_act_n {d : Nat} {T : St} {S : Sh} {x y z : Int32} {g s : Nat} (h1 : nd (t_g T) x = some g) (h2 : nd 2 y = some s) (h3 : ndr 1 250 z = none) : m_act d T S x y z = S := by
  unfold m_act
  rw [h1, h2, h3]
theorem m_act_y {d : Nat} {T : St} {S : Sh} {x y z : Int32} {g s n : Nat} (h1 : nd (t_g T) x = some g) (h2 : nd 2 y = some s) (h3 : ndr 1 250 z = some n) : m_act d T S x y z = m_try d S (2 * g + s) (Int32.ofNat n) := by
  unfold m_act
  rw [h1, h2, h3]
def a_die (T : St) (S : Sh) (x : Int32) : Int32 := match nd (t_m T) x with
  | none => -1
  | some k => m_why 3 S k 0
def m_die (T : St) (S : Sh) (x : Int32) : Sh := match nd (t_m T) x with
  | none => S
  | some k => m_try 3 S k 0
def a_days (T : St) (S : Sh) (x : Int32) : Int32 := match ndr 1 60 x with
  | none => -1
  | some k => Int32.ofNat (h_d (m_days T S k)) - Int32.ofNat (h_d S)
def m_dys (T : St) (S : Sh) (x : Int32) : Sh := match ndr 1 60 x with
  | none => S
  | some k => m_days T S k
def a_drawn (T : St) (S : Sh) (x z : Int32) : Int32 := match ndr 1 60 x with
  | none => -1
  | some k => if t_g T = 0 then -1 else Int32.ofNat (h_d (m_drawn T (S, z) k).1) - Int32.ofNat (h_d S)
def m_dwn (T : St) (S : Sh) (x z : Int32) : Sh := match ndr 1 60 x with
  | none => S
  | some k => if t_g T = 0 then S else (m_drawn T (S, z) k).1
/-- what is kept then -/
def HK (b : Bool) (F : FW) (m n : Nat) (H : Nat → Sh) (S : Sh) : Prop := if b then HST F m (m_kn n) (m_kH n H S) else HST F m n H
theorem HK.t {b : Bool} {F : FW} {m n : Nat} {H : Nat → Sh} {S : Sh} (h : HST F m (m_kn n) (m_kH n H S)) (e : b = true) : HK b F m n H S := by
  rw [e]
  exact h
theorem HK.f {b : Bool} {F : FW} {m n : Nat} {H : Nat → Sh} {S : Sh} (h : HST F m n H) (e : b = false) : HK b F m n H S := by
  rw [e]
  exact h
theorem HST.took {P : Nat → Prop} {F G : FW} {m n : Nat} {H : Nat → Sh} (h : HST F m n H) (x : FX P F G) (c : ∀ a, P a → a < 88) (e : G.1 10 1 = Int32.ofNat (n - 1)) : HST G m (n - 1) H := by
  obtain ⟨k, s, hW, h1, h2, h3⟩ := h
  refine ⟨k, s, ⟨hW.1, fun j hj => ?_, fun j a b => by rw [x.2.2.1]; exact hW.2.2.1 j a b, hW.2.2.2⟩, by omega, e, fun j hj => ?_⟩
  · obtain ⟨b1, b2, b3, b4⟩ := hW.2.1 j hj
    exact ⟨by rw [x.2.2.1]; exact b1, x.O7 b2, b3, by rw [x.2.2.2]; exact b4⟩
  · have b := hW.2.1 j (by omega)
    exact (h3 j (by omega)).fx x (fun a c1 c2 q => by
      have := c a q
      omega)
