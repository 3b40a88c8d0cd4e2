theorem i_ofI {x : Int32} {v : Int} (h : x.toInt = v) : x = Int32.ofInt v := by
  rw [← h, Int32.ofInt_toInt]
theorem i_ofN {x : Int32} {v : Int} (h : x.toInt = v) (h0 : 0 ≤ v) : x = Int32.ofNat v.toNat := i_ofv h h0
theorem toI_of {v : Int} (h0 : -2147483648 ≤ v) (h1 : v ≤ 2147483647) : (Int32.ofInt v).toInt = v := Int32.toInt_ofInt_of_le (by omega) (by omega)
def psT (s : PS) : St := ((s.h 0).toNat, (s.h 1).toNat, (s.h 3).toNat, Int32.ofInt (s.h 2), fun k => Int32.ofInt (s.h (4 + k)), fun i => (s.h (60 + i)).toNat, fun i => (s.h (80 + i)).toNat, fun i => Int32.ofInt (s.h (100 + i)), fun m => Int32.ofInt (s.h (52 + m)))
def psS (T : St) : Sh := (fun k => t_a T (0 * 12 + k), fun _ => 0, fun _ => 0, fun _ => 0, t_fs T, fun _ => 0, fun _ => 0, 0, 0, 0)
theorem psT_w {s : PS} (h : PSK s) : TW (psT s) := by
  obtain ⟨p0, p1, p2, p3, p4, p5⟩ := h
  unfold PSB at p0
  refine ⟨show (s.h 0).toNat ≤ 6 by omega, show (s.h 1).toNat ≤ 8 by omega, show (s.h 3).toNat ≤ 20 by omega, fun i hi => ?_, fun i j hi hj c1 c2 => ?_⟩
  · have hi' : i < (s.h 3).toNat := hi
    have := p4 i (by omega)
    exact ⟨show (s.h (60 + i)).toNat < (s.h 1).toNat by omega, show (s.h (80 + i)).toNat < (s.h 1).toNat by omega⟩
  · have hi' : i < (s.h 3).toNat := hi
    have hj' : j < (s.h 3).toNat := hj
    have a := p4 i (by omega)
    have b := p4 j (by omega)
    have c1' : (s.h (60 + i)).toNat = (s.h (60 + j)).toNat := c1
    have c2' : (s.h (80 + i)).toNat = (s.h (80 + j)).toNat := c2
    exact p5 i j (by omega) (by omega) (by omega) (by omega)
theorem psT_b {s : PS} (h : PSK s) : TBB (psT s) := by
  obtain ⟨p0, p1, p2, p3, p4, p5⟩ := h
  refine ⟨?_, ?_, fun k hk => ?_⟩
  · show 0 ≤ (Int32.ofInt (s.h 2)).toInt
    rw [toI_of (by omega) (by omega)]
    omega
  · show (Int32.ofInt (s.h 2)).toInt ≤ 40
    rw [toI_of (by omega) (by omega)]
    omega
  · have := p2 k hk
    show 0 ≤ (Int32.ofInt (s.h (4 + k))).toInt ∧ (Int32.ofInt (s.h (4 + k))).toInt ≤ 250
    rw [toI_of (by omega) (by omega)]
    exact this
theorem psS_i {s : PS} (h : PSK s) : INV (psT s) (psS (psT s)) := by
  have b := psT_b h
  obtain ⟨p0, p1, p2, p3, p4, p5⟩ := h
  refine ⟨fun k hk => ?_, fun k hk => ?_, fun k hk => ?_, fun m _ => ⟨show (0 : Int) ≤ 0 by decide, show (0 : Int) ≤ ((0 : Nat) : Int) by decide⟩, fun k _ => ⟨show (0 : Int) ≤ 0 by decide, show (0 : Int) ≤ 40 * ((0 : Nat) : Int) by decide⟩, Nat.zero_le _⟩
  · have := b.2.2 (0 * 12 + k) (by omega)
    exact ⟨this.1, show (t_a (psT s) (0 * 12 + k)).toInt ≤ 999 by omega⟩
  · have := b.2.2 (0 * 12 + k) (by omega)
    refine ⟨show (0 : Int) ≤ 0 by decide, ?_⟩
    show (t_a (psT s) (0 * 12 + k)).toInt + (0 : Int32).toInt ≤ 250 + 290 * ((0 : Nat) : Int)
    have z : (0 : Int32).toInt = 0 := rfl
    omega
  · have hk' : k < (s.h 1).toNat := hk
    show Int32.ofInt (s.h (52 + k)) = -1 ∨ Int32.ofInt (s.h (52 + k)) = 0 ∨ Int32.ofInt (s.h (52 + k)) = 1
    rcases p3 k (by omega) with e | e <;> rw [e]
    · exact Or.inr (Or.inl rfl)
    · exact Or.inr (Or.inr rfl)
theorem SCF.tr {F : FW} {r : Nat} {s : PS} (h : SCF F r s) (k : PSK s) : TR F r (psT s) := by
  have b := k.1
  unfold PSB at b
  refine ⟨h.o, psT_w k, i_ofI h.l, i_ofN h.n0 (by omega), i_ofN h.n1 (by omega), i_ofN h.n3 (by omega), fun i hi => i_ofI (h.am hi), fun i hi => ?_, fun i hi => ?_, fun i hi => ?_, fun i hi => ?_⟩
  · have hi' : i < (s.h 3).toNat := hi
    exact i_ofN (h.ms (by omega)).1 (k.2.2.2.2.1 i (by omega)).1.1
  · have hi' : i < (s.h 3).toNat := hi
    exact i_ofN (h.ms (by omega)).2.1 (k.2.2.2.2.1 i (by omega)).2.1
  · have hi' : i < (s.h 3).toNat := hi
    exact i_ofI (h.ms (by omega)).2.2
  · have hi' : i < (s.h 1).toNat := hi
    exact i_ofI (h.fs (by omega))
theorem SCF.nmc {F : FW} {r : Nat} {s : PS} (h : SCF F r s) : NMC F r (psT s) s.nm := ⟨fun g hg => by
    have hg' : g < (s.h 0).toNat := hg
    exact h.gn (by omega), fun g hg => by
    have hg' : g < (s.h 1).toNat := hg
    exact h.mn (by omega)⟩
theorem BGV.sh {F : FW} {p : Nat} {s : PS} (h : BGV F p) (hs : SCF F p s) (o : O7 F 12) : SHR F 12 (t_m (psT s)) (psS (psT s)) := by
  have b := hs.b
  unfold PSB at b
  refine ⟨o, Nat.zero_le _, fun j hj => (h.1 j hj).1.trans (i_ofI (hs.am (by omega))), fun j hj => (h.1 j hj).2.1, fun j hj => (h.1 j hj).2.2.1, fun j hj => (h.1 j hj).2.2.2, fun j hj => ?_, fun j hj => ?_, fun j hj => h.2.2.1 j hj, h.2.2.2.1, h.2.2.2.2.1, h.2.2.2.2.2⟩
  · have hj' : j < (s.h 1).toNat := hj
    exact (h.2.1 j (by omega)).1.trans (i_ofI (hs.fs (by omega)))
  · have hj' : j < (s.h 1).toNat := hj
    exact (h.2.1 j (by omega)).2
theorem STE.xt {K G : FW} {s : PS} (h : STE K G) (hs : SRF K s) (k : PSK s) : XT G (psT s) := by
  have b := k.1
  unfold PSB at b
  have q : ∀ i, i < 120 → (G.1 71 i).toInt = s.h i := fun i hi => by
    rw [h.2.2.2.2.2.1 i hi]
    exact hs.h hi
  refine ⟨psT_w k, i_ofN (q 0 (by omega)) (by omega), i_ofN (q 1 (by omega)) (by omega), i_ofI (q 2 (by omega)), i_ofN (q 3 (by omega)) (by omega), fun j hj => ?_, fun j hj => ?_, fun j hj => ?_, fun j hj => ?_, fun j hj => ?_, fun j hj => ?_, fun j hj => ?_, fun j hj => ?_⟩
  · exact (i_ofI (q (4 + j) (by omega))).trans (by show _ = Int32.ofInt (s.h (4 + (0 * 12 + j))); rw [show 4 + (0 * 12 + j) = 4 + j by omega])
  · exact (i_ofI (q (16 + j) (by omega))).trans (by show _ = Int32.ofInt (s.h (4 + (1 * 12 + j))); rw [show 4 + (1 * 12 + j) = 16 + j by omega])
  · exact (i_ofI (q (28 + j) (by omega))).trans (by show _ = Int32.ofInt (s.h (4 + (24 + j))); rw [show 4 + (24 + j) = 28 + j by omega])
  · exact (i_ofI (q (40 + j) (by omega))).trans (by show _ = Int32.ofInt (s.h (4 + (36 + j))); rw [show 4 + (36 + j) = 40 + j by omega])
  · have hj' : j < (s.h 3).toNat := hj
    exact i_ofN (q (60 + j) (by omega)) (k.2.2.2.2.1 j (by omega)).1.1
  · have hj' : j < (s.h 3).toNat := hj
    exact i_ofN (q (80 + j) (by omega)) (k.2.2.2.2.1 j (by omega)).2.1
  · have hj' : j < (s.h 3).toNat := hj
    exact i_ofI (q (100 + j) (by omega))
  · have hj' : j < (s.h 1).toNat := hj
    exact i_ofI (q (52 + j) (by omega))
theorem m_sum_0 : ∀ n, m_sum (fun _ => (0 : Int32)) n = 0
  | 0 => rfl
  | n + 1 => by
    show m_sum (fun _ => (0 : Int32)) n + 0 = 0
    rw [m_sum_0 n]
    rfl
theorem STE.xs {K G : FW} {s : PS} (h : STE K G) (hs : SRF K s) (k : PSK s) : XS G (t_m (psT s)) (psS (psT s)) := by
  have b := k.1
  unfold PSB at b
  obtain ⟨-, -, -, -, -, c1, c2, c3, c4⟩ := h
  have z : ∀ i, 120 ≤ i → i < 434 → (i < 124 ∨ 136 ≤ i) → (i < 172 ∨ 180 ≤ i) → G.1 71 i = 0 := c4
  refine ⟨Nat.zero_le _, z 120 (by omega) (by omega) (by omega) (by omega), z 121 (by omega) (by omega) (by omega) (by omega), z 122 (by omega) (by omega) (by omega) (by omega), (z 123 (by omega) (by omega) (by omega) (by omega)).trans (m_sum_0 12).symm, fun j hj => ?_, fun j hj => z (136 + j) (by omega) (by omega) (by omega) (by omega), fun j hj => z (148 + j) (by omega) (by omega) (by omega) (by omega), fun j hj => z (160 + j) (by omega) (by omega) (by omega) (by omega), fun j hj => ?_, fun j hj _ => ?_, fun j hj => ?_, fun i j hi hj _ _ _ => ?_⟩
  · exact ((c2 j hj).trans (i_ofI (hs.h (by omega)))).trans (by show _ = Int32.ofInt (s.h (4 + (0 * 12 + j))); rw [show 4 + (0 * 12 + j) = 4 + j by omega])
  · have hj' : j < (s.h 1).toNat := hj
    rw [z 180 (by omega) (by omega) (by omega) (by omega), xbit_bt (by omega), bt_0]
    show false = !(!decide (Int32.ofInt (s.h (52 + j)) = -1))
    rcases k.2.2.2.1 j (by omega) with e | e <;> rw [e] <;> rfl
  · have hj' : j < (s.h 1).toNat := hj
    exact (c3 j (by omega)).trans (i_ofI (hs.h (by omega)))
  · have hj' : j < (s.h 1).toNat := hj
    exact z (181 + j) (by omega) (by omega) (by omega) (by omega)
  · have hi' : i < (s.h 1).toNat := hi
    have hj' : j < (s.h 1).toNat := hj
    rw [z (189 + 8 * i + j) (by omega) (by omega) (by omega) (by omega)]
    show (0 : Int32) = (if j < i then 0 else 0)
    split <;> rfl
theorem STE.ng {K G : FW} {s : PS} (h : STE K G) (hs : SRF K s) : (∀ g, g < t_g (psT s) → (G.2.2.1 74 (0 + g)).toInt = s.nm (0 + g)) ∧ ∀ g, g < t_m (psT s) → (G.2.2.1 74 (6 + g)).toInt = s.nm (6 + g) := by
  have b := hs.b
  unfold PSB at b
  refine ⟨fun g hg => ?_, fun g hg => ?_⟩
  · have hg' : g < (s.h 0).toNat := hg
    rw [h.2.2.2.2.1 (0 + g) (by omega), show 14 + (0 + g) = 14 + g by omega, show 0 + g = g by omega]
    exact hs.2.2.2.1 g (by omega)
  · have hg' : g < (s.h 1).toNat := hg
    rw [h.2.2.2.2.1 (6 + g) (by omega), show 14 + (6 + g) = 20 + g by omega]
    exact hs.2.2.2.2.1 g (by omega)
