/-! ===== bits ===== -/
def btb (b : Int32) (j : Nat) : Bool := b.toBitVec.getLsbD j
theorem sh_bv : ∀ m, m < 32 → ((1 : Int32) <<< (Int32.ofNat m &&& 31)).toBitVec = BitVec.twoPow 32 m := by decide
theorem bt_ext {a b : Int32} (h : ∀ j, j < 32 → btb a j = btb b j) : a = b :=
  Int32.toBitVec_inj.mp (BitVec.eq_of_getLsbD_eq fun j hj => h j hj)
theorem bt_0 (j : Nat) : btb 0 j = false := by
  show (0#32).getLsbD j = false
  simp
theorem bt_or (a b : Int32) (j : Nat) : btb (a ||| b) j = (btb a j || btb b j) := by
  unfold btb
  rw [Int32.toBitVec_or, BitVec.getLsbD_or]
theorem bt_and (a b : Int32) (j : Nat) : btb (a &&& b) j = (btb a j && btb b j) := by
  unfold btb
  rw [Int32.toBitVec_and, BitVec.getLsbD_and]
theorem bt_sh {m j : Nat} (hm : m < 32) : btb ((1 : Int32) <<< (Int32.ofNat m &&& 31)) j = decide (m = j) := by
  unfold btb
  rw [sh_bv m hm, BitVec.getLsbD_twoPow]
  by_cases h : m = j
  · subst h
    simp [hm]
  · simp [h]
theorem m_bit_bt {b : Int32} {m : Nat} (hm : m < 32) : m_bit b m = btb b m := by
  unfold m_bit
  have h1 : (b &&& (1 : Int32) <<< (Int32.ofNat m &&& 31) = 0) ↔ btb b m = false := by
    constructor
    · intro h
      have h2 : btb (b &&& (1 : Int32) <<< (Int32.ofNat m &&& 31)) m = btb 0 m := congrArg (fun x => btb x m) h
      rw [bt_and, bt_sh hm, bt_0] at h2
      simpa using h2
    · intro h
      refine bt_ext fun j hj => ?_
      rw [bt_and, bt_sh hm, bt_0]
      by_cases c : m = j
      · subst c
        rw [h]
        rfl
      · simp [c]
  cases h : btb b m with
  | false =>
    rw [decide_eq_true (h1.mpr h)]
    rfl
  | true =>
    rw [decide_eq_false (fun c => by
      rw [h1.mp c] at h
      cases h)]
    rfl
theorem sm_bv : ∀ m, m < 32 → ((Int32.ofNat m &&& 31).toBitVec.smod 32) = BitVec.ofNat 32 m := by decide
theorem xbit_bt {b : Int32} {m : Nat} (hm : m < 32) : xbit b m = btb b m := by
  unfold xbit
  have e : ∀ j, btb (b >>> (Int32.ofNat m &&& 31) &&& 1) j = (decide (j = 0) && btb b m) := by
    intro j
    rw [bt_and]
    have h1 : btb (1 : Int32) j = decide (j = 0) := by
      show (1#32).getLsbD j = _
      rw [BitVec.getLsbD_one]
      simp
    rw [h1]
    by_cases c : j = 0
    · subst c
      unfold btb
      rw [Int32.toBitVec_shiftRight, sm_bv m hm]
      unfold BitVec.sshiftRight'
      rw [BitVec.getLsbD_sshiftRight]
      have h2 : (BitVec.ofNat 32 m).toNat = m := by
        rw [BitVec.toNat_ofNat]
        omega
      rw [h2]
      simp [hm]
    · simp [c]
  have h1 : (b >>> (Int32.ofNat m &&& 31) &&& 1 = 1) ↔ btb b m = true := by
    constructor
    · intro h
      have h2 := e 0
      rw [h] at h2
      have h3 : btb (1 : Int32) 0 = true := by decide
      rw [h3] at h2
      simpa using h2.symm
    · intro h
      refine bt_ext fun j hj => ?_
      rw [e j, h]
      show _ = (1#32).getLsbD j
      rw [BitVec.getLsbD_one]
      simp
  cases h : btb b m with
  | true => exact decide_eq_true (h1.mpr h)
  | false =>
    refine decide_eq_false fun c => ?_
    rw [h1.mp c] at h
    cases h
theorem bt_bits {f : Nat → Bool} {g : Nat → Nat} {j : Nat} : ∀ {n : Nat}, (∀ k, k < n → g k < 32) → (btb (m_bits f g n) j = true ↔ ∃ k, k < n ∧ f k = true ∧ g k = j)
  | 0, _ => by
    show btb 0 j = true ↔ _
    rw [bt_0]
    constructor
    · intro h
      cases h
    · rintro ⟨k, h, -⟩
      omega
  | n + 1, hg => by
    have ih := bt_bits (f := f) (g := g) (j := j) (n := n) (fun k hk => hg k (by omega))
    cases hf : f n with
    | true =>
      rw [m_bits_t hf, bt_or, bt_sh (hg n (by omega)), Bool.or_eq_true, ih]
      constructor
      · rintro (⟨k, h1, h2, h3⟩ | h)
        · exact ⟨k, by omega, h2, h3⟩
        · exact ⟨n, by omega, hf, of_decide_eq_true h⟩
      · rintro ⟨k, h1, h2, h3⟩
        by_cases c : k = n
        · subst c
          exact Or.inr (decide_eq_true h3)
        · exact Or.inl ⟨k, by omega, h2, h3⟩
    | false =>
      rw [m_bits_f hf, ih]
      constructor
      · rintro ⟨k, h1, h2, h3⟩
        exact ⟨k, by omega, h2, h3⟩
      · rintro ⟨k, h1, h2, h3⟩
        by_cases c : k = n
        · subst c
          rw [hf] at h2
          cases h2
        · exact ⟨k, by omega, h2, h3⟩
theorem bits_0 {f : Nat → Bool} {g : Nat → Nat} {n : Nat} (hg : ∀ k, k < n → g k < 32) : m_bits f g n = 0 ↔ ∀ k, k < n → f k = false := by
  constructor
  · intro h k hk
    cases hf : f k with
    | false => rfl
    | true =>
      have := (bt_bits (f := f) (g := g) (j := g k) hg).mpr ⟨k, hk, hf, rfl⟩
      rw [h, bt_0] at this
      cases this
  · intro h
    refine bt_ext fun j _ => ?_
    rw [bt_0]
    cases e : btb (m_bits f g n) j with
    | false => rfl
    | true =>
      obtain ⟨k, h1, h2, -⟩ := (bt_bits hg).mp e
      rw [h k h1] at h2
      cases h2
theorem bits_eq {f f' : Nat → Bool} {g g' : Nat → Nat} {n n' : Nat} (hg : ∀ k, k < n → g k < 32) (hg' : ∀ k, k < n' → g' k < 32) (h1 : ∀ k, k < n → f k = true → ∃ j, j < n' ∧ f' j = true ∧ g' j = g k) (h2 : ∀ k, k < n' → f' k = true → ∃ j, j < n ∧ f j = true ∧ g j = g' k) : m_bits f g n = m_bits f' g' n' := by
  refine bt_ext fun j _ => ?_
  rw [Bool.eq_iff_iff, bt_bits hg, bt_bits hg']
  constructor
  · rintro ⟨k, a, b, rfl⟩
    exact h1 k a b
  · rintro ⟨k, a, b, rfl⟩
    exact h2 k a b
/-! ===== who misses whom ===== -/
theorem m_first_some {T : St} {m o i : Nat} : ∀ {n : Nat}, m_first T m o n = some i → i < n ∧ t_r T i = m ∧ t_d T i = o
  | 0, h => by cases h
  | n + 1, h => by
    unfold m_first at h
    split at h
    · rename_i j hj
      obtain ⟨a, b⟩ := m_first_some hj
      obtain rfl := Option.some.inj h
      exact ⟨by omega, b⟩
    · split at h
      · rename_i c
        obtain rfl := Option.some.inj h
        exact ⟨by omega, c⟩
      · cases h
theorem m_first_none {T : St} {m o : Nat} : ∀ {n : Nat}, m_first T m o n = none → ∀ i, i < n → ¬ (t_r T i = m ∧ t_d T i = o)
  | 0, _, i, hi => by omega
  | n + 1, h, i, hi => by
    unfold m_first at h
    split at h
    · cases h
    · rename_i hn
      split at h
      · cases h
      · rename_i c
        by_cases e : i = n
        · rw [e]
          exact c
        · exact m_first_none hn i (by omega)
theorem m_does_iff {T : St} {S : Sh} (hT : TW T) {m o : Nat} : m_does T S m o = true ↔ ∃ k, k < t_n T ∧ t_r T k = m ∧ t_d T k = o ∧ m_felt T S k = true := by
  unfold m_does m_unl
  constructor
  · intro h
    rw [Bool.and_eq_true] at h
    obtain ⟨h1, h2⟩ := h
    split at h2
    · cases h2
    · rename_i i hi
      obtain ⟨a, b, c⟩ := m_first_some hi
      refine ⟨i, a, b, c, ?_⟩
      unfold m_felt
      rw [b, c, h2, h1]
      rfl
  · rintro ⟨k, a, b, c, d⟩
    unfold m_felt at d
    rw [b, c, Bool.and_eq_true] at d
    rw [d.1, Bool.true_and]
    cases e : m_first T m o (t_n T) with
    | none => exact absurd ⟨b, c⟩ (m_first_none e k a)
    | some i =>
      obtain ⟨a', b', c'⟩ := m_first_some e
      obtain rfl := hT.2.2.2.2 i k a' a (b'.trans b.symm) (c'.trans c.symm)
      exact d.2
theorem m_missed_0 {T : St} {S : Sh} (hT : TW T) {m : Nat} (hm : m < t_m T) : m_bit (m_missed T S) m = !decide (m_bits (fun j => m_does T S j m) id (t_m T) = 0) := by
  have b1 := hT.2.1
  rw [m_bit_bt (by omega)]
  unfold m_missed
  have h1 := bt_bits (f := m_felt T S) (g := t_d T) (j := m) (n := t_n T) (fun k hk => by have := (hT.2.2.2.1 k hk).2; omega)
  have h2 := bits_0 (f := fun j => m_does T S j m) (g := id) (n := t_m T) (fun k hk => by show k < 32; omega)
  cases e : btb (m_bits (m_felt T S) (t_d T) (t_n T)) m with
  | true =>
    obtain ⟨k, a, b, c⟩ := h1.mp e
    rw [decide_eq_false]
    · rfl
    · intro h
      have := h2.mp h (t_r T k) (hT.2.2.2.1 k a).1
      rw [(m_does_iff hT).mpr ⟨k, a, rfl, c, b⟩] at this
      cases this
  | false =>
    rw [decide_eq_true]
    · rfl
    · refine h2.mpr fun j hj => ?_
      cases d : m_does T S j m with
      | false => rfl
      | true =>
        obtain ⟨k, a, b, c, f⟩ := (m_does_iff hT).mp d
        rw [h1.mpr ⟨k, a, f, c⟩] at e
        cases e
theorem m_missers_eq {T : St} {S : Sh} (hT : TW T) {m : Nat} : m_bits (fun j => m_does T S j m) id (t_m T) = m_missers T S m := by
  have b1 := hT.2.1
  refine bits_eq (fun k hk => by show k < 32; omega) (fun k hk => by have := (hT.2.2.2.1 k hk).1; omega) (fun j hj h => ?_) (fun k hk h => ?_)
  · obtain ⟨k, a, b, c, f⟩ := (m_does_iff hT).mp h
    exact ⟨k, a, by simp [c, f], b⟩
  · have h' : t_d T k = m ∧ m_felt T S k = true := by simpa using h
    exact ⟨t_r T k, (hT.2.2.2.1 k hk).1, (m_does_iff hT).mpr ⟨k, hk, rfl, h'.1, h'.2⟩, rfl⟩
theorem m_misses_eq {T : St} {S : Sh} (hT : TW T) {m : Nat} : m_bits (fun o => m_does T S m o) id (t_m T) = m_misses T S m := by
  have b1 := hT.2.1
  refine bits_eq (fun k hk => by show k < 32; omega) (fun k hk => by have := (hT.2.2.2.1 k hk).2; omega) (fun j hj h => ?_) (fun k hk h => ?_)
  · obtain ⟨k, a, b, c, f⟩ := (m_does_iff hT).mp h
    exact ⟨k, a, by simp [b, f], c⟩
  · have h' : t_r T k = m ∧ m_felt T S k = true := by simpa using h
    exact ⟨t_d T k, (hT.2.2.2.1 k hk).2, (m_does_iff hT).mpr ⟨k, hk, h'.1, rfl, h'.2⟩, rfl⟩
