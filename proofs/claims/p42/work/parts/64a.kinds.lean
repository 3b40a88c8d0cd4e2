/-! ===== the fresh heap keeps its kinds ===== -/
def T0 (k : Nat) : Nat := sf_Tl.getD k 0
def v0b (k : sf_K) (v : Value) : Bool := match v with
  | .int x => decide (k.1 = 0) && decide (k.2.1 ≤ x.toInt) && decide (x.toInt ≤ k.2.2)
  | .ref a => decide (k.1 = 1) && decide (a < 88) && decide ((T0 a : Int) = k.2.1)
  | .null => decide (k.1 = 1) && decide (k.2.2 = 1)
  | .long _ => decide (k.1 = 2)
  | _ => false
theorem v0b_ok {k : sf_K} {v : Value} (h : v0b k v = true) : sf_v T0 88 k v := by
  cases v with
  | int x =>
    simp only [v0b, Bool.and_eq_true, decide_eq_true_eq] at h
    exact ⟨h.1.1, h.1.2, h.2⟩
  | ref a =>
    simp only [v0b, Bool.and_eq_true, decide_eq_true_eq] at h
    exact ⟨h.1.1, h.1.2, h.2⟩
  | null =>
    simp only [v0b, Bool.and_eq_true, decide_eq_true_eq] at h
    exact h
  | long x =>
    simp only [v0b, decide_eq_true_eq] at h
    exact h
  | _ => cases h
def f0b : List sf_K → List Value → Bool
  | [], _ => true
  | k :: ks, v :: vs => v0b k v && f0b ks vs
  | _ :: _, [] => false
theorem f0b_ok : ∀ (ks : List sf_K) (vs : List Value), f0b ks vs = true → ∀ (i : Nat) (k : sf_K), ks[i]? = some k → ∃ v, vs[i]? = some v ∧ sf_v T0 88 k v
  | [], _, _, i, k, hk => by simp at hk
  | k0 :: ks, [], h, _, _, _ => by cases h
  | k0 :: ks, v0 :: vs, h, 0, k, hk => by
    have hk' : k0 = k := Option.some.inj hk
    subst hk'
    have h' : (v0b k0 v0 && f0b ks vs) = true := h
    rw [Bool.and_eq_true] at h'
    exact ⟨v0, rfl, v0b_ok h'.1⟩
  | k0 :: ks, v0 :: vs, h, i + 1, k, hk => by
    have h' : (v0b k0 v0 && f0b ks vs) = true := h
    rw [Bool.and_eq_true] at h'
    exact f0b_ok ks vs h'.2 i k hk
theorem c0_o {g c : Nat} {fs : List Value} (h1 : c = sf_o g) (h2 : g < 100) (h3 : f0b (sf_C g) fs = true) : sf_c T0 88 g (.inr (c, fs)) := ⟨h1, h2, fun i k hk => f0b_ok _ _ h3 i k hk⟩
theorem c0_a {g kd len : Nat} (hg : 100 ≤ g) (h1 : kd = (sf_A g).1) (h2 : len = (sf_A g).2.1) (h3 : kd ≠ 2) (h4 : kd < 4) (h5 : sf_al (sf_A g).2.2 0 (len - 1) (0, 0) = true) : sf_c T0 88 g (.inl (kd, len, .inl (fun _ => 0))) :=
  ⟨hg, h1, h2, h3, h4, fun j hj => sf_al_ok (i := (0, 0)) (lo := 0) (hi := len - 1) ⟨by show (0 : Int) ≤ (0 : Int32).toInt; decide, by show (0 : Int32).toInt ≤ (0 : Int); decide⟩ (Nat.zero_le _) (by have : j < len := hj; omega) h5⟩
theorem c0_t {g kd len : Nat} {f : Nat → Int32} (hg : 100 ≤ g) (h1 : kd = (sf_A g).1) (h2 : len = (sf_A g).2.1) (h3 : kd ≠ 2) (h4 : kd < 4) (h5 : sf_al (sf_A g).2.2 0 (len - 1) (-2147483648, 2147483647) = true) : sf_c T0 88 g (.inl (kd, len, .inl f)) :=
  ⟨hg, h1, h2, h3, h4, fun j hj => sf_al_ok (i := (-2147483648, 2147483647)) (lo := 0) (hi := len - 1) ⟨(n_range (f j)).1, (n_range (f j)).2⟩ (Nat.zero_le _) (by have : j < len := hj; omega) h5⟩
theorem c0_l {g len : Nat} {f : Nat → Int64} (hg : 100 ≤ g) (h1 : 2 = (sf_A g).1) (h2 : len = (sf_A g).2.1) : sf_c T0 88 g (.inl (2, len, .inr (.inl f))) := ⟨hg, h1, h2, rfl⟩
theorem c0_r {g kd len g1 : Nat} (hg : 100 ≤ g) (h1 : kd = (sf_A g).1) (h2 : len = (sf_A g).2.1) (h3 : 4 ≤ kd) (h4 : kd < 6) (h5 : (sf_A g).2.2 = [(len, (1, (g1 : Int), 1))]) : sf_c T0 88 g (.inl (kd, len, .inr (.inr (.inr (.inr (fun _ => none)))))) := by
  refine ⟨hg, h1, h2, h3, h4, fun j hj => ?_⟩
  rw [h5]
  show sf_v T0 88 (cond (decide (j < len)) (1, (g1 : Int), 1) (9, 0, 0)) .null
  rw [decide_eq_true hj]
  exact ⟨rfl, rfl⟩
theorem c0_s : sf_c T0 88 132 (.inl (1, 434, .inl (upd (fun _ => 0) 2 10))) := by
  refine ⟨by decide, rfl, rfl, by decide, by decide, fun j hj => ?_⟩
  show sf_v T0 88 _ (.int (if j = 2 then 10 else 0))
  by_cases e : j = 2
  · rw [if_pos e, e]
    exact ⟨rfl, by decide, by decide⟩
  · rw [if_neg e]
    exact sf_al_ok (i := (0, 0)) (lo := 0) (hi := 433) ⟨by show (0 : Int) ≤ (0 : Int32).toInt; decide, by show (0 : Int32).toInt ≤ (0 : Int); decide⟩ (Nat.zero_le _) (by have : j < 434 := hj; omega) (by decide +kernel)
theorem P_mem {g q : Nat} (h : sf_P g = some q) : (g, q) ∈ sf_Pl := by
  unfold sf_P at h
  cases hx : sf_Pl.find? (fun q => q.1 == g) with
  | none =>
    rw [hx] at h
    cases h
  | some x =>
    rw [hx] at h
    have e2 : x.2 = q := Option.some.inj h
    have e1 : (x.1 == g) = true := List.find?_some (p := fun q : Nat × Nat => q.1 == g) hx
    have e1' : x.1 = g := by simpa using e1
    have hm := List.mem_of_find?_eq_some hx
    rw [← e1', ← e2]
    exact hm
set_option maxRecDepth 100000 in
theorem P_2 : ∀ k, k < 88 → ∀ x ∈ sf_Pl, x.1 = T0 k → k = x.2 := by decide +kernel
set_option maxRecDepth 100000 in
theorem P_3 : ∀ x ∈ sf_Pl, x.2 < 88 ∧ T0 x.2 = x.1 := by decide +kernel
set_option maxRecDepth 100000 in
theorem P_5 : ∀ a, a < 88 → T0 a = 5 → a = 61 ∨ a = 65 := by decide +kernel
theorem z_rd {a i : Nat} (h : H0.2 a = .inl (1, 40, .inl (fun _ => 0))) (hi : i < 40) : sf_rd H0 a i = some 0 := sf_rd_arr h hi
theorem IV_0 : sf_IV T0 H0 := by
  refine ⟨fun a ha h5 => ?_, fun i hi hx => ?_, cd_ok_0 rfl, cd_ok_0 rfl, cd_ok_0 rfl⟩
  · rcases P_5 a ha h5 with rfl | rfl
    · exact ⟨by decide, rfl, rfl, rfl, rfl, fun i hi x hx hx2 => ⟨0, z_rd (a := 63) rfl hi, by decide, by decide⟩⟩
    · exact ⟨by decide, rfl, rfl, rfl, rfl, fun i hi x hx hx2 => ⟨0, z_rd (a := 67) rfl hi, by decide, by decide⟩⟩
  · rw [z_rd (a := 37) rfl hi] at hx
    exact absurd (Option.some.inj hx) (by decide)
set_option maxRecDepth 100000 in
set_option maxHeartbeats 4000000 in
theorem sf_h0 : sf_h T0 H0 := by
  refine ⟨fun k hk => ?_, fun k q hk hP => P_2 k hk _ (P_mem hP) rfl, fun g q hP => P_3 _ (P_mem hP), IV_0⟩
  match k, hk with
  | 0, _ => exact (show sf_c T0 88 10 (.inr (10, [.ref 1, .ref 3, .ref 7, .ref 10, .ref 12, .ref 20, .ref 28, .ref 36, .ref 40, .ref 41, .ref 42, .ref 43, .ref 44, .ref 45, .ref 53, .ref 61, .ref 65, .int 0, .int 0])) from c0_o rfl (by decide) (by decide +kernel))
  | 1, _ => exact (show sf_c T0 88 8 (.inr (8, [.ref 2, .int 0, .int 0])) from c0_o rfl (by decide) (by decide +kernel))
  | 2, _ => exact (show sf_c T0 88 123 (.inl (0, 940, .inl (fun _ => 0))) from c0_a (by decide) rfl rfl (by decide) (by decide) (by decide +kernel))
  | 3, _ => exact (show sf_c T0 88 9 (.inr (9, [.ref 4, .ref 5, .ref 6, .int 0, .int 0, .int 0, .int 0, .int 0, .long 0, .int 0])) from c0_o rfl (by decide) (by decide +kernel))
  | 4, _ => exact (show sf_c T0 88 124 (.inl (1, 901, .inl (fun _ => 0))) from c0_a (by decide) rfl rfl (by decide) (by decide) (by decide +kernel))
  | 5, _ => exact (show sf_c T0 88 125 (.inl (1, 901, .inl (fun _ => 0))) from c0_a (by decide) rfl rfl (by decide) (by decide) (by decide +kernel))
  | 6, _ => exact (show sf_c T0 88 126 (.inl (2, 901, .inr (.inl (fun _ => 0)))) from c0_l (by decide) rfl rfl)
  | 7, _ => exact (show sf_c T0 88 1 (.inr (1, [.ref 8, .ref 9, .int 0, .int 0])) from c0_o rfl (by decide) (by decide +kernel))
  | 8, _ => exact (show sf_c T0 88 100 (.inl (1, 6, .inl (fun _ => 0))) from c0_a (by decide) rfl rfl (by decide) (by decide) (by decide +kernel))
  | 9, _ => exact (show sf_c T0 88 101 (.inl (1, 6, .inl (fun _ => 0))) from c0_a (by decide) rfl rfl (by decide) (by decide) (by decide +kernel))
  | 10, _ => exact (show sf_c T0 88 2 (.inr (2, [.ref 11, .int 0])) from c0_o rfl (by decide) (by decide +kernel))
  | 11, _ => exact (show sf_c T0 88 102 (.inl (5, 8, .inr (.inr (.inr (.inr (fun _ => none)))))) from c0_r (g1 := 15) (by decide) rfl rfl (by decide) (by decide) rfl)
  | 12, _ => exact (show sf_c T0 88 6 (.inr (6, [.ref 13, .ref 14, .ref 15, .ref 16, .ref 17, .ref 18, .ref 19, .int 0, .int 0, .int 0])) from c0_o rfl (by decide) (by decide +kernel))
  | 13, _ => exact (show sf_c T0 88 149 (.inl (1, 12, .inl (fun _ => 0))) from c0_a (by decide) rfl rfl (by decide) (by decide) (by decide +kernel))
  | 14, _ => exact (show sf_c T0 88 150 (.inl (1, 12, .inl (fun _ => 0))) from c0_a (by decide) rfl rfl (by decide) (by decide) (by decide +kernel))
  | 15, _ => exact (show sf_c T0 88 151 (.inl (1, 12, .inl (fun _ => 0))) from c0_a (by decide) rfl rfl (by decide) (by decide) (by decide +kernel))
  | 16, _ => exact (show sf_c T0 88 152 (.inl (1, 12, .inl (fun _ => 0))) from c0_a (by decide) rfl rfl (by decide) (by decide) (by decide +kernel))
  | 17, _ => exact (show sf_c T0 88 153 (.inl (1, 8, .inl (fun _ => 0))) from c0_a (by decide) rfl rfl (by decide) (by decide) (by decide +kernel))
  | 18, _ => exact (show sf_c T0 88 154 (.inl (1, 8, .inl (fun _ => 0))) from c0_a (by decide) rfl rfl (by decide) (by decide) (by decide +kernel))
  | 19, _ => exact (show sf_c T0 88 155 (.inl (1, 64, .inl (fun _ => 0))) from c0_a (by decide) rfl rfl (by decide) (by decide) (by decide +kernel))
  | 20, _ => exact (show sf_c T0 88 13 (.inr (6, [.ref 21, .ref 22, .ref 23, .ref 24, .ref 25, .ref 26, .ref 27, .int 0, .int 0, .int 0])) from c0_o rfl (by decide) (by decide +kernel))
  | 21, _ => exact (show sf_c T0 88 156 (.inl (1, 12, .inl (fun _ => 0))) from c0_a (by decide) rfl rfl (by decide) (by decide) (by decide +kernel))
  | 22, _ => exact (show sf_c T0 88 157 (.inl (1, 12, .inl (fun _ => 0))) from c0_a (by decide) rfl rfl (by decide) (by decide) (by decide +kernel))
  | 23, _ => exact (show sf_c T0 88 158 (.inl (1, 12, .inl (fun _ => 0))) from c0_a (by decide) rfl rfl (by decide) (by decide) (by decide +kernel))
  | 24, _ => exact (show sf_c T0 88 159 (.inl (1, 12, .inl (fun _ => 0))) from c0_a (by decide) rfl rfl (by decide) (by decide) (by decide +kernel))
  | 25, _ => exact (show sf_c T0 88 160 (.inl (1, 8, .inl (fun _ => 0))) from c0_a (by decide) rfl rfl (by decide) (by decide) (by decide +kernel))
  | 26, _ => exact (show sf_c T0 88 161 (.inl (1, 8, .inl (fun _ => 0))) from c0_a (by decide) rfl rfl (by decide) (by decide) (by decide +kernel))
  | 27, _ => exact (show sf_c T0 88 162 (.inl (1, 64, .inl (fun _ => 0))) from c0_a (by decide) rfl rfl (by decide) (by decide) (by decide +kernel))
  | 28, _ => exact (show sf_c T0 88 14 (.inr (6, [.ref 29, .ref 30, .ref 31, .ref 32, .ref 33, .ref 34, .ref 35, .int 0, .int 0, .int 0])) from c0_o rfl (by decide) (by decide +kernel))
  | 29, _ => exact (show sf_c T0 88 163 (.inl (1, 12, .inl (fun _ => 0))) from c0_a (by decide) rfl rfl (by decide) (by decide) (by decide +kernel))
  | 30, _ => exact (show sf_c T0 88 164 (.inl (1, 12, .inl (fun _ => 0))) from c0_a (by decide) rfl rfl (by decide) (by decide) (by decide +kernel))
  | 31, _ => exact (show sf_c T0 88 165 (.inl (1, 12, .inl (fun _ => 0))) from c0_a (by decide) rfl rfl (by decide) (by decide) (by decide +kernel))
  | 32, _ => exact (show sf_c T0 88 166 (.inl (1, 12, .inl (fun _ => 0))) from c0_a (by decide) rfl rfl (by decide) (by decide) (by decide +kernel))
  | 33, _ => exact (show sf_c T0 88 167 (.inl (1, 8, .inl (fun _ => 0))) from c0_a (by decide) rfl rfl (by decide) (by decide) (by decide +kernel))
  | 34, _ => exact (show sf_c T0 88 168 (.inl (1, 8, .inl (fun _ => 0))) from c0_a (by decide) rfl rfl (by decide) (by decide) (by decide +kernel))
  | 35, _ => exact (show sf_c T0 88 169 (.inl (1, 64, .inl (fun _ => 0))) from c0_a (by decide) rfl rfl (by decide) (by decide) (by decide +kernel))
  | 36, _ => exact (show sf_c T0 88 4 (.inr (4, [.ref 37, .ref 38, .ref 39, .int 0])) from c0_o rfl (by decide) (by decide +kernel))
  | 37, _ => exact (show sf_c T0 88 103 (.inl (1, 40, .inl (fun _ => 0))) from c0_a (by decide) rfl rfl (by decide) (by decide) (by decide +kernel))
  | 38, _ => exact (show sf_c T0 88 104 (.inl (1, 40, .inl (fun _ => 0))) from c0_a (by decide) rfl rfl (by decide) (by decide) (by decide +kernel))
  | 39, _ => exact (show sf_c T0 88 105 (.inl (1, 40, .inl (fun _ => 0))) from c0_a (by decide) rfl rfl (by decide) (by decide) (by decide +kernel))
  | 40, _ => exact (show sf_c T0 88 0 (.inr (0, [.int 0])) from c0_o rfl (by decide) (by decide +kernel))
  | 41, _ => exact (show sf_c T0 88 127 (.inl (4, 2, .inr (.inr (.inr (.inr (fun _ => none)))))) from c0_r (g1 := 3) (by decide) rfl rfl (by decide) (by decide) rfl)
  | 42, _ => exact (show sf_c T0 88 128 (.inl (1, 12, .inl (fun _ => 0))) from c0_a (by decide) rfl rfl (by decide) (by decide) (by decide +kernel))
  | 43, _ => exact (show sf_c T0 88 129 (.inl (1, 60, .inl (fun _ => 0))) from c0_a (by decide) rfl rfl (by decide) (by decide) (by decide +kernel))
  | 44, _ => exact c0_t (by decide) rfl rfl (by decide) (by decide) (by decide +kernel)
  | 45, _ => exact (show sf_c T0 88 7 (.inr (7, [.ref 46, .ref 47, .ref 48, .ref 49, .ref 50, .ref 51, .ref 52, .int 10, .int 0, .int 0, .int 0, .int 0, .long 0])) from c0_o rfl (by decide) (by decide +kernel))
  | 46, _ => exact (show sf_c T0 88 116 (.inl (2, 6, .inr (.inl (fun _ => 0)))) from c0_l (by decide) rfl rfl)
  | 47, _ => exact (show sf_c T0 88 117 (.inl (2, 8, .inr (.inl (fun _ => 0)))) from c0_l (by decide) rfl rfl)
  | 48, _ => exact (show sf_c T0 88 118 (.inl (1, 8, .inl (fun _ => 0))) from c0_a (by decide) rfl rfl (by decide) (by decide) (by decide +kernel))
  | 49, _ => exact (show sf_c T0 88 119 (.inl (1, 48, .inl (fun _ => 0))) from c0_a (by decide) rfl rfl (by decide) (by decide) (by decide +kernel))
  | 50, _ => exact (show sf_c T0 88 120 (.inl (1, 20, .inl (fun _ => 0))) from c0_a (by decide) rfl rfl (by decide) (by decide) (by decide +kernel))
  | 51, _ => exact (show sf_c T0 88 121 (.inl (1, 20, .inl (fun _ => 0))) from c0_a (by decide) rfl rfl (by decide) (by decide) (by decide +kernel))
  | 52, _ => exact (show sf_c T0 88 122 (.inl (1, 20, .inl (fun _ => 0))) from c0_a (by decide) rfl rfl (by decide) (by decide) (by decide +kernel))
  | 53, _ => exact (show sf_c T0 88 7 (.inr (7, [.ref 54, .ref 55, .ref 56, .ref 57, .ref 58, .ref 59, .ref 60, .int 10, .int 0, .int 0, .int 0, .int 0, .long 0])) from c0_o rfl (by decide) (by decide +kernel))
  | 54, _ => exact (show sf_c T0 88 116 (.inl (2, 6, .inr (.inl (fun _ => 0)))) from c0_l (by decide) rfl rfl)
  | 55, _ => exact (show sf_c T0 88 117 (.inl (2, 8, .inr (.inl (fun _ => 0)))) from c0_l (by decide) rfl rfl)
  | 56, _ => exact (show sf_c T0 88 118 (.inl (1, 8, .inl (fun _ => 0))) from c0_a (by decide) rfl rfl (by decide) (by decide) (by decide +kernel))
  | 57, _ => exact (show sf_c T0 88 119 (.inl (1, 48, .inl (fun _ => 0))) from c0_a (by decide) rfl rfl (by decide) (by decide) (by decide +kernel))
  | 58, _ => exact (show sf_c T0 88 120 (.inl (1, 20, .inl (fun _ => 0))) from c0_a (by decide) rfl rfl (by decide) (by decide) (by decide +kernel))
  | 59, _ => exact (show sf_c T0 88 121 (.inl (1, 20, .inl (fun _ => 0))) from c0_a (by decide) rfl rfl (by decide) (by decide) (by decide +kernel))
  | 60, _ => exact (show sf_c T0 88 122 (.inl (1, 20, .inl (fun _ => 0))) from c0_a (by decide) rfl rfl (by decide) (by decide) (by decide +kernel))
  | 61, _ => exact (show sf_c T0 88 5 (.inr (5, [.ref 62, .ref 63, .ref 64, .int 0, .int 0, .int 0])) from c0_o rfl (by decide) (by decide +kernel))
  | 62, _ => exact (show sf_c T0 88 106 (.inl (1, 40, .inl (fun _ => 0))) from c0_a (by decide) rfl rfl (by decide) (by decide) (by decide +kernel))
  | 63, _ => exact (show sf_c T0 88 107 (.inl (1, 40, .inl (fun _ => 0))) from c0_a (by decide) rfl rfl (by decide) (by decide) (by decide +kernel))
  | 64, _ => exact (show sf_c T0 88 108 (.inl (1, 40, .inl (fun _ => 0))) from c0_a (by decide) rfl rfl (by decide) (by decide) (by decide +kernel))
  | 65, _ => exact (show sf_c T0 88 5 (.inr (5, [.ref 66, .ref 67, .ref 68, .int 0, .int 0, .int 0])) from c0_o rfl (by decide) (by decide +kernel))
  | 66, _ => exact (show sf_c T0 88 106 (.inl (1, 40, .inl (fun _ => 0))) from c0_a (by decide) rfl rfl (by decide) (by decide) (by decide +kernel))
  | 67, _ => exact (show sf_c T0 88 107 (.inl (1, 40, .inl (fun _ => 0))) from c0_a (by decide) rfl rfl (by decide) (by decide) (by decide +kernel))
  | 68, _ => exact (show sf_c T0 88 108 (.inl (1, 40, .inl (fun _ => 0))) from c0_a (by decide) rfl rfl (by decide) (by decide) (by decide +kernel))
  | 69, _ => exact (show sf_c T0 88 11 (.inr (11, [.int 0, .ref 70, .int 0, .int 0, .int 0, .int 0, .ref 71, .ref 72, .ref 73, .ref 74, .ref 75, .int 0, .int 0, .int 0, .int 0, .int 0, .int 0, .long 0, .int 0, .int 0, .int 0, .ref 76, .int 0, .ref 77, .ref 78, .int 0, .ref 79, .ref 80, .int (-1), .int 0, .int 0, .ref 81, .int 0, .ref 82, .int 0, .int 0, .int 0, .int 0, .int 0, .ref 83, .ref 84, .ref 85, .ref 86])) from c0_o rfl (by decide) (by decide +kernel))
  | 70, _ => exact (show sf_c T0 88 131 (.inl (0, 940, .inl (fun _ => 0))) from c0_a (by decide) rfl rfl (by decide) (by decide) (by decide +kernel))
  | 71, _ => exact c0_s
  | 72, _ => exact (show sf_c T0 88 133 (.inl (1, 120, .inl (fun _ => 0))) from c0_a (by decide) rfl rfl (by decide) (by decide) (by decide +kernel))
  | 73, _ => exact (show sf_c T0 88 134 (.inl (1, 160, .inl (fun _ => 0))) from c0_a (by decide) rfl rfl (by decide) (by decide) (by decide +kernel))
  | 74, _ => exact (show sf_c T0 88 135 (.inl (2, 28, .inr (.inl (fun _ => 0)))) from c0_l (by decide) rfl rfl)
  | 75, _ => exact c0_l (by decide) rfl rfl
  | 76, _ => exact (show sf_c T0 88 137 (.inl (1, 4, .inl (fun _ => 0))) from c0_a (by decide) rfl rfl (by decide) (by decide) (by decide +kernel))
  | 77, _ => exact (show sf_c T0 88 138 (.inl (1, 1064, .inl (fun _ => 0))) from c0_a (by decide) rfl rfl (by decide) (by decide) (by decide +kernel))
  | 78, _ => exact (show sf_c T0 88 139 (.inl (1, 133, .inl (fun _ => 0))) from c0_a (by decide) rfl rfl (by decide) (by decide) (by decide +kernel))
  | 79, _ => exact (show sf_c T0 88 140 (.inl (1, 60, .inl (fun _ => 0))) from c0_a (by decide) rfl rfl (by decide) (by decide) (by decide +kernel))
  | 80, _ => exact (show sf_c T0 88 141 (.inl (1, 12, .inl (fun _ => 0))) from c0_a (by decide) rfl rfl (by decide) (by decide) (by decide +kernel))
  | 81, _ => exact (show sf_c T0 88 142 (.inl (1, 4, .inl (fun _ => 0))) from c0_a (by decide) rfl rfl (by decide) (by decide) (by decide +kernel))
  | 82, _ => exact (show sf_c T0 88 143 (.inl (1, 45, .inl (fun _ => 0))) from c0_a (by decide) rfl rfl (by decide) (by decide) (by decide +kernel))
  | 83, _ => exact (show sf_c T0 88 144 (.inl (3, 45, .inl (fun _ => 0))) from c0_a (by decide) rfl rfl (by decide) (by decide) (by decide +kernel))
  | 84, _ => exact (show sf_c T0 88 145 (.inl (1, 868, .inl (fun _ => 0))) from c0_a (by decide) rfl rfl (by decide) (by decide) (by decide +kernel))
  | 85, _ => exact (show sf_c T0 88 146 (.inl (2, 28, .inr (.inl (fun _ => 0)))) from c0_l (by decide) rfl rfl)
  | 86, _ => exact (show sf_c T0 88 147 (.inl (3, 2, .inl (fun _ => 0))) from c0_a (by decide) rfl rfl (by decide) (by decide) (by decide +kernel))
  | 87, _ => exact (show sf_c T0 88 148 (.inl (2, 1, .inr (.inl (fun _ => 0)))) from c0_l (by decide) rfl rfl)
  | k + 88, h => exact absurd (show k + 88 < 88 from h) (by omega)
