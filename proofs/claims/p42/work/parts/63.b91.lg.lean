/-! ===== the reference judges a LOG ===== -/
theorem r_does {F : FW} {T : St} {S : Sh} {y : Nat × Nat × Nat} {v1 v2 v3 : Int32} (hT : XT F T) (hS : XS F (t_m T) S) (hG : GW F) (hTB : TBB T) (hI : INV T S) (hy : LYK T y) (h1 : y.1 < 3 → v1 = Int32.ofNat (y.2.1 / 2) ∧ v2 = Int32.ofNat (y.2.1 % 2) ∧ v3 = Int32.ofNat y.2.2) (h3 : y.1 = 3 → v1 = Int32.ofNat y.2.1) (h4 : y.1 = 4 → v1 = Int32.ofNat y.2.2) : Pm Z_X11_does [.ref 69, .int (Int32.ofNat y.1), .int v1, .int v2, .int v3] F (fun r F' => r = some (.int (jw S y)) ∧ RXS F F' ∧ XS F' (t_m T) (js T S y)) := by
  obtain ⟨d, w, x⟩ := y
  obtain ⟨q1, q2, q3, q4⟩ := hy
  dsimp only at q1 q2 q3 q4 h1 h3 h4 ⊢
  have hw : 2 * (w / 2) + w % 2 = w := by omega
  rcases (by omega : d = 0 ∨ d = 1 ∨ d = 2 ∨ d = 3 ∨ d = 4) with e | e | e | e | e
  · subst e
    obtain ⟨rfl, rfl, rfl⟩ := h1 (by omega)
    have z := r_does0 (g := w / 2) (s := w % 2) (x := x) hT hS hG (by have := (q2 (by omega)).1; omega) (by have := (q2 (by omega)).2.2; omega)
    rw [hw] at z
    exact z
  · subst e
    obtain ⟨rfl, rfl, rfl⟩ := h1 (by omega)
    have z := r_does1 (g := w / 2) (s := w % 2) (x := x) hT hS hG (by have := (q2 (by omega)).1; omega) (by have := (q2 (by omega)).2.2; omega)
    rw [hw] at z
    exact z
  · subst e
    obtain ⟨rfl, rfl, rfl⟩ := h1 (by omega)
    have z := r_does2 (g := w / 2) (s := w % 2) (x := x) hT hS hG (by have := (q2 (by omega)).1; omega) (by have := (q2 (by omega)).2.2; omega)
    rw [hw] at z
    exact z
  · subst e
    obtain rfl := h3 rfl
    have x0 := (q3 rfl).2
    subst x0
    exact r_does3 hT hS hG (q3 rfl).1 v2 v3
  · subst e
    obtain rfl := h4 rfl
    have z := r_does4 hT hS hG hTB hI (by have := (q4 rfl).2; omega) v2 v3
    have ew : jw S (4, w, x) = jw S (4, 0, x) := by
      unfold jw
      rw [if_pos rfl, if_pos rfl]
    have es : js T S (4, w, x) = js T S (4, 0, x) := by
      unfold js
      rw [if_pos rfl, if_pos rfl]
    rw [ew, es]
    exact z
theorem m_why_3 {d : Nat} {S : Sh} {k : Nat} {n : Int32} : m_why d S k n = 0 ∨ m_why d S k n = 1 ∨ m_why d S k n = 2 := by
  unfold m_why
  split
  · split
    · exact Or.inr (Or.inl rfl)
    · split
      · exact Or.inr (Or.inr rfl)
      · exact Or.inl rfl
  · split
    · exact Or.inl rfl
    · exact Or.inr (Or.inl rfl)
  · split
    · exact Or.inr (Or.inl rfl)
    · exact Or.inl rfl
theorem jw_le {S : Sh} {y : Nat × Nat × Nat} (hy : y.1 ≤ 4) : jw S y ≤ 0 ↔ jw S y = 0 := by
  refine ⟨fun h => ?_, fun h => by rw [h]; decide⟩
  unfold jw at h ⊢
  by_cases c : y.1 = 4
  · rw [if_pos c] at h ⊢
    by_cases e : h_d S + y.2.2 ≤ 400
    · rw [if_pos e]
    · rw [if_neg e] at h
      exact absurd h (by decide)
  · rw [if_neg c] at h ⊢
    by_cases e : m_why y.1 S y.2.1 (Int32.ofNat y.2.2) = 0
    · rw [if_pos e]
    · rw [if_neg e] at h
      exfalso
      have r : m_why y.1 S y.2.1 (Int32.ofNat y.2.2) = 0 ∨ m_why y.1 S y.2.1 (Int32.ofNat y.2.2) = 1 ∨ m_why y.1 S y.2.1 (Int32.ofNat y.2.2) = 2 := m_why_3
      have d4 : y.1 = 0 ∨ y.1 = 1 ∨ y.1 = 2 ∨ y.1 = 3 := by omega
      rcases r with r | r | r
      · exact e r
      · rw [r] at h
        rcases d4 with d | d | d | d <;> rw [d] at h <;> exact absurd h (by decide)
      · rw [r] at h
        rcases d4 with d | d | d | d <;> rw [d] at h <;> exact absurd h (by decide)
theorem oN_neg0 {q : Option Nat} (hq : ∀ k, q = some k → k < 2 ^ 31) (h : oN q < 0) : q = none := by
  cases q with
  | none => rfl
  | some k =>
    exfalso
    have h' : Int32.ofNat k < Int32.ofNat 0 := h
    have := (i_lt (a := k) (b := 0) (hq k rfl) (by omega)).mp h'
    omega
theorem jfst_go {T : St} {L : LN} {S : Sh} {k n : Nat} (h : ¬ m_fst (jP T L S) k = none) (hk : k ≤ n) : m_fst (jP T L S) n = m_fst (jP T L S) k := by
  cases e : m_fst (jP T L S) k with
  | none => exact absurd e h
  | some i =>
    have := m_fst_up e (n - k)
    rw [show k + (n - k) = n by omega] at this
    exact this
theorem jn_go {T : St} {L : LN} {S : Sh} {k n : Nat} (h : ¬ m_fst (jP T L S) k = none) : jn k (m_fst (jP T L S) k) = jn n (m_fst (jP T L S) k) := by
  cases e : m_fst (jP T L S) k with
  | none => exact absurd e h
  | some i => rfl
theorem jn_le {T : St} {L : LN} {S : Sh} {n : Nat} : jn n (m_fst (jP T L S) n) ≤ n := by
  cases e : m_fst (jP T L S) n with
  | none => exact Nat.le_refl n
  | some i => exact Nat.le_of_lt (m_fst_lt e).1
theorem r_lg216 {F F0 : FW} {m n kk : Nat} {S S2 : Sh} {H : Nat → Sh} {a c0 l : Int32} {o4 : Option Value} (hG : GW F) (hR : RTL F0 F) (hm8 : m ≤ 8) (hS0 : XS F0 m S) (hS : XS F m S2) (hH : HSX F m n H) (h80 : F.1 81 0 = c0) (h81 : F.1 81 1 = Int32.ofNat kk) (hkk : kk ≤ 40) (hl : l = 0 ∨ l = 1) (N : Nat) : Pv (ab_T (L_X11_log Z_X11_isIn Z_X11_taken Z_X11_next Z_X11_logLine Z_X11_sign Z_X11_tries Z_X11_does Z_X11_keep Z_X11_back)) N 216 [some (.ref 69), some (.int l), some (.int (m_sum (h_u S) 12)), some (.int a), o4] [] F (fun r F' => r = some (.int a) ∧ LGO F0 F' m n S S2 H l kk c0) := by
  rcases hl with rfl | rfl
  · exact r_lg216z hG hR hm8 hS0 hS hH h80 h81 hkk N
  · exact r_lg216y hG hR hm8 hS0 hS hH h80 h81 hkk N
def LGI (F0 G : FW) (T : St) (L : LN) (S : Sh) (nl k : Nat) (a : Int32) : Prop := k ≤ nl ∧ RTL F0 G ∧ a = oN (m_fst (jP T L S) k) ∧ XS G (t_m T) (jr T L S (jn k (m_fst (jP T L S) k))) ∧ G.1 81 0 = jc T L S (m_fst (jP T L S) k) ∧ G.1 81 1 = Int32.ofNat (jn k (m_fst (jP T L S) k))
theorem lg_by {F0 G : FW} {T : St} {L : LN} {S : Sh} {nl k : Nat} {a : Int32} (ea : a = -1) (en : m_fst (jP T L S) k = none) (hy : (L k).1 ≤ 4) (c : jw (jr T L S k) (L k) ≤ 0) (hk : k + 1 ≤ nl) (hR : RTL F0 G) (hx : XS G (t_m T) (js T (jr T L S k) (L k))) (h0 : G.1 81 0 = jw (jr T L S k) (L k)) (h1 : G.1 81 1 = Int32.ofNat (k + 1)) : LGI F0 G T L S nl (k + 1) a := by
  have w0 := (jw_le hy).mp c
  have e : m_fst (jP T L S) (k + 1) = none := m_fst_n en (show (!decide (jw (jr T L S k) (L k) = 0)) = false by rw [decide_eq_true w0]; rfl)
  unfold LGI
  rw [e]
  exact ⟨hk, hR, ea, hx, h0.trans w0, h1⟩
theorem lg_bn {F0 G : FW} {T : St} {L : LN} {S : Sh} {nl k : Nat} (en : m_fst (jP T L S) k = none) (hy : (L k).1 ≤ 4) (c : ¬ jw (jr T L S k) (L k) ≤ 0) (hk : k + 1 ≤ nl) (hR : RTL F0 G) (hx : js T (jr T L S k) (L k) = jr T L S k → XS G (t_m T) (jr T L S k)) (h0 : G.1 81 0 = jw (jr T L S k) (L k)) (h1 : G.1 81 1 = Int32.ofNat k) : LGI F0 G T L S nl (k + 1) (Int32.ofNat k) := by
  have w0 : ¬ jw (jr T L S k) (L k) = 0 := fun e => c ((jw_le hy).mpr e)
  have e : m_fst (jP T L S) (k + 1) = some k := m_fst_e en (show (!decide (jw (jr T L S k) (L k) = 0)) = true by rw [decide_eq_false w0]; rfl) (Nat.lt_succ_self k)
  unfold LGI
  rw [e]
  exact ⟨hk, hR, rfl, hx (js_w hy w0), h0, h1⟩
