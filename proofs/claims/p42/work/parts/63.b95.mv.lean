/-! ===== from what is known of a typed heap to cells ===== -/
theorem gi_rd {hp : ab_H} {a k : Nat} {v : Int} (h : sf_rd hp a k = some v) : ((fl hp).1 a k).toInt = v := by
  show (gi hp a k).toInt = v
  unfold sf_rd at h
  unfold gi
  split at h
  · rename_i o ho
    rw [ho]
    dsimp only
    unfold sf_iv at h
    split at h
    · rename_i x hx
      rw [hx]
      exact Option.some.inj h
    · cases h
  · rename_i x hx
    rw [hx]
    dsimp only
    split at h
    · rename_i f hf
      rw [hf]
      dsimp only
      rw [Bool.cond_eq_ite] at h
      split at h
      · exact Option.some.inj h
      · cases h
    · cases h
theorem gl_rl {hp : ab_H} {a k : Nat} {w : Int64} (h : sf_rl hp a k = some w) : (fl hp).2.2.1 a k = w := by
  show gl hp a k = w
  unfold sf_rl at h
  unfold gl
  split at h
  · rename_i o ho
    rw [ho]
    dsimp only
    split at h
    · rename_i x hx
      rw [hx]
      exact Option.some.inj h
    · cases h
  · rename_i x hx
    rw [hx]
    dsimp only
    split at h
    · rename_i f hf
      rw [hf]
      dsimp only
      rw [Bool.cond_eq_ite] at h
      split at h
      · exact Option.some.inj h
      · cases h
    · cases h
theorem sfr_frz {P : Nat → Prop} {W : List (Nat × Nat × Nat)} {t t' : Nat → Nat} {hp hp' : ab_H} (H : sf_h t hp) (f : sf_fr W t hp t' hp') (hW : ∀ w ∈ W, ∃ q, sf_P w.1 = some q ∧ P q) : FRZ P (fl hp) (fl hp') := by
  refine ⟨f.1, fun a ha c => ?_⟩
  have e : hp'.2 a = hp.2 a := f.2.2.2.1 a ha (by
    rw [List.all_eq_true]
    intro w hw
    refine decide_eq_true fun e => ?_
    obtain ⟨q, hq, hP⟩ := hW w hw
    rw [e] at hq
    obtain rfl := H.2.1 a q ha hq
    exact c hP)
  refine ⟨fun k => ?_, fun k => ?_, fun k => ?_⟩
  · show gi hp' a k = gi hp a k
    unfold gi
    rw [e]
  · show gr hp' a k = gr hp a k
    unfold gr
    rw [e]
  · show gl hp' a k = gl hp a k
    unfold gl
    rw [e]
theorem sfh_ref {t : Nat → Nat} {hp : ab_H} {g p k g1 q : Nat} (H : sf_h t hp) (hP : sf_P g = some p) (hg : g < 100) (hk : (sf_C g)[k]? = some (1, (g1 : Int), 0)) (hq : sf_P g1 = some q) : (fl hp).2.1 p k = .ref q := by
  show gr hp p k = .ref q
  obtain ⟨a1, a2⟩ := H.2.2.1 g p hP
  have c := H.1 p a1
  rw [a2] at c
  unfold sf_c at c
  unfold gr
  split at c
  · rename_i o ho
    rw [ho]
    dsimp only
    obtain ⟨v, hv, hk'⟩ := c.2.2 k _ hk
    rw [hv]
    unfold sf_v at hk'
    split at hk'
    · exact absurd hk'.1 (by show ¬ (1 : Nat) = 0; decide)
    · rename_i b
      obtain ⟨-, hb, ht⟩ := hk'
      have ht' : (t b : Int) = (g1 : Int) := ht
      obtain rfl := H.2.1 b q hb (by rw [show t b = g1 by omega]; exact hq)
      rfl
    · exact absurd hk'.2 (by show ¬ (0 : Int) = 1; decide)
    · exact absurd hk' (by show ¬ (1 : Nat) = 2; decide)
    · exact absurd hk' id
  · exact absurd c.1 (by omega)
abbrev MVP (q : Nat) : Prop := q = 1 ∨ q = 3 ∨ q = 4 ∨ q = 5 ∨ q = 6

theorem wires_mv : ∀ y ∈ wires, MVP y.1 → y = (1, 0, 2) ∨ y = (3, 0, 4) ∨ y = (3, 1, 5) ∨ y = (3, 2, 6) := by decide
/-- what is known when the tape was cut into tokens -/
def MVQ (F F' : FW) (B : Nat → Int) (n lim : Nat) : Prop := FRZ MVP F F' ∧ GW F' ∧ F'.1 3 4 = Int32.ofNat 0 ∧ F'.1 3 9 = 0 ∧ F'.1 1 1 = 0 ∧ ∃ m, TKF F' (tok B n lim) m
theorem tks_flat {hp : ab_H} {B : Nat → Int} {n lim m : Nat} (h : TKS hp B n lim m) : TKF (fl hp) (tok B n lim) m := by
  have more := fun j (hj : j < m) a b => CK_more h hj a b
  obtain ⟨h1, h2, h3, h4, -, -⟩ := h
  refine ⟨h1, h2, (i_ofv (gi_rd h3) (by omega)).trans (by rw [show ((m : Int)).toNat = m by omega]), fun j hj => ?_, more⟩
  obtain ⟨a, b, w, hw, e3, e2⟩ := h4 j hj
  exact ⟨gi_rd a, gi_rd b, fun e => by rw [gl_rl hw]; exact e3 e, fun e => by rw [gl_rl hw]; exact e2 e, ⟨tok_nok B n lim j, fun e => (tok_wok B n lim j (Or.inl e)).1⟩⟩
theorem mv_flat {t : Nat → Nat} {hp : ab_H} {x n : Nat} (H : sf_h t hp) (hx : x ≤ 900) (hce : sf_cE kq_X8_moveInto_v Z_X8_moveInto ke_X8_moveInto_v) (hG : GW (fl hp)) (h88 : 88 ≤ hp.1) (hn : sf_rd hp 1 1 = some (n : Int)) : Pj Z_X8_moveInto [.ref 1, .ref 3, .int (Int32.ofNat x)] hp (fun r F' => r = none ∧ MVQ (fl hp) F' (bv hp 2 n) n x) := by
  intro o e
  obtain ⟨a1, a2⟩ := H.2.2.1 8 1 rfl
  obtain ⟨b1, b2⟩ := H.2.2.1 9 3 rfl
  have xi : (Int32.ofNat x).toInt = x := i_toInt (by omega)
  obtain ⟨r, hp', t', e', H', f, an, -, E⟩ := hce t hp [.ref 1, .ref 3, .int (Int32.ofNat x)] H rfl (fun i j hj => match i, hj with
    | 0, hj => by cases hj; exact sf_j1 a1 a2
    | 1, hj => by cases hj; exact sf_j1 b1 b2
    | 2, hj => by cases hj; exact sf_j0
    | i + 3, hj => by cases hj) (sf_S_cons (sf_s1 (x := (Int32.ofNat x).toInt) rfl (by omega) (by omega)) sf_S_nil)
  obtain rfl := Option.some.inj (e.symm.trans e')
  obtain ⟨m, tk, h4, h9, h1⟩ := E n hn
  have Z : FRZ MVP (fl hp) (fl hp') := sfr_frz H f (by
    intro w hw
    have : w = (8, 1, 2) ∨ w = (9, 3, 3) ∨ w = (9, 4, 4) ∨ w = (9, 9, 9) ∨ w = (124, 0, 900) ∨ w = (125, 0, 900) ∨ w = (126, 0, 0) := by simpa [kq_X8_moveInto_v] using hw
    rcases this with rfl | rfl | rfl | rfl | rfl | rfl | rfl
    · exact ⟨1, rfl, by decide⟩
    · exact ⟨3, rfl, by decide⟩
    · exact ⟨3, rfl, by decide⟩
    · exact ⟨3, rfl, by decide⟩
    · exact ⟨4, rfl, by decide⟩
    · exact ⟨5, rfl, by decide⟩
    · exact ⟨6, rfl, by decide⟩)
  refine ⟨wt_of H', an.1 rfl, Z, ?_, ?_, ?_, ?_, m, ?_⟩
  · intro y my
    by_cases c : MVP y.1
    · rcases wires_mv y my c with rfl | rfl | rfl | rfl
      · exact sfh_ref H' (g := 8) (g1 := 123) rfl (by decide) rfl rfl
      · exact sfh_ref H' (g := 9) (g1 := 124) rfl (by decide) rfl rfl
      · exact sfh_ref H' (g := 9) (g1 := 125) rfl (by decide) rfl rfl
      · exact sfh_ref H' (g := 9) (g1 := 126) rfl (by decide) rfl rfl
    · exact ((Z.2 y.1 (by have := (wires_lt y my).2; show y.1 < hp.1; omega) c).2.1 _).trans (hG y my)
  · exact Int32.toInt_inj.mp (gi_rd h4)
  · exact Int32.toInt_inj.mp (gi_rd h9)
  · exact Int32.toInt_inj.mp (gi_rd h1)
  · have q := tks_flat tk
    have e1 : mv_l [.ref 1, .ref 3, .int (Int32.ofNat x)] = x := by
      show (Int32.ofNat x).toInt.toNat = x
      rw [xi]
      omega
    rw [e1, show ((n : Int)).toNat = n by omega] at q
    exact q
