/-! ===== a heap that keeps its kinds; t: the sort of every place ===== -/
def sf_v (t : Nat → Nat) (n : Nat) (k : sf_K) (v : Value) : Prop := match v with
  | .int x => k.1 = 0 ∧ k.2.1 ≤ x.toInt ∧ x.toInt ≤ k.2.2
  | .ref a => k.1 = 1 ∧ a < n ∧ (t a : Int) = k.2.1
  | .null => k.1 = 1 ∧ k.2.2 = 1
  | .long _ => k.1 = 2
  | _ => False
/-- the kind of an element -/
def sf_e : List (Nat × sf_K) → Nat → sf_K
  | [], _ => (9, 0, 0)
  | q :: r, j => cond (decide (j < q.1)) q.2 (sf_e r j)
def sf_c (t : Nat → Nat) (n g : Nat) (c : ab_E) : Prop := match c with
  | .inr o => o.1 = sf_o g ∧ g < 100 ∧ ∀ (i : Nat) (k : sf_K), (sf_C g)[i]? = some k → ∃ v, o.2[i]? = some v ∧ sf_v t n k v
  | .inl x => 100 ≤ g ∧ x.1 = (sf_A g).1 ∧ x.2.1 = (sf_A g).2.1 ∧ (match x.2.2 with
    | .inl f => x.1 ≠ 2 ∧ x.1 < 4 ∧ ∀ j, j < x.2.1 → sf_v t n (sf_e (sf_A g).2.2 j) (.int (f j))
    | .inr (.inl _) => x.1 = 2
    | .inr (.inr (.inr (.inr f))) => 4 ≤ x.1 ∧ x.1 < 6 ∧ ∀ j, j < x.2.1 → sf_v t n (sf_e (sf_A g).2.2 j) (ab_rf (f j))
    | _ => False)
def sf_h (t : Nat → Nat) (hp : ab_H) : Prop := (∀ k, k < hp.1 → sf_c t hp.1 (t k) (hp.2 k)) ∧ (∀ k q, k < hp.1 → sf_P (t k) = some q → k = q) ∧ (∀ g q, sf_P g = some q → q < hp.1 ∧ t q = g) ∧ sf_IV t hp
theorem sf_v_mono {t t' : Nat → Nat} {n n' : Nat} {k : sf_K} {v : Value} (h : sf_v t n k v) (hn : n ≤ n') (ht : ∀ a, a < n → t' a = t a) : sf_v t' n' k v := by
  cases v with
  | ref a => exact ⟨h.1, Nat.lt_of_lt_of_le h.2.1 hn, by rw [ht a h.2.1]; exact h.2.2⟩
  | _ => exact h
theorem sf_c_mono {t t' : Nat → Nat} {n n' g : Nat} {c : ab_E} (h : sf_c t n g c) (hn : n ≤ n') (ht : ∀ a, a < n → t' a = t a) : sf_c t' n' g c := by
  obtain ⟨kd, len, w⟩ | o := c
  · obtain ⟨h1, h2, h3, h4⟩ := h
    refine ⟨h1, h2, h3, ?_⟩
    obtain f | f | f | f | f := w
    · exact ⟨h4.1, h4.2.1, fun j hj => sf_v_mono (h4.2.2 j hj) hn ht⟩
    · exact h4
    · exact h4
    · exact h4
    · exact ⟨h4.1, h4.2.1, fun j hj => sf_v_mono (h4.2.2 j hj) hn ht⟩
  · obtain ⟨h1, h2, h3⟩ := h
    refine ⟨h1, h2, fun i k hk => ?_⟩
    obtain ⟨v, hv, hs⟩ := h3 i k hk
    exact ⟨v, hv, sf_v_mono hs hn ht⟩
/-- an object's field -/
theorem sf_get {t : Nat → Nat} {hp : ab_H} (H : sf_h t hp) {a ci i : Nat} {k : sf_K} (ha : a < hp.1) (ht : t a = ci) (hc : ci < 100) (hk : (sf_C ci)[i]? = some k) : ∃ fs v, hp.2 a = .inr (sf_o ci, fs) ∧ fs[i]? = some v ∧ sf_v t hp.1 k v := by
  have h := H.1 a ha
  rw [ht] at h
  cases e : hp.2 a with
  | inl x =>
    rw [e] at h
    exact absurd h.1 (by omega)
  | inr o =>
    rw [e] at h
    obtain ⟨c, fs⟩ := o
    obtain ⟨h1, -, h3⟩ := h
    obtain ⟨v, hv, hs⟩ := h3 i k hk
    have h1' : c = sf_o ci := h1
    subst h1'
    exact ⟨fs, v, rfl, hv, hs⟩
theorem sf_put {t : Nat → Nat} {hp : ab_H} (H : sf_h t hp) {a ci i : Nat} {k : sf_K} {fs : List Value} {v : Value} (ha : a < hp.1) (ht : t a = ci) (he : hp.2 a = .inr (sf_o ci, fs)) (hk : (sf_C ci)[i]? = some k) (hv : sf_v t hp.1 k v) (hI : sf_IV t (ab_up hp a (.inr (sf_o ci, fs.set i v)))) : sf_h t (ab_up hp a (.inr (sf_o ci, fs.set i v))) := by
  refine ⟨fun q hq => ?_, H.2.1, H.2.2.1, hI⟩
  have h := H.1 q hq
  show sf_c t hp.1 (t q) (if q = a then _ else hp.2 q)
  by_cases e : q = a
  · subst e
    rw [if_pos rfl]
    rw [he, ht] at h
    rw [ht]
    obtain ⟨h1, h2, h3⟩ := h
    refine ⟨h1, h2, fun j k' hj => ?_⟩
    obtain ⟨w, hw, hs⟩ := h3 j k' hj
    show ∃ w, (fs.set i v)[j]? = some w ∧ _
    by_cases hij : i = j
    · subst hij
      rw [hk] at hj
      cases hj
      exact ⟨v, by rw [List.getElem?_set_self (List.getElem?_eq_some_iff.mp hw).1], hv⟩
    · exact ⟨w, by rw [List.getElem?_set_ne hij]; exact hw, hs⟩
  · rw [if_neg e]
    exact h
/-- an array of ints, bytes or booleans -/
theorem sf_arr {t : Nat → Nat} {hp : ab_H} (H : sf_h t hp) {a g : Nat} (ha : a < hp.1) (ht : t a = g) (hg : 100 ≤ g) (h4 : (sf_A g).1 < 4) (h2 : (sf_A g).1 ≠ 2) : ∃ f, hp.2 a = .inl ((sf_A g).1, (sf_A g).2.1, .inl f) ∧ ∀ j, j < (sf_A g).2.1 → sf_v t hp.1 (sf_e (sf_A g).2.2 j) (.int (f j)) := by
  have h := H.1 a ha
  rw [ht] at h
  cases e : hp.2 a with
  | inr o =>
    rw [e] at h
    exact absurd h.2.1 (by omega)
  | inl x =>
    rw [e] at h
    obtain ⟨kd, len, w⟩ := x
    obtain ⟨-, q2, q3, q4⟩ := h
    have q2' : kd = (sf_A g).1 := q2
    have q3' : len = (sf_A g).2.1 := q3
    subst q2' q3'
    obtain f | f | f | f | f := w
    · exact ⟨f, rfl, q4.2.2⟩
    · exact absurd q4 h2
    · exact q4.elim
    · exact q4.elim
    · exact absurd (show 4 ≤ (sf_A g).1 from q4.1) (Nat.not_le.mpr h4)
theorem sf_arr_put {t : Nat → Nat} {hp : ab_H} (H : sf_h t hp) {a g : Nat} {f : Nat → Int32} (ha : a < hp.1) (ht : t a = g) (hg : 100 ≤ g) (h4 : (sf_A g).1 < 4) (h2 : (sf_A g).1 ≠ 2) (hf : ∀ j, j < (sf_A g).2.1 → sf_v t hp.1 (sf_e (sf_A g).2.2 j) (.int (f j))) (hI : sf_IV t (ab_up hp a (.inl ((sf_A g).1, (sf_A g).2.1, .inl f)))) : sf_h t (ab_up hp a (.inl ((sf_A g).1, (sf_A g).2.1, .inl f))) := by
  refine ⟨fun q hq => ?_, H.2.1, H.2.2.1, hI⟩
  have h := H.1 q hq
  show sf_c t hp.1 (t q) (if q = a then _ else hp.2 q)
  by_cases e : q = a
  · subst e
    rw [if_pos rfl, ht]
    exact ⟨hg, rfl, rfl, h2, h4, hf⟩
  · rw [if_neg e]
    exact h
/-- an array of longs -/
theorem sf_larr {t : Nat → Nat} {hp : ab_H} (H : sf_h t hp) {a g : Nat} (ha : a < hp.1) (ht : t a = g) (hg : 100 ≤ g) (h2 : (sf_A g).1 = 2) : ∃ f, hp.2 a = .inl (2, (sf_A g).2.1, .inr (.inl f)) := by
  have h := H.1 a ha
  rw [ht] at h
  cases e : hp.2 a with
  | inr o =>
    rw [e] at h
    exact absurd h.2.1 (by omega)
  | inl x =>
    rw [e] at h
    obtain ⟨kd, len, w⟩ := x
    obtain ⟨-, q2, q3, q4⟩ := h
    have q2' : kd = (sf_A g).1 := q2
    have q3' : len = (sf_A g).2.1 := q3
    subst q2' q3'
    obtain f | f | f | f | f := w
    · exact absurd h2 q4.1
    · exact ⟨f, by rw [h2]⟩
    · exact q4.elim
    · exact q4.elim
    · exact absurd (show 4 ≤ (sf_A g).1 from q4.1) (fun e => absurd (h2 ▸ e : 4 ≤ 2) (by decide))
theorem sf_larr_put {t : Nat → Nat} {hp : ab_H} (H : sf_h t hp) {a g : Nat} {f : Nat → Int64} (ha : a < hp.1) (ht : t a = g) (hg : 100 ≤ g) (h2 : (sf_A g).1 = 2) (hI : sf_IV t (ab_up hp a (.inl (2, (sf_A g).2.1, .inr (.inl f))))) : sf_h t (ab_up hp a (.inl (2, (sf_A g).2.1, .inr (.inl f)))) := by
  refine ⟨fun q hq => ?_, H.2.1, H.2.2.1, hI⟩
  have h := H.1 q hq
  show sf_c t hp.1 (t q) (if q = a then _ else hp.2 q)
  by_cases e : q = a
  · subst e
    rw [if_pos rfl, ht]
    exact ⟨hg, h2.symm, rfl, rfl⟩
  · rw [if_neg e]
    exact h
/-- an array of references -/
theorem sf_rarr {t : Nat → Nat} {hp : ab_H} (H : sf_h t hp) {a g : Nat} (ha : a < hp.1) (ht : t a = g) (hg : 100 ≤ g) (h4 : 4 ≤ (sf_A g).1) : ∃ f, hp.2 a = .inl ((sf_A g).1, (sf_A g).2.1, .inr (.inr (.inr (.inr f)))) ∧ (sf_A g).1 < 6 ∧ ∀ j, j < (sf_A g).2.1 → sf_v t hp.1 (sf_e (sf_A g).2.2 j) (ab_rf (f j)) := by
  have h := H.1 a ha
  rw [ht] at h
  cases e : hp.2 a with
  | inr o =>
    rw [e] at h
    exact absurd h.2.1 (by omega)
  | inl x =>
    rw [e] at h
    obtain ⟨kd, len, w⟩ := x
    obtain ⟨-, q2, q3, q4⟩ := h
    have q2' : kd = (sf_A g).1 := q2
    have q3' : len = (sf_A g).2.1 := q3
    subst q2' q3'
    obtain f | f | f | f | f := w
    · exact absurd (show (sf_A g).1 < 4 from q4.2.1) (Nat.not_lt.mpr h4)
    · exact absurd (show (sf_A g).1 = 2 from q4) (fun e => absurd (e ▸ h4 : 4 ≤ 2) (by decide))
    · exact q4.elim
    · exact q4.elim
    · exact ⟨f, rfl, q4.2.1, q4.2.2⟩
theorem sf_rarr_put {t : Nat → Nat} {hp : ab_H} (H : sf_h t hp) {a g : Nat} {f : Nat → Option Nat} (ha : a < hp.1) (ht : t a = g) (hg : 100 ≤ g) (h4 : 4 ≤ (sf_A g).1) (h6 : (sf_A g).1 < 6) (hf : ∀ j, j < (sf_A g).2.1 → sf_v t hp.1 (sf_e (sf_A g).2.2 j) (ab_rf (f j))) (hI : sf_IV t (ab_up hp a (.inl ((sf_A g).1, (sf_A g).2.1, .inr (.inr (.inr (.inr f))))))) : sf_h t (ab_up hp a (.inl ((sf_A g).1, (sf_A g).2.1, .inr (.inr (.inr (.inr f)))))) := by
  refine ⟨fun q hq => ?_, H.2.1, H.2.2.1, hI⟩
  have h := H.1 q hq
  show sf_c t hp.1 (t q) (if q = a then _ else hp.2 q)
  by_cases e : q = a
  · subst e
    rw [if_pos rfl, ht]
    exact ⟨hg, rfl, rfl, h4, h6, hf⟩
  · rw [if_neg e]
    exact h
theorem sf_I_up {t : Nat → Nat} {hp : ab_H} (H : sf_h t hp) {a i0 i1 : Nat} {c : ab_E} (hs : sf_sp (t a) i1 = false) (hr : ∀ i, ¬ (i0 ≤ i ∧ i ≤ i1) → sf_rd (ab_up hp a c) a i = sf_rd hp a i) (hrr : t a = 5 → sf_rr (ab_up hp a c) a 0 = sf_rr hp a 0 ∧ sf_rr (ab_up hp a c) a 1 = sf_rr hp a 1) : sf_IV t (ab_up hp a c) := by
  unfold sf_sp at hs
  simp only [Bool.or_eq_false_iff, Bool.and_eq_false_iff, decide_eq_false_iff_not] at hs
  obtain ⟨⟨⟨⟨⟨s1, s2⟩, s3⟩, s4⟩, s5⟩, s6⟩ := hs
  have p1 := (H.2.2.1 103 37 rfl).2
  have p2 := (H.2.2.1 104 38 rfl).2
  have p3 := (H.2.2.1 132 71 rfl).2
  have p4 := (H.2.2.1 145 84 rfl).2
  refine sf_I_same H.2.2.2 (Nat.le_refl _) (fun _ _ => rfl) (fun q h1 h2 => absurd h2 (Nat.not_lt.mpr h1)) (fun q hq h5 => ?_) (fun q hq h6 i => ?_) (fun i => ?_) (fun i => ?_) (fun i hi => ?_) (fun i => ?_)
  · by_cases e : q = a
    · subst e
      exact hrr h5
    · exact ⟨sf_rr_up_ne e, sf_rr_up_ne e⟩
  · exact sf_rd_up_ne fun e => by
      subst e
      rcases h6 with h | h
      · exact s3 h
      · exact s4 h
  · exact sf_rd_up_ne fun e => s1 (by rw [← e]; exact p1)
  · exact sf_rd_up_ne fun e => s2 (by rw [← e]; exact p2)
  · by_cases e : 71 = a
    · subst e
      rcases s6 with h | h
      · exact absurd p3 h
      · exact hr i (by omega)
    · exact sf_rd_up_ne e
  · exact sf_rd_up_ne fun e => s5 (by rw [← e]; exact p4)
