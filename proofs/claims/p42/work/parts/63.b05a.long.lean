/-! ===== by hand: longs ===== -/
section BS
variable {T : Nat → Option ab_A} {i j : Nat} {lo : List (Option Value)} {st : List Value} {u : Nat × Nat} {hp : ab_H} {Q : ab_O → Prop} {t : Nat → Nat} {x y : Int32}
theorem bs_L {f : ab_S → Option ab_S} {w0 : Int64} {st' : List Value} (hT : T i = some (ab_nx j f)) (hf : f (lo, st, u, hp) = some (lo, .long w0 :: st', u, hp)) (h : ∀ w : Int64, Ev T j (lo, .long w :: st', u, hp) Q) : Ev T i (lo, st, u, hp) Q := Ev.nx hT hf (h _)
theorem bs_putL {W : List (Nat × Nat × Nat)} {a g k ci : Nat} {w : Int64} {l0 h0 : Int} (hT : T i = some (ab_nx j (ab_putf ci k 1))) (hci : ci = sf_o g) (H : sf_h t hp) (hR : bs_R t hp a g) (hg : g < 100) (hk : (sf_C g)[k]? = some (2, l0, h0)) (hW : sf_cv W g k k = true) (hs : (decide (g ≠ 5) || decide (2 ≤ k)) = true) (hm : (sf_mk W || decide (g ≠ 11) || (decide (k ≠ 4) && decide (k ≠ 11))) = true)
    (h : ∀ hp', sf_h t hp' → sf_fr W t hp t hp' → (∀ b q, sf_rd hp' b q = sf_rd hp b q) → (∀ b q, sf_rr hp' b q = sf_rr hp b q) → Ev T j (lo, st, u, hp') Q) : Ev T i (lo, .long w :: .ref a :: st, u, hp) Q := by
  subst hci
  obtain ⟨fs, v, e1, e2, e3⟩ := sf_get H hR.1 hR.2 hg hk
  have hilt : k < fs.length := (List.getElem?_eq_some_iff.mp e2).1
  simp only [Bool.or_eq_true, Bool.and_eq_true, decide_eq_true_eq] at hs hm
  obtain ⟨cv1, cv2⟩ := sf_cv_ok hW
  have hvl : ∃ w' : Int64, v = .long w' := by
    cases v with
    | long w' => exact ⟨w', rfl⟩
    | int z => exact absurd (show (2 : Nat) = 0 from e3.1) (by decide)
    | ref z => exact absurd (show (2 : Nat) = 1 from e3.1) (by decide)
    | null => exact absurd (show (2 : Nat) = 1 from e3.1) (by decide)
    | _ => exact e3.elim
  obtain ⟨w', rfl⟩ := hvl
  have hr : ∀ b q, sf_rd (ab_up hp a (.inr (sf_o g, fs.set k (.long w)))) b q = sf_rd hp b q := by
    intro b q
    by_cases e : b = a
    · subst e
      rw [sf_rd_up_obj]
      unfold sf_rd
      rw [e1]
      dsimp only
      by_cases e : q = k
      · subst e
        rw [List.getElem?_set_self hilt, e2]
        rfl
      · rw [List.getElem?_set_ne (Ne.symm e)]
    · exact sf_rd_up_ne e
  have hrr : ∀ b q, sf_rr (ab_up hp a (.inr (sf_o g, fs.set k (.long w)))) b q = sf_rr hp b q := by
    intro b q
    by_cases e : b = a
    · subst e
      unfold sf_rr
      rw [ab_up_eq, e1]
      dsimp only
      by_cases e : q = k
      · subst e
        rw [List.getElem?_set_self hilt, e2]
      · rw [List.getElem?_set_ne (Ne.symm e)]
    · exact sf_rr_up_ne e
  have sp : sf_sp (t a) k = false := by
    rw [hR.2]
    unfold sf_sp
    rw [decide_eq_false (show ¬ g = 103 by omega), decide_eq_false (show ¬ g = 104 by omega), decide_eq_false (show ¬ g = 106 by omega), decide_eq_false (show ¬ g = 107 by omega), decide_eq_false (show ¬ g = 145 by omega), decide_eq_false (show ¬ g = 132 by omega)]
    rfl
  refine Ev.putf hT hR.1 e1 hilt rfl (h _ (sf_put H hR.1 hR.2 e1 hk rfl (sf_I_up H (i0 := k) (i1 := k) sp (fun q _ => hr a q) (fun _ => ⟨hrr a 0, hrr a 1⟩))) (sf_fr_up (i0 := k) (i1 := k) (by rw [hR.2]; exact cv1) cv2 (fun q _ => hr a q) ?_) hr hrr)
  rcases hm with (h | h) | h
  · exact Or.inl h
  · exact Or.inr (Or.inl fun e => h (by rw [← hR.2, e]; exact (H.2.2.1 11 69 rfl).2))
  · exact Or.inr (Or.inr ⟨by omega, by omega⟩)
end BS
