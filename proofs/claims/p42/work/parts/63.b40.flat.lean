/-! ===== FLAT: what lies in a heap, as functions of places; what a run that comes to an end has done (no premise but kinds of fields) ===== -/
def gi (hp : ab_H) (a k : Nat) : Int32 := match hp.2 a with
  | .inr o => match o.2[k]? with
    | some (.int x) => x
    | _ => 0
  | .inl x => match x.2.2 with
    | .inl f => f k
    | _ => 0
def gl (hp : ab_H) (a k : Nat) : Int64 := match hp.2 a with
  | .inr o => match o.2[k]? with
    | some (.long x) => x
    | _ => 0
  | .inl x => match x.2.2 with
    | .inr (.inl f) => f k
    | _ => 0
def gr (hp : ab_H) (a k : Nat) : Value := match hp.2 a with
  | .inr o => match o.2[k]? with
    | some (.ref b) => .ref b
    | _ => .null
  | .inl x => match x.2.2 with
    | .inr (.inr (.inr (.inr f))) => ab_rf (f k)
    | _ => .null
def gn (hp : ab_H) (a : Nat) : Nat := match hp.2 a with
  | .inl x => x.2.1
  | _ => 0
/-- ints, references, longs, how many places, how long an array is -/
abbrev FW : Type := (Nat → Nat → Int32) × (Nat → Nat → Value) × (Nat → Nat → Int64) × Nat × (Nat → Nat)
def fl (hp : ab_H) : FW := (gi hp, gr hp, gl hp, hp.1, gn hp)
def fp (F : FW) (a k : Nat) (x : Int32) : FW := (fun p j => if p = a ∧ j = k then x else F.1 p j, F.2)
def fpr (F : FW) (a k : Nat) (v : Value) : FW := (F.1, fun p j => if p = a ∧ j = k then v else F.2.1 p j, F.2.2)
def fpl (F : FW) (a k : Nat) (x : Int64) : FW := (F.1, F.2.1, fun p j => if p = a ∧ j = k then x else F.2.2.1 p j, F.2.2.2)
/-- n elements of a from sp on come into b from dp on -/
def fcp (F : FW) (a b sp dp n : Nat) : FW := (fun p j => if p = b ∧ dp ≤ j ∧ j < dp + n then F.1 a (sp + (j - dp)) else F.1 p j, F.2.1, fun p j => if p = b ∧ dp ≤ j ∧ j < dp + n then F.2.2.1 a (sp + (j - dp)) else F.2.2.1 p j, F.2.2.2)
def tyv (k : Nat) (v : Value) : Bool := match v with
  | .int _ => k == 0
  | .ref _ => k == 1
  | .null => k == 1
  | .long _ => k == 2
  | _ => false
def fk (c k : Nat) : Nat := match (sf_C c)[k]? with
  | some x => x.1
  | none => 9
def wt (hp : ab_H) : Prop := ∀ (a c : Nat) (fs : List Value) (k : Nat) (v : Value), a < hp.1 → hp.2 a = .inr (c, fs) → fs[k]? = some v → fk c k = 9 ∨ tyv (fk c k) v = true
theorem fk_o (g k : Nat) : fk (sf_o g) k = fk g k := by
  by_cases h : 13 ≤ g ∧ g < 16
  · obtain ⟨h1, h2⟩ := h
    have h3 : g = 13 ∨ g = 14 ∨ g = 15 := by omega
    by_cases hk : k < 10
    · have : ∀ k : Nat, k < 10 → fk (sf_o 13) k = fk 13 k ∧ fk (sf_o 14) k = fk 14 k ∧ fk (sf_o 15) k = fk 15 k := by decide
      rcases h3 with rfl | rfl | rfl
      · exact (this k hk).1
      · exact (this k hk).2.1
      · exact (this k hk).2.2
    · have e : ∀ g, (sf_C g).length ≤ 10 → fk g k = 9 := fun g hg => by
        unfold fk
        rw [List.getElem?_eq_none_iff.mpr (by omega)]
      rcases h3 with rfl | rfl | rfl
      · rw [e _ (by decide), e _ (by decide)]
      · rw [e _ (by decide), e _ (by decide)]
      · rw [e _ (by decide), e _ (by decide)]
  · have e : sf_o g = g := by
      unfold sf_o
      cases h1 : decide (13 ≤ g) with
      | false => rfl
      | true =>
        cases h2 : decide (g < 16) with
        | false => rfl
        | true => exact absurd ⟨of_decide_eq_true h1, of_decide_eq_true h2⟩ h
    rw [e]
theorem wt_of {t : Nat → Nat} {hp : ab_H} (H : sf_h t hp) : wt hp := by
  intro a c fs k v ha hc hv
  have h := H.1 a ha
  rw [hc] at h
  obtain ⟨h1, -, h3⟩ := h
  have h1' : c = sf_o (t a) := h1
  subst h1'
  rw [fk_o]
  unfold fk
  cases e : (sf_C (t a))[k]? with
  | none => exact Or.inl rfl
  | some q =>
    obtain ⟨w, hw, hs⟩ := h3 k q e
    have hw' : fs[k]? = some w := hw
    rw [hv] at hw'
    obtain rfl := Option.some.inj hw'
    refine Or.inr ?_
    show tyv q.1 v = true
    cases v with
    | int x => rw [show q.1 = 0 from hs.1]; rfl
    | ref x => rw [show q.1 = 1 from hs.1]; rfl
    | null => rw [show q.1 = 1 from hs.1]; rfl
    | long x => rw [show q.1 = 2 from hs]; rfl
    | _ => exact hs.elim
theorem wt_up {hp : ab_H} {a c k : Nat} {fs : List Value} {v : Value} (h : wt hp) (ha : a < hp.1) (e : hp.2 a = .inr (c, fs)) (hv : fk c k = 9 ∨ tyv (fk c k) v = true) : wt (ab_up hp a (.inr (c, fs.set k v))) := by
  intro a' c' fs' k' v' ha' e' hv'
  by_cases h1 : a' = a
  · subst h1
    rw [ab_up_eq] at e'
    obtain ⟨rfl, rfl⟩ := Prod.mk.inj (Sum.inr.inj e')
    by_cases h2 : k = k'
    · subst h2
      by_cases h3 : k < fs.length
      · rw [List.getElem?_set_self h3] at hv'
        obtain rfl := Option.some.inj hv'
        exact hv
      · rw [List.getElem?_eq_none_iff.mpr (by rw [List.length_set]; omega)] at hv'
        cases hv'
    · rw [List.getElem?_set_ne h2] at hv'
      exact h _ _ _ _ _ ha e hv'
  · rw [ab_up_ne h1] at e'
    exact h _ _ _ _ _ ha' e' hv'
theorem wt_upA {hp : ab_H} {a : Nat} {x : Nat × vp_A} (h : wt hp) : wt (ab_up hp a (.inl x)) := by
  intro a' c' fs' k' v' ha' e' hv'
  by_cases h1 : a' = a
  · subst h1
    rw [ab_up_eq] at e'
    cases e'
  · rw [ab_up_ne h1] at e'
    exact h _ _ _ _ _ ha' e' hv'
theorem wt_push {hp : ab_H} {c : Nat} {fs : List Value} (h : wt hp) (hf : ∀ k v, fs[k]? = some v → fk c k = 9 ∨ tyv (fk c k) v = true) : wt (ab_push hp (.inr (c, fs))) := by
  intro a' c' fs' k' v' ha' e' hv'
  have ha'' : a' < hp.1 + 1 := ha'
  have e'' : (if a' = hp.1 then Sum.inr (c, fs) else hp.2 a') = Sum.inr (c', fs') := e'
  by_cases h1 : a' = hp.1
  · rw [if_pos h1] at e''
    obtain ⟨rfl, rfl⟩ := Prod.mk.inj (Sum.inr.inj e'')
    exact hf _ _ hv'
  · rw [if_neg h1] at e''
    exact h _ _ _ _ _ (by omega) e'' hv'
theorem wt_pushA {hp : ab_H} {x : Nat × vp_A} (h : wt hp) : wt (ab_push hp (.inl x)) := by
  intro a' c' fs' k' v' ha' e' hv'
  have ha'' : a' < hp.1 + 1 := ha'
  have e'' : (if a' = hp.1 then Sum.inl x else hp.2 a') = Sum.inr (c', fs') := e'
  by_cases h1 : a' = hp.1
  · rw [if_pos h1] at e''
    cases e''
  · rw [if_neg h1] at e''
    exact h _ _ _ _ _ (by omega) e'' hv'
/-! ===== what one step does to the functions ===== -/
theorem fl_put {hp : ab_H} {a c k : Nat} {fs : List Value} {x y : Int32} (e : hp.2 a = .inr (c, fs)) (hy : fs[k]? = some (.int y)) : fl (ab_up hp a (.inr (c, fs.set k (.int x)))) = fp (fl hp) a k x := by
  have hk : k < fs.length := (List.getElem?_eq_some_iff.mp hy).1
  refine Prod.ext (funext fun p => funext fun j => ?_) (Prod.ext (funext fun p => funext fun j => ?_) (Prod.ext (funext fun p => funext fun j => ?_) (Prod.ext rfl (funext fun p => ?_))))
  · show gi _ p j = if p = a ∧ j = k then x else gi hp p j
    by_cases h1 : p = a
    · subst h1
      by_cases h2 : j = k
      · subst h2
        rw [if_pos ⟨rfl, rfl⟩]
        unfold gi
        rw [ab_up_eq]
        dsimp only
        rw [List.getElem?_set_self hk]
      · rw [if_neg (fun q => h2 q.2)]
        unfold gi
        rw [ab_up_eq, e]
        dsimp only
        rw [List.getElem?_set_ne (Ne.symm h2)]
    · rw [if_neg (fun q => h1 q.1)]
      unfold gi
      rw [ab_up_ne h1]
  · show gr _ p j = gr hp p j
    by_cases h1 : p = a
    · subst h1
      unfold gr
      rw [ab_up_eq, e]
      dsimp only
      by_cases h2 : j = k
      · subst h2
        rw [List.getElem?_set_self hk, hy]
      · rw [List.getElem?_set_ne (Ne.symm h2)]
    · unfold gr
      rw [ab_up_ne h1]
  · show gl _ p j = gl hp p j
    by_cases h1 : p = a
    · subst h1
      unfold gl
      rw [ab_up_eq, e]
      dsimp only
      by_cases h2 : j = k
      · subst h2
        rw [List.getElem?_set_self hk, hy]
      · rw [List.getElem?_set_ne (Ne.symm h2)]
    · unfold gl
      rw [ab_up_ne h1]
  · show gn _ p = gn hp p
    unfold gn
    by_cases h1 : p = a
    · subst h1
      rw [ab_up_eq, e]
    · rw [ab_up_ne h1]
theorem fl_putr {hp : ab_H} {a c k : Nat} {fs : List Value} {v w : Value} (e : hp.2 a = .inr (c, fs)) (hy : fs[k]? = some w) (hw : w = .null ∨ ∃ b, w = .ref b) (hv : v = .null ∨ ∃ b, v = .ref b) : fl (ab_up hp a (.inr (c, fs.set k v))) = fpr (fl hp) a k v := by
  have hk : k < fs.length := (List.getElem?_eq_some_iff.mp hy).1
  refine Prod.ext (funext fun p => funext fun j => ?_) (Prod.ext (funext fun p => funext fun j => ?_) (Prod.ext (funext fun p => funext fun j => ?_) (Prod.ext rfl (funext fun p => ?_))))
  · show gi _ p j = gi hp p j
    by_cases h1 : p = a
    · subst h1
      unfold gi
      rw [ab_up_eq, e]
      dsimp only
      by_cases h2 : j = k
      · subst h2
        rw [List.getElem?_set_self hk, hy]
        rcases hw with rfl | ⟨b, rfl⟩ <;> rcases hv with rfl | ⟨d, rfl⟩ <;> rfl
      · rw [List.getElem?_set_ne (Ne.symm h2)]
    · unfold gi
      rw [ab_up_ne h1]
  · show gr _ p j = if p = a ∧ j = k then v else gr hp p j
    by_cases h1 : p = a
    · subst h1
      by_cases h2 : j = k
      · subst h2
        rw [if_pos ⟨rfl, rfl⟩]
        unfold gr
        rw [ab_up_eq]
        dsimp only
        rw [List.getElem?_set_self hk]
        rcases hv with rfl | ⟨d, rfl⟩ <;> rfl
      · rw [if_neg (fun q => h2 q.2)]
        unfold gr
        rw [ab_up_eq, e]
        dsimp only
        rw [List.getElem?_set_ne (Ne.symm h2)]
    · rw [if_neg (fun q => h1 q.1)]
      unfold gr
      rw [ab_up_ne h1]
  · show gl _ p j = gl hp p j
    by_cases h1 : p = a
    · subst h1
      unfold gl
      rw [ab_up_eq, e]
      dsimp only
      by_cases h2 : j = k
      · subst h2
        rw [List.getElem?_set_self hk, hy]
        rcases hw with rfl | ⟨b, rfl⟩ <;> rcases hv with rfl | ⟨d, rfl⟩ <;> rfl
      · rw [List.getElem?_set_ne (Ne.symm h2)]
    · unfold gl
      rw [ab_up_ne h1]
  · show gn _ p = gn hp p
    unfold gn
    by_cases h1 : p = a
    · subst h1
      rw [ab_up_eq, e]
    · rw [ab_up_ne h1]
/-- an array of ints anew -/
theorem fl_arr {hp : ab_H} {a t n : Nat} {f g : Nat → Int32} (e : hp.2 a = .inl (t, n, .inl f)) : fl (ab_up hp a (.inl (t, n, .inl g))) = (fun p j => if p = a then g j else gi hp p j, (fl hp).2) := by
  refine Prod.ext (funext fun p => funext fun j => ?_) (Prod.ext (funext fun p => funext fun j => ?_) (Prod.ext (funext fun p => funext fun j => ?_) (Prod.ext rfl (funext fun p => ?_))))
  · show gi _ p j = if p = a then g j else gi hp p j
    by_cases h1 : p = a
    · subst h1
      rw [if_pos rfl]
      unfold gi
      rw [ab_up_eq]
    · rw [if_neg h1]
      unfold gi
      rw [ab_up_ne h1]
  · show gr _ p j = gr hp p j
    by_cases h1 : p = a
    · subst h1
      unfold gr
      rw [ab_up_eq, e]
    · unfold gr
      rw [ab_up_ne h1]
  · show gl _ p j = gl hp p j
    by_cases h1 : p = a
    · subst h1
      unfold gl
      rw [ab_up_eq, e]
    · unfold gl
      rw [ab_up_ne h1]
  · show gn _ p = gn hp p
    unfold gn
    by_cases h1 : p = a
    · subst h1
      rw [ab_up_eq, e]
    · rw [ab_up_ne h1]
theorem fl_arrL {hp : ab_H} {a t n : Nat} {f g : Nat → Int64} (e : hp.2 a = .inl (t, n, .inr (.inl f))) : fl (ab_up hp a (.inl (t, n, .inr (.inl g)))) = (gi hp, gr hp, fun p j => if p = a then g j else gl hp p j, (fl hp).2.2.2) := by
  refine Prod.ext (funext fun p => funext fun j => ?_) (Prod.ext (funext fun p => funext fun j => ?_) (Prod.ext (funext fun p => funext fun j => ?_) (Prod.ext rfl (funext fun p => ?_))))
  · show gi _ p j = gi hp p j
    by_cases h1 : p = a
    · subst h1
      unfold gi
      rw [ab_up_eq, e]
    · unfold gi
      rw [ab_up_ne h1]
  · show gr _ p j = gr hp p j
    by_cases h1 : p = a
    · subst h1
      unfold gr
      rw [ab_up_eq, e]
    · unfold gr
      rw [ab_up_ne h1]
  · show gl _ p j = if p = a then g j else gl hp p j
    by_cases h1 : p = a
    · subst h1
      rw [if_pos rfl]
      unfold gl
      rw [ab_up_eq]
    · rw [if_neg h1]
      unfold gl
      rw [ab_up_ne h1]
  · show gn _ p = gn hp p
    unfold gn
    by_cases h1 : p = a
    · subst h1
      rw [ab_up_eq, e]
    · rw [ab_up_ne h1]
theorem fl_arrR {hp : ab_H} {a t n : Nat} {f g : Nat → Option Nat} (e : hp.2 a = .inl (t, n, .inr (.inr (.inr (.inr f))))) : fl (ab_up hp a (.inl (t, n, .inr (.inr (.inr (.inr g)))))) = (gi hp, fun p j => if p = a then ab_rf (g j) else gr hp p j, (fl hp).2.2) := by
  refine Prod.ext (funext fun p => funext fun j => ?_) (Prod.ext (funext fun p => funext fun j => ?_) (Prod.ext (funext fun p => funext fun j => ?_) (Prod.ext rfl (funext fun p => ?_))))
  · show gi _ p j = gi hp p j
    by_cases h1 : p = a
    · subst h1
      unfold gi
      rw [ab_up_eq, e]
    · unfold gi
      rw [ab_up_ne h1]
  · show gr _ p j = if p = a then ab_rf (g j) else gr hp p j
    by_cases h1 : p = a
    · subst h1
      rw [if_pos rfl]
      unfold gr
      rw [ab_up_eq]
    · rw [if_neg h1]
      unfold gr
      rw [ab_up_ne h1]
  · show gl _ p j = gl hp p j
    by_cases h1 : p = a
    · subst h1
      unfold gl
      rw [ab_up_eq, e]
    · unfold gl
      rw [ab_up_ne h1]
  · show gn _ p = gn hp p
    unfold gn
    by_cases h1 : p = a
    · subst h1
      rw [ab_up_eq, e]
    · rw [ab_up_ne h1]
