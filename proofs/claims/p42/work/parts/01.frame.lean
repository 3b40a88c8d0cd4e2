/-! ===== AN ABSTRACT MACHINE: cells by their places (place k is the address b + k), arrays as functions, methods as lists of steps; what it does, the machine does ===== -/
abbrev ab_E : Type := (Nat × vp_A) ⊕ (Nat × List Value)
abbrev ab_H : Type := Nat × (Nat → ab_E)
abbrev ab_S : Type := List (Option Value) × List Value × (Nat × Nat) × ab_H
abbrev ab_O : Type := Option Value × ab_H
abbrev ab_R : Type := Option ((Nat × ab_S) ⊕ ab_O)
abbrev ab_A : Type := ab_S → ab_R
abbrev ab_B : Type := Nat × (Nat → Nat)
/-- what a value is on the machine: '.ref k' is the cell at place k, '.retAddr i' the i-th thing that was there before -/
def ab_v (b : ab_B) : Value → Value
  | .ref k => .ref (b.1 + k)
  | .retAddr i => .ref (b.2 i)
  | v => v
def ab_a (b : ab_B) (a : vp_A) : vp_A := match a.2 with
  | .inr (.inr (.inr (.inr f))) => (a.1, .inr (.inr (.inr (.inr (fun j => (f j).map (fun k => b.1 + k))))))
  | _ => a
def ab_e (b : ab_B) (cA : Nat → ClassId) (q : ab_E) : va_E := match q with
  | .inl x => .inl (cA x.1, ab_a b x.2)
  | .inr x => .inr (x.1, x.2.map (ab_v b))
def ab_w (b : ab_B) (cA : Nat → ClassId) (hp : ab_H) : va_W := (List.range hp.1).map (fun k => (b.1 + k, ab_e b cA (hp.2 k)))
theorem ab_w_at {b : ab_B} {cA : Nat → ClassId} {hp : ab_H} {k : Nat} (hk : k < hp.1) : (ab_w b cA hp)[k]? = some (b.1 + k, ab_e b cA (hp.2 k)) := by
  simp [ab_w, List.getElem?_map, List.getElem?_range hk]
theorem ab_w_lt {b : ab_B} {cA : Nat → ClassId} {hp : ab_H} {k : Nat} {q : Nat × va_E} (h : (ab_w b cA hp)[k]? = some q) : k < hp.1 ∧ q = (b.1 + k, ab_e b cA (hp.2 k)) := by
  have hk : k < hp.1 := by
    have := (List.getElem?_eq_some_iff.mp h).1
    simpa [ab_w] using this
  refine ⟨hk, ?_⟩
  rw [ab_w_at hk] at h
  exact (Option.some.inj h).symm
theorem ab_w_D {b : ab_B} {cA : Nat → ClassId} {hp : ab_H} : va_D (fun q => b.1 ≤ q) (ab_w b cA hp) := by
  refine ⟨fun i j x y hx hy hxy => ?_, fun k q hq => ?_⟩
  · obtain ⟨-, rfl⟩ := ab_w_lt hx
    obtain ⟨-, rfl⟩ := ab_w_lt hy
    have : b.1 + i = b.1 + j := hxy
    omega
  · obtain ⟨-, rfl⟩ := ab_w_lt hq
    exact Nat.le_add_right _ _
/-- one cell anew -/
def ab_up (hp : ab_H) (k : Nat) (x : ab_E) : ab_H := (hp.1, fun j => if j = k then x else hp.2 j)
def ab_push (hp : ab_H) (x : ab_E) : ab_H := (hp.1 + 1, fun j => if j = hp.1 then x else hp.2 j)
theorem ab_w_up {b : ab_B} {cA : Nat → ClassId} {hp : ab_H} {k : Nat} {x : ab_E} {y : va_E} (hy : ab_e b cA x = y) : (ab_w b cA hp).set k (b.1 + k, y) = ab_w b cA (ab_up hp k x) := by
  subst hy
  apply List.ext_getElem?
  intro i
  by_cases hi : i < hp.1
  · rw [ab_w_at (hp := ab_up hp k x) hi]
    rw [List.getElem?_set]
    by_cases hk : k = i
    · subst hk
      simp [ab_w, hi, ab_up]
    · rw [if_neg hk, ab_w_at hi]
      simp [ab_up, Ne.symm hk]
  · have h1 : (ab_w b cA (ab_up hp k x))[i]? = none := by
      rw [List.getElem?_eq_none_iff]
      simp [ab_w, ab_up]
      omega
    rw [h1, List.getElem?_eq_none_iff]
    simp [ab_w]
    omega
theorem ab_w_push {b : ab_B} {cA : Nat → ClassId} {hp : ab_H} {x : ab_E} {y : va_E} (hy : ab_e b cA x = y) : ab_w b cA hp ++ [(b.1 + hp.1, y)] = ab_w b cA (ab_push hp x) := by
  subst hy
  simp only [ab_w, ab_push, List.range_succ, List.map_append, List.map_cons, List.map_nil]
  have h1 : (List.range hp.1).map (fun k => (b.1 + k, ab_e b cA (hp.2 k))) = (List.range hp.1).map (fun k => (b.1 + k, ab_e b cA (if k = hp.1 then x else hp.2 k))) := by
    apply List.map_congr_left
    intro k hk
    have : k ≠ hp.1 := Nat.ne_of_lt (List.mem_range.mp hk)
    simp [this]
  rw [h1]
  simp
/-- the locals: places and values -/
def ab_lp (b : ab_B) : Nat → List (Option Value) → List (Nat × Value)
  | _, [] => []
  | i, none :: r => ab_lp b (i + 1) r
  | i, some v :: r => (i, ab_v b v) :: ab_lp b (i + 1) r
theorem ab_lp_mem {b : ab_B} : ∀ (lo : List (Option Value)) (i : Nat) (q : Nat × Value), q ∈ ab_lp b i lo ↔ ∃ (k : Nat) (v : Value), lo[k]? = some (some v) ∧ q = (i + k, ab_v b v)
  | [], i, q => by simp [ab_lp]
  | none :: r, i, q => by
    rw [ab_lp, ab_lp_mem r (i + 1) q]
    constructor
    · rintro ⟨k, v, h1, h2⟩
      exact ⟨k + 1, v, by simpa using h1, by rw [h2]; congr 1; omega⟩
    · rintro ⟨k, v, h1, h2⟩
      cases k with
      | zero => simp at h1
      | succ k => exact ⟨k, v, by simpa using h1, by rw [h2]; congr 1; omega⟩
  | some w :: r, i, q => by
    rw [ab_lp, List.mem_cons, ab_lp_mem r (i + 1) q]
    constructor
    · rintro (h | ⟨k, v, h1, h2⟩)
      · exact ⟨0, w, by simp, by simpa using h⟩
      · exact ⟨k + 1, v, by simpa using h1, by rw [h2]; congr 1; omega⟩
    · rintro ⟨k, v, h1, h2⟩
      cases k with
      | zero =>
        left
        simp at h1
        subst h1
        simpa using h2
      | succ k => exact Or.inr ⟨k, v, by simpa using h1, by rw [h2]; congr 1; omega⟩
theorem ab_ld {b : ab_B} {ls : Array Slot} {nL : Nat} {lo : List (Option Value)} (h : lv_has ls nL (ab_lp b 0 lo)) {i : Nat} {v : Value} (hi : lo[i]? = some (some v)) : ls[i]? = some (.val (ab_v b v)) := by
  have := h.2.2 (i, ab_v b v) ((ab_lp_mem lo 0 _).mpr ⟨i, v, hi, by simp⟩)
  exact this
/-- the slot before i is no long's first half -/
def ab_fr (lo : List (Option Value)) (i : Nat) : Bool := match i with
  | 0 => true
  | k + 1 => match lo[k]? with
    | some (some (.long _)) => false
    | some (some (.double _)) => false
    | _ => true
theorem ab_cat2 {v : Value} (h : v.category = 2) : (∃ x, v = .long x) ∨ ∃ x, v = .double x := by
  cases v <;> first | exact Or.inl ⟨_, rfl⟩ | exact Or.inr ⟨_, rfl⟩ | cases h
theorem ab_vcat (b : ab_B) (v : Value) : (ab_v b v).category = v.category := by cases v <;> rfl
theorem ab_st1 {b : ab_B} {ls : Array Slot} {nL : Nat} {lo : List (Option Value)} {i : Nat} {v : Value} (hf : ab_fr lo i = true)
    (h : lv_has ls nL ((i, ab_v b v) :: (ab_lp b 0 lo).filter (fun q => !(q.1 == i) && !(q.1 + 1 == i && q.2.category == 2)))) : lv_has ls nL (ab_lp b 0 (lo.set i (some v))) := by
  refine ⟨h.1, h.2.1, fun q hq => h.2.2 q ?_⟩
  obtain ⟨k, w, h1, rfl⟩ := (ab_lp_mem _ 0 q).mp hq
  rw [List.getElem?_set] at h1
  by_cases hk : i = k
  · subst hk
    rw [if_pos rfl] at h1
    split at h1
    · obtain rfl := Option.some.inj (Option.some.inj h1)
      simp
    · cases h1
  · rw [if_neg hk] at h1
    refine List.mem_cons_of_mem _ (List.mem_filter.mpr ⟨(ab_lp_mem lo 0 _).mpr ⟨k, w, h1, rfl⟩, ?_⟩)
    have e1 : (0 + k == i) = false := by simp; omega
    have e2 : ((0 + k + 1 == i) && ((ab_v b w).category == 2)) = false := by
      rw [ab_vcat]
      by_cases hc : w.category = 2
      · have : ¬ (0 + k + 1 = i) := by
          intro he
          subst he
          rw [show 0 + k + 1 = k + 1 by omega] at hf
          simp only [ab_fr, h1] at hf
          rcases ab_cat2 hc with ⟨x, rfl⟩ | ⟨x, rfl⟩ <;> simp at hf
        have e3 : (0 + k + 1 == i) = false := by simpa using this
        rw [e3]; rfl
      · have e3 : (w.category == 2) = false := by simpa using hc
        rw [e3, Bool.and_false]
    show ((!(0 + k == i)) && !((0 + k + 1 == i) && ((ab_v b w).category == 2))) = true
    rw [e1, e2]; rfl
theorem ab_st2 {b : ab_B} {ls : Array Slot} {nL : Nat} {lo : List (Option Value)} {i : Nat} {v : Value} (hf : ab_fr lo i = true)
    (h : lv_has ls nL ((i, ab_v b v) :: (ab_lp b 0 lo).filter (fun q => !(q.1 == i) && (!(q.1 == i + 1) && !(q.1 + 1 == i && q.2.category == 2))))) : lv_has ls nL (ab_lp b 0 ((lo.set i (some v)).set (i + 1) none)) := by
  refine ⟨h.1, h.2.1, fun q hq => h.2.2 q ?_⟩
  obtain ⟨k, w, h1, rfl⟩ := (ab_lp_mem _ 0 q).mp hq
  rw [List.getElem?_set] at h1
  by_cases hk1 : i + 1 = k
  · subst hk1
    rw [if_pos rfl] at h1
    split at h1 <;> cases h1
  rw [if_neg hk1, List.getElem?_set] at h1
  by_cases hk : i = k
  · subst hk
    rw [if_pos rfl] at h1
    split at h1
    · obtain rfl := Option.some.inj (Option.some.inj h1)
      simp
    · cases h1
  · rw [if_neg hk] at h1
    refine List.mem_cons_of_mem _ (List.mem_filter.mpr ⟨(ab_lp_mem lo 0 _).mpr ⟨k, w, h1, rfl⟩, ?_⟩)
    have e1 : (0 + k == i) = false := by simp; omega
    have e4 : (0 + k == i + 1) = false := by simp; omega
    have e2 : ((0 + k + 1 == i) && ((ab_v b w).category == 2)) = false := by
      rw [ab_vcat]
      by_cases hc : w.category = 2
      · have : ¬ (0 + k + 1 = i) := by
          intro he
          subst he
          rw [show 0 + k + 1 = k + 1 by omega] at hf
          simp only [ab_fr, h1] at hf
          rcases ab_cat2 hc with ⟨x, rfl⟩ | ⟨x, rfl⟩ <;> simp at hf
        have e3 : (0 + k + 1 == i) = false := by simpa using this
        rw [e3]; rfl
      · have e3 : (w.category == 2) = false := by simpa using hc
        rw [e3, Bool.and_false]
    show ((!(0 + k == i)) && (!(0 + k == i + 1) && !((0 + k + 1 == i) && ((ab_v b w).category == 2)))) = true
    rw [e1, e2, e4]; rfl
/-- a method's first locals -/
def ab_ent : List Value → List (Option Value)
  | [] => []
  | v :: r => match v with
    | .long x => some (.long x) :: none :: ab_ent r
    | .double x => some (.double x) :: none :: ab_ent r
    | w => some w :: ab_ent r
def ab_en (nL : Nat) (as : List Value) : List (Option Value) := ab_ent as ++ List.replicate (nL - (ab_ent as).length) none
theorem ab_ent_len (b : ab_B) : ∀ (as : List Value), (lg_sl (as.map (ab_v b))).length = (ab_ent as).length
  | [] => rfl
  | v :: r => by
    have ih := ab_ent_len b r
    have h : ∀ (w : Value) (vs : List Value), lg_sl (w :: vs) = (if w.category = 2 then [.val w, .second] else [.val w]) ++ lg_sl vs := fun w vs => by simp [lg_sl]
    rw [List.map_cons, h, List.length_append, ih]
    cases v <;> simp [ab_ent, ab_v, Value.category] <;> omega
theorem ab_ent_in (b : ab_B) : ∀ (as : List Value) (i k : Nat) (v : Value), (ab_ent as)[k]? = some (some v) → (i + k, ab_v b v) ∈ lv_args i (as.map (ab_v b))
  | [], i, k, v, h => by simp [ab_ent] at h
  | a :: r, i, k, v, h => by
    have ih := ab_ent_in b r
    cases a with
    | long x =>
      cases k with
      | zero => simp [ab_ent] at h; subst h; simp [lv_args, ab_v]
      | succ k => cases k with
        | zero => simp [ab_ent] at h
        | succ k =>
          have h1 : (ab_ent r)[k]? = some (some v) := by simpa [ab_ent] using h
          have h2 := ih (i + 2) k v h1
          rw [show i + (k + 1 + 1) = i + 2 + k by omega]
          simp only [List.map_cons, ab_v, lv_args, Value.category]
          exact List.mem_cons_of_mem _ h2
    | double x =>
      cases k with
      | zero => simp [ab_ent] at h; subst h; simp [lv_args, ab_v]
      | succ k => cases k with
        | zero => simp [ab_ent] at h
        | succ k =>
          have h1 : (ab_ent r)[k]? = some (some v) := by simpa [ab_ent] using h
          have h2 := ih (i + 2) k v h1
          rw [show i + (k + 1 + 1) = i + 2 + k by omega]
          simp only [List.map_cons, ab_v, lv_args, Value.category]
          exact List.mem_cons_of_mem _ h2
    | _ =>
      cases k with
      | zero => simp [ab_ent] at h; subst h; simp [lv_args, ab_v]
      | succ k =>
        have h1 : (ab_ent r)[k]? = some (some v) := by simpa [ab_ent] using h
        have h2 := ih (i + 1) k v h1
        rw [show i + (k + 1) = i + 1 + k by omega]
        simp only [List.map_cons, ab_v, lv_args, Value.category]
        exact List.mem_cons_of_mem _ h2
theorem ab_en_has {b : ab_B} {as : List Value} {nL : Nat} {ls : Array Slot} (h : lv_has ls nL (lv_args 0 (as.map (ab_v b)))) : lv_has ls nL (ab_lp b 0 (ab_en nL as)) := by
  refine ⟨h.1, h.2.1, fun q hq => h.2.2 q ?_⟩
  obtain ⟨k, v, h1, rfl⟩ := (ab_lp_mem _ 0 q).mp hq
  have h2 : (ab_ent as)[k]? = some (some v) := by
    unfold ab_en at h1
    rw [List.getElem?_append] at h1
    split at h1
    · exact h1
    · rw [List.getElem?_replicate] at h1
      split at h1 <;> cases h1
  exact ab_ent_in b as 0 k v h2
/-- steps, one behind the other -/
def ab_run (T : Nat → Option ab_A) : Nat → Nat → ab_S → Option ab_O
  | 0, _, _ => none
  | f + 1, i, s => match T i with
    | none => none
    | some a => match a s with
      | none => none
      | some (.inl q) => ab_run T f q.1 q.2
      | some (.inr o) => some o
/-- the step at a place of the code -/
def ab_T (L : List (Nat × ab_A)) (i : Nat) : Option ab_A := match L with
  | [] => none
  | q :: r => cond (q.1 == i) (some q.2) (ab_T r i)
theorem ab_T_mem : ∀ (L : List (Nat × ab_A)) (i : Nat) (a : ab_A), ab_T L i = some a → (i, a) ∈ L
  | [], _, _, h => by cases h
  | q :: r, i, a, h => by
    rw [ab_T] at h
    cases hq : (q.1 == i) with
    | true =>
      rw [hq] at h
      have h1 : q.1 = i := by simpa using hq
      have h2 : q.2 = a := Option.some.inj h
      rw [← h1, ← h2]
      exact List.mem_cons_self
    | false =>
      rw [hq] at h
      exact List.mem_cons_of_mem _ (ab_T_mem r i a h)
