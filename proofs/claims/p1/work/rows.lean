section
/-! ===== AN ABSTRACT MACHINE: cells by their places (place k is the address b + k), arrays as functions, methods as lists of steps; what it does, the machine does ===== -/
abbrev ab_E : Type := (Nat × vp_A) ⊕ (Nat × List Value)
abbrev ab_H : Type := Nat × (Nat → ab_E)
abbrev ab_S : Type := List (Option Value) × List Value × (Nat × Nat) × ab_H
abbrev ab_O : Type := Option Value × ab_H
abbrev ab_R : Type := Option ((Nat × ab_S) ⊕ ab_O)
abbrev ab_A : Type := ab_S → ab_R
abbrev ab_B : Type := Nat × (Nat → Nat)
/-- what a value is on the machine: '.ref k' is the cell at place k, '.retAddr i' the i-th thing that was there before -/
def ab_v (b : ab_B) : Value → Value
  | .ref k => .ref (b.1 + k)
  | .retAddr i => .ref (b.2 i)
  | v => v
def ab_a (b : ab_B) (a : vp_A) : vp_A := match a.2 with
  | .inr (.inr (.inr (.inr f))) => (a.1, .inr (.inr (.inr (.inr (fun j => (f j).map (fun k => b.1 + k))))))
  | _ => a
def ab_e (b : ab_B) (cA : Nat → ClassId) (q : ab_E) : va_E := match q with
  | .inl x => .inl (cA x.1, ab_a b x.2)
  | .inr x => .inr (x.1, x.2.map (ab_v b))
def ab_w (b : ab_B) (cA : Nat → ClassId) (hp : ab_H) : va_W := (List.range hp.1).map (fun k => (b.1 + k, ab_e b cA (hp.2 k)))
theorem ab_w_at {b : ab_B} {cA : Nat → ClassId} {hp : ab_H} {k : Nat} (hk : k < hp.1) : (ab_w b cA hp)[k]? = some (b.1 + k, ab_e b cA (hp.2 k)) := by
  simp [ab_w, List.getElem?_map, List.getElem?_range hk]
theorem ab_w_lt {b : ab_B} {cA : Nat → ClassId} {hp : ab_H} {k : Nat} {q : Nat × va_E} (h : (ab_w b cA hp)[k]? = some q) : k < hp.1 ∧ q = (b.1 + k, ab_e b cA (hp.2 k)) := by
  have hk : k < hp.1 := by
    have := (List.getElem?_eq_some_iff.mp h).1
    simpa [ab_w] using this
  refine ⟨hk, ?_⟩
  rw [ab_w_at hk] at h
  exact (Option.some.inj h).symm
theorem ab_w_D {b : ab_B} {cA : Nat → ClassId} {hp : ab_H} : va_D (fun q => b.1 ≤ q) (ab_w b cA hp) := by
  refine ⟨fun i j x y hx hy hxy => ?_, fun k q hq => ?_⟩
  · obtain ⟨-, rfl⟩ := ab_w_lt hx
    obtain ⟨-, rfl⟩ := ab_w_lt hy
    have : b.1 + i = b.1 + j := hxy
    omega
  · obtain ⟨-, rfl⟩ := ab_w_lt hq
    exact Nat.le_add_right _ _
/-- one cell anew -/
def ab_up (hp : ab_H) (k : Nat) (x : ab_E) : ab_H := (hp.1, fun j => if j = k then x else hp.2 j)
def ab_push (hp : ab_H) (x : ab_E) : ab_H := (hp.1 + 1, fun j => if j = hp.1 then x else hp.2 j)
theorem ab_w_up {b : ab_B} {cA : Nat → ClassId} {hp : ab_H} {k : Nat} {x : ab_E} {y : va_E} (hy : ab_e b cA x = y) : (ab_w b cA hp).set k (b.1 + k, y) = ab_w b cA (ab_up hp k x) := by
  subst hy
  apply List.ext_getElem?
  intro i
  by_cases hi : i < hp.1
  · rw [ab_w_at (hp := ab_up hp k x) hi]
    rw [List.getElem?_set]
    by_cases hk : k = i
    · subst hk
      simp [ab_w, hi, ab_up]
    · rw [if_neg hk, ab_w_at hi]
      simp [ab_up, Ne.symm hk]
  · have h1 : (ab_w b cA (ab_up hp k x))[i]? = none := by
      rw [List.getElem?_eq_none_iff]
      simp [ab_w, ab_up]
      omega
    rw [h1, List.getElem?_eq_none_iff]
    simp [ab_w]
    omega
theorem ab_w_push {b : ab_B} {cA : Nat → ClassId} {hp : ab_H} {x : ab_E} {y : va_E} (hy : ab_e b cA x = y) : ab_w b cA hp ++ [(b.1 + hp.1, y)] = ab_w b cA (ab_push hp x) := by
  subst hy
  simp only [ab_w, ab_push, List.range_succ, List.map_append, List.map_cons, List.map_nil]
  have h1 : (List.range hp.1).map (fun k => (b.1 + k, ab_e b cA (hp.2 k))) = (List.range hp.1).map (fun k => (b.1 + k, ab_e b cA (if k = hp.1 then x else hp.2 k))) := by
    apply List.map_congr_left
    intro k hk
    have : k ≠ hp.1 := Nat.ne_of_lt (List.mem_range.mp hk)
    simp [this]
  rw [h1]
  simp
/-- the locals: places and values -/
def ab_lp (b : ab_B) : Nat → List (Option Value) → List (Nat × Value)
  | _, [] => []
  | i, none :: r => ab_lp b (i + 1) r
  | i, some v :: r => (i, ab_v b v) :: ab_lp b (i + 1) r
theorem ab_lp_mem {b : ab_B} : ∀ (lo : List (Option Value)) (i : Nat) (q : Nat × Value), q ∈ ab_lp b i lo ↔ ∃ (k : Nat) (v : Value), lo[k]? = some (some v) ∧ q = (i + k, ab_v b v)
  | [], i, q => by simp [ab_lp]
  | none :: r, i, q => by
    rw [ab_lp, ab_lp_mem r (i + 1) q]
    constructor
    · rintro ⟨k, v, h1, h2⟩
      exact ⟨k + 1, v, by simpa using h1, by rw [h2]; congr 1; omega⟩
    · rintro ⟨k, v, h1, h2⟩
      cases k with
      | zero => simp at h1
      | succ k => exact ⟨k, v, by simpa using h1, by rw [h2]; congr 1; omega⟩
  | some w :: r, i, q => by
    rw [ab_lp, List.mem_cons, ab_lp_mem r (i + 1) q]
    constructor
    · rintro (h | ⟨k, v, h1, h2⟩)
      · exact ⟨0, w, by simp, by simpa using h⟩
      · exact ⟨k + 1, v, by simpa using h1, by rw [h2]; congr 1; omega⟩
    · rintro ⟨k, v, h1, h2⟩
      cases k with
      | zero =>
        left
        simp at h1
        subst h1
        simpa using h2
      | succ k => exact Or.inr ⟨k, v, by simpa using h1, by rw [h2]; congr 1; omega⟩
theorem ab_ld {b : ab_B} {ls : Array Slot} {nL : Nat} {lo : List (Option Value)} (h : lv_has ls nL (ab_lp b 0 lo)) {i : Nat} {v : Value} (hi : lo[i]? = some (some v)) : ls[i]? = some (.val (ab_v b v)) := by
  have := h.2.2 (i, ab_v b v) ((ab_lp_mem lo 0 _).mpr ⟨i, v, hi, by simp⟩)
  exact this
/-- the slot before i is no long's first half -/
def ab_fr (lo : List (Option Value)) (i : Nat) : Bool := match i with
  | 0 => true
  | k + 1 => match lo[k]? with
    | some (some (.long _)) => false
    | some (some (.double _)) => false
    | _ => true
theorem ab_cat2 {v : Value} (h : v.category = 2) : (∃ x, v = .long x) ∨ ∃ x, v = .double x := by
  cases v <;> first | exact Or.inl ⟨_, rfl⟩ | exact Or.inr ⟨_, rfl⟩ | cases h
theorem ab_vcat (b : ab_B) (v : Value) : (ab_v b v).category = v.category := by cases v <;> rfl
theorem ab_st1 {b : ab_B} {ls : Array Slot} {nL : Nat} {lo : List (Option Value)} {i : Nat} {v : Value} (hf : ab_fr lo i = true)
    (h : lv_has ls nL ((i, ab_v b v) :: (ab_lp b 0 lo).filter (fun q => !(q.1 == i) && !(q.1 + 1 == i && q.2.category == 2)))) : lv_has ls nL (ab_lp b 0 (lo.set i (some v))) := by
  refine ⟨h.1, h.2.1, fun q hq => h.2.2 q ?_⟩
  obtain ⟨k, w, h1, rfl⟩ := (ab_lp_mem _ 0 q).mp hq
  rw [List.getElem?_set] at h1
  by_cases hk : i = k
  · subst hk
    rw [if_pos rfl] at h1
    split at h1
    · obtain rfl := Option.some.inj (Option.some.inj h1)
      simp
    · cases h1
  · rw [if_neg hk] at h1
    refine List.mem_cons_of_mem _ (List.mem_filter.mpr ⟨(ab_lp_mem lo 0 _).mpr ⟨k, w, h1, rfl⟩, ?_⟩)
    have e1 : (0 + k == i) = false := by simp; omega
    have e2 : ((0 + k + 1 == i) && ((ab_v b w).category == 2)) = false := by
      rw [ab_vcat]
      by_cases hc : w.category = 2
      · have : ¬ (0 + k + 1 = i) := by
          intro he
          subst he
          rw [show 0 + k + 1 = k + 1 by omega] at hf
          simp only [ab_fr, h1] at hf
          rcases ab_cat2 hc with ⟨x, rfl⟩ | ⟨x, rfl⟩ <;> simp at hf
        have e3 : (0 + k + 1 == i) = false := by simpa using this
        rw [e3]; rfl
      · have e3 : (w.category == 2) = false := by simpa using hc
        rw [e3, Bool.and_false]
    show ((!(0 + k == i)) && !((0 + k + 1 == i) && ((ab_v b w).category == 2))) = true
    rw [e1, e2]; rfl
theorem ab_st2 {b : ab_B} {ls : Array Slot} {nL : Nat} {lo : List (Option Value)} {i : Nat} {v : Value} (hf : ab_fr lo i = true)
    (h : lv_has ls nL ((i, ab_v b v) :: (ab_lp b 0 lo).filter (fun q => !(q.1 == i) && (!(q.1 == i + 1) && !(q.1 + 1 == i && q.2.category == 2))))) : lv_has ls nL (ab_lp b 0 ((lo.set i (some v)).set (i + 1) none)) := by
  refine ⟨h.1, h.2.1, fun q hq => h.2.2 q ?_⟩
  obtain ⟨k, w, h1, rfl⟩ := (ab_lp_mem _ 0 q).mp hq
  rw [List.getElem?_set] at h1
  by_cases hk1 : i + 1 = k
  · subst hk1
    rw [if_pos rfl] at h1
    split at h1 <;> cases h1
  rw [if_neg hk1, List.getElem?_set] at h1
  by_cases hk : i = k
  · subst hk
    rw [if_pos rfl] at h1
    split at h1
    · obtain rfl := Option.some.inj (Option.some.inj h1)
      simp
    · cases h1
  · rw [if_neg hk] at h1
    refine List.mem_cons_of_mem _ (List.mem_filter.mpr ⟨(ab_lp_mem lo 0 _).mpr ⟨k, w, h1, rfl⟩, ?_⟩)
    have e1 : (0 + k == i) = false := by simp; omega
    have e4 : (0 + k == i + 1) = false := by simp; omega
    have e2 : ((0 + k + 1 == i) && ((ab_v b w).category == 2)) = false := by
      rw [ab_vcat]
      by_cases hc : w.category = 2
      · have : ¬ (0 + k + 1 = i) := by
          intro he
          subst he
          rw [show 0 + k + 1 = k + 1 by omega] at hf
          simp only [ab_fr, h1] at hf
          rcases ab_cat2 hc with ⟨x, rfl⟩ | ⟨x, rfl⟩ <;> simp at hf
        have e3 : (0 + k + 1 == i) = false := by simpa using this
        rw [e3]; rfl
      · have e3 : (w.category == 2) = false := by simpa using hc
        rw [e3, Bool.and_false]
    show ((!(0 + k == i)) && (!(0 + k == i + 1) && !((0 + k + 1 == i) && ((ab_v b w).category == 2)))) = true
    rw [e1, e2, e4]; rfl
/-- a method's first locals -/
def ab_ent : List Value → List (Option Value)
  | [] => []
  | v :: r => match v with
    | .long x => some (.long x) :: none :: ab_ent r
    | .double x => some (.double x) :: none :: ab_ent r
    | w => some w :: ab_ent r
def ab_en (nL : Nat) (as : List Value) : List (Option Value) := ab_ent as ++ List.replicate (nL - (ab_ent as).length) none
theorem ab_ent_len (b : ab_B) : ∀ (as : List Value), (lg_sl (as.map (ab_v b))).length = (ab_ent as).length
  | [] => rfl
  | v :: r => by
    have ih := ab_ent_len b r
    have h : ∀ (w : Value) (vs : List Value), lg_sl (w :: vs) = (if w.category = 2 then [.val w, .second] else [.val w]) ++ lg_sl vs := fun w vs => by simp [lg_sl]
    rw [List.map_cons, h, List.length_append, ih]
    cases v <;> simp [ab_ent, ab_v, Value.category] <;> omega
theorem ab_ent_in (b : ab_B) : ∀ (as : List Value) (i k : Nat) (v : Value), (ab_ent as)[k]? = some (some v) → (i + k, ab_v b v) ∈ lv_args i (as.map (ab_v b))
  | [], i, k, v, h => by simp [ab_ent] at h
  | a :: r, i, k, v, h => by
    have ih := ab_ent_in b r
    cases a with
    | long x =>
      cases k with
      | zero => simp [ab_ent] at h; subst h; simp [lv_args, ab_v]
      | succ k => cases k with
        | zero => simp [ab_ent] at h
        | succ k =>
          have h1 : (ab_ent r)[k]? = some (some v) := by simpa [ab_ent] using h
          have h2 := ih (i + 2) k v h1
          rw [show i + (k + 1 + 1) = i + 2 + k by omega]
          simp only [List.map_cons, ab_v, lv_args, Value.category]
          exact List.mem_cons_of_mem _ h2
    | double x =>
      cases k with
      | zero => simp [ab_ent] at h; subst h; simp [lv_args, ab_v]
      | succ k => cases k with
        | zero => simp [ab_ent] at h
        | succ k =>
          have h1 : (ab_ent r)[k]? = some (some v) := by simpa [ab_ent] using h
          have h2 := ih (i + 2) k v h1
          rw [show i + (k + 1 + 1) = i + 2 + k by omega]
          simp only [List.map_cons, ab_v, lv_args, Value.category]
          exact List.mem_cons_of_mem _ h2
    | _ =>
      cases k with
      | zero => simp [ab_ent] at h; subst h; simp [lv_args, ab_v]
      | succ k =>
        have h1 : (ab_ent r)[k]? = some (some v) := by simpa [ab_ent] using h
        have h2 := ih (i + 1) k v h1
        rw [show i + (k + 1) = i + 1 + k by omega]
        simp only [List.map_cons, ab_v, lv_args, Value.category]
        exact List.mem_cons_of_mem _ h2
theorem ab_en_has {b : ab_B} {as : List Value} {nL : Nat} {ls : Array Slot} (h : lv_has ls nL (lv_args 0 (as.map (ab_v b)))) : lv_has ls nL (ab_lp b 0 (ab_en nL as)) := by
  refine ⟨h.1, h.2.1, fun q hq => h.2.2 q ?_⟩
  obtain ⟨k, v, h1, rfl⟩ := (ab_lp_mem _ 0 q).mp hq
  have h2 : (ab_ent as)[k]? = some (some v) := by
    unfold ab_en at h1
    rw [List.getElem?_append] at h1
    split at h1
    · exact h1
    · rw [List.getElem?_replicate] at h1
      split at h1 <;> cases h1
  exact ab_ent_in b as 0 k v h2
/-- steps, one behind the other -/
def ab_run (T : List ab_A) : Nat → Nat → ab_S → Option ab_O
  | 0, _, _ => none
  | f + 1, i, s => match T[i]? with
    | none => none
    | some a => match a s with
      | none => none
      | some (.inl q) => ab_run T f q.1 q.2
      | some (.inr o) => some o
end
section
/-! ===== the steps, and that the machine does them ===== -/
def ab_nx (j : Nat) (f : ab_S → Option ab_S) : ab_A := fun s => match f s with
  | some t => some (.inl (j, t))
  | none => none
def ab_lit (v : Value) : ab_S → Option ab_S := fun s => some (s.1, v :: s.2.1, s.2.2)
def ab_iload (i : Nat) : ab_S → Option ab_S := fun s => match s.1[i]? with
  | some (some (.int x)) => some (s.1, .int x :: s.2.1, s.2.2)
  | _ => none
def ab_lload (i : Nat) : ab_S → Option ab_S := fun s => match s.1[i]? with
  | some (some (.long x)) => some (s.1, .long x :: s.2.1, s.2.2)
  | _ => none
def ab_aload (i : Nat) : ab_S → Option ab_S := fun s => match s.1[i]? with
  | some (some (.ref x)) => some (s.1, .ref x :: s.2.1, s.2.2)
  | some (some (.retAddr x)) => some (s.1, .retAddr x :: s.2.1, s.2.2)
  | some (some .null) => some (s.1, .null :: s.2.1, s.2.2)
  | _ => none
def ab_istore (i : Nat) : ab_S → Option ab_S := fun s => match s.2.1 with
  | .int x :: st => cond (ab_fr s.1 i) (some (s.1.set i (some (.int x)), st, s.2.2)) none
  | _ => none
def ab_lstore (i : Nat) : ab_S → Option ab_S := fun s => match s.2.1 with
  | .long x :: st => cond (ab_fr s.1 i) (some ((s.1.set i (some (.long x))).set (i + 1) none, st, s.2.2)) none
  | _ => none
def ab_astore (i : Nat) : ab_S → Option ab_S := fun s => match s.2.1 with
  | .ref x :: st => cond (ab_fr s.1 i) (some (s.1.set i (some (.ref x)), st, s.2.2)) none
  | .null :: st => cond (ab_fr s.1 i) (some (s.1.set i (some .null), st, s.2.2)) none
  | _ => none
def ab_iinc (i : Nat) (n : Int32) : ab_S → Option ab_S := fun s => match s.1[i]? with
  | some (some (.int x)) => cond (ab_fr s.1 i) (some (s.1.set i (some (.int (x + n))), s.2.1, s.2.2)) none
  | _ => none
def ab_bin (g : Int32 → Int32 → Int32) : ab_S → Option ab_S := fun s => match s.2.1 with
  | .int y :: .int x :: st => some (s.1, .int (g x y) :: st, s.2.2)
  | _ => none
def ab_irem : ab_S → Option ab_S := fun s => match s.2.1 with
  | .int y :: .int x :: st => cond (decide (y = 0)) none (some (s.1, .int (x - x / y * y) :: st, s.2.2))
  | _ => none
def ab_un (g : Int32 → Int32) : ab_S → Option ab_S := fun s => match s.2.1 with
  | .int x :: st => some (s.1, .int (g x) :: st, s.2.2)
  | _ => none
def ab_lbin (g : Int64 → Int64 → Int64) : ab_S → Option ab_S := fun s => match s.2.1 with
  | .long y :: .long x :: st => some (s.1, .long (g x y) :: st, s.2.2)
  | _ => none
def ab_lsh (g : Int64 → Int32 → Int64) : ab_S → Option ab_S := fun s => match s.2.1 with
  | .int y :: .long x :: st => some (s.1, .long (g x y) :: st, s.2.2)
  | _ => none
def ab_lcmp : ab_S → Option ab_S := fun s => match s.2.1 with
  | .long y :: .long x :: st => some (s.1, .int (lg_cmp x y) :: st, s.2.2)
  | _ => none
def ab_i2l : ab_S → Option ab_S := fun s => match s.2.1 with
  | .int x :: st => some (s.1, .long x.toInt64 :: st, s.2.2)
  | _ => none
def ab_l2i : ab_S → Option ab_S := fun s => match s.2.1 with
  | .long x :: st => some (s.1, .int x.toInt32 :: st, s.2.2)
  | _ => none
def ab_c1 : Value → Bool
  | .long _ => false
  | .double _ => false
  | _ => true
def ab_dup : ab_S → Option ab_S := fun s => match s.2.1 with
  | v :: st => cond (ab_c1 v) (some (s.1, v :: v :: st, s.2.2)) none
  | _ => none
def ab_dup2 : ab_S → Option ab_S := fun s => match s.2.1 with
  | v :: w :: st => cond (ab_c1 v && ab_c1 w) (some (s.1, v :: w :: v :: w :: st, s.2.2)) none
  | _ => none
def ab_pop : ab_S → Option ab_S := fun s => match s.2.1 with
  | v :: st => cond (ab_c1 v) (some (s.1, st, s.2.2)) none
  | _ => none
def ab_if (j t : Nat) (g : Int32 → Bool) : ab_A := fun s => match s.2.1 with
  | .int x :: st => some (.inl (cond (g x) t j, s.1, st, s.2.2))
  | _ => none
def ab_icmp (j t : Nat) (g : Int32 → Int32 → Bool) : ab_A := fun s => match s.2.1 with
  | .int y :: .int x :: st => some (.inl (cond (g x y) t j, s.1, st, s.2.2))
  | _ => none
def ab_nonnull (j t : Nat) : ab_A := fun s => match s.2.1 with
  | .ref _ :: st => some (.inl (t, s.1, st, s.2.2))
  | .null :: st => some (.inl (j, s.1, st, s.2.2))
  | _ => none
def ab_goto (t : Nat) : ab_A := fun s => some (.inl (t, s))
def ab_getf (ci k : Nat) : ab_S → Option ab_S := fun s => match s.2.1 with
  | .ref a :: st => cond (decide (a < s.2.2.2.1)) (match s.2.2.2.2 a with
    | .inr o => cond (o.1 == ci) (match o.2[k]? with
      | some v => some (s.1, v :: st, s.2.2)
      | none => none) none
    | _ => none) none
  | _ => none
/-- may a value lie in a field: 0 int, 1 long, 2 a reference, 3 boolean -/
def ab_fit (kd : Nat) (v : Value) : Bool := match v with
  | .int x => cond (kd == 0) true (cond (kd == 3) (decide (x = 0) || decide (x = 1)) false)
  | .long _ => kd == 1
  | .ref _ => kd == 2
  | .null => kd == 2
  | _ => false
def ab_putf (ci k kd : Nat) : ab_S → Option ab_S := fun s => match s.2.1 with
  | v :: .ref a :: st => cond (decide (a < s.2.2.2.1) && ab_fit kd v) (match s.2.2.2.2 a with
    | .inr o => cond (o.1 == ci && decide (k < o.2.length)) (some (s.1, st, s.2.2.1, ab_up s.2.2.2 a (.inr (ci, o.2.set k v)))) none
    | _ => none) none
  | _ => none
def ab_in (i : Int32) (n : Nat) : Bool := !(decide (i < 0)) && decide (i.toNatClampNeg < n)
/-- an element of an array of ints, bytes or booleans (the kind t: 0 byte, 1 int, 2 long, 3 boolean, 4 and on references) -/
def ab_ald (t : Nat) : ab_S → Option ab_S := fun s => match s.2.1 with
  | .int i :: .ref a :: st => cond (decide (a < s.2.2.2.1)) (match s.2.2.2.2 a with
    | .inl (t2, n, .inl f) => cond (t2 == t && ab_in i n) (some (s.1, .int (f i.toNatClampNeg) :: st, s.2.2)) none
    | _ => none) none
  | _ => none
def ab_lald : ab_S → Option ab_S := fun s => match s.2.1 with
  | .int i :: .ref a :: st => cond (decide (a < s.2.2.2.1)) (match s.2.2.2.2 a with
    | .inl (t2, n, .inr (.inl f)) => cond (t2 == 2 && ab_in i n) (some (s.1, .long (f i.toNatClampNeg) :: st, s.2.2)) none
    | _ => none) none
  | _ => none
def ab_rf (r : Option Nat) : Value := match r with
  | some a => .ref a
  | none => .null
def ab_aald (t : Nat) : ab_S → Option ab_S := fun s => match s.2.1 with
  | .int i :: .ref a :: st => cond (decide (a < s.2.2.2.1)) (match s.2.2.2.2 a with
    | .inl (t2, n, .inr (.inr (.inr (.inr f)))) => cond (t2 == t && ab_in i n) (some (s.1, ab_rf (f i.toNatClampNeg) :: st, s.2.2)) none
    | _ => none) none
  | _ => none
def ab_nar (t : Nat) (x : Int32) : Int32 := match t with
  | 0 => vp_nar .byte x
  | 3 => vp_nar .boolean x
  | _ => x
def ab_ast (t : Nat) : ab_S → Option ab_S := fun s => match s.2.1 with
  | .int x :: .int i :: .ref a :: st => cond (decide (a < s.2.2.2.1)) (match s.2.2.2.2 a with
    | .inl (t2, n, .inl f) => cond (t2 == t && ab_in i n) (some (s.1, st, s.2.2.1, ab_up s.2.2.2 a (.inl (t, n, .inl (upd f i.toNatClampNeg (ab_nar t x)))))) none
    | _ => none) none
  | _ => none
def ab_last : ab_S → Option ab_S := fun s => match s.2.1 with
  | .long x :: .int i :: .ref a :: st => cond (decide (a < s.2.2.2.1)) (match s.2.2.2.2 a with
    | .inl (t2, n, .inr (.inl f)) => cond (t2 == 2 && ab_in i n) (some (s.1, st, s.2.2.1, ab_up s.2.2.2 a (.inl (2, n, .inr (.inl (vp_updL f i.toNatClampNeg x)))))) none
    | _ => none) none
  | _ => none
/-- a reference into an array of references whose class is the ci-th -/
def ab_aast (t ci : Nat) : ab_S → Option ab_S := fun s => match s.2.1 with
  | .ref v :: .int i :: .ref a :: st => cond (decide (a < s.2.2.2.1) && decide (v < s.2.2.2.1)) (match s.2.2.2.2 a with
    | .inl (t2, n, .inr (.inr (.inr (.inr f)))) => cond (t2 == t && ab_in i n && (match s.2.2.2.2 v with
      | .inr o => o.1 == ci
      | _ => false)) (some (s.1, st, s.2.2.1, ab_up s.2.2.2 a (.inl (t, n, .inr (.inr (.inr (.inr (va_up f i.toNatClampNeg (some v))))))))) none
    | _ => none) none
  | .null :: .int i :: .ref a :: st => cond (decide (a < s.2.2.2.1)) (match s.2.2.2.2 a with
    | .inl (t2, n, .inr (.inr (.inr (.inr f)))) => cond (t2 == t && ab_in i n) (some (s.1, st, s.2.2.1, ab_up s.2.2.2 a (.inl (t, n, .inr (.inr (.inr (.inr (va_up f i.toNatClampNeg none)))))))) none
    | _ => none) none
  | _ => none
def ab_alen : ab_S → Option ab_S := fun s => match s.2.1 with
  | .ref a :: st => cond (decide (a < s.2.2.2.1)) (match s.2.2.2.2 a with
    | .inl x => cond (decide (x.1 < 6)) (some (s.1, .int (Int32.ofNat x.2.1) :: st, s.2.2)) none
    | _ => none) none
  | _ => none
/-- new array of the kind t (its blank a0 by the length), MC and MS the method's room -/
def ab_newa (t : Nat) (a0 : Nat → vp_A) (MC MS : Nat) : ab_S → Option ab_S := fun s => match s.2.1 with
  | .int n :: st => cond (!(decide (n < 0)) && decide (n.toNatClampNeg ≤ 1000000) && decide (s.2.2.1.1 + 1 ≤ MC) && decide (s.2.2.1.2 + n.toNatClampNeg ≤ MS))
      (some (s.1, .ref s.2.2.2.1 :: st, (s.2.2.1.1 + 1, s.2.2.1.2 + n.toNatClampNeg), ab_push s.2.2.2 (.inl (t, a0 n.toNatClampNeg)))) none
  | _ => none
def ab_new (ci N : Nat) (fs : List Value) (MC MS : Nat) : ab_S → Option ab_S := fun s =>
  cond (decide (s.2.2.1.1 + 1 ≤ MC) && decide (s.2.2.1.2 + N ≤ MS)) (some (s.1, .ref s.2.2.2.1 :: s.2.1, (s.2.2.1.1 + 1, s.2.2.1.2 + N), ab_push s.2.2.2 (.inr (ci, fs)))) none
def ab_cats (st : List Value) : Nat := (st.map fun v => v.category).sum
/-- Object.<init> -/
def ab_obj : ab_S → Option ab_S := fun s => match s.2.1 with
  | .ref _ :: st => cond (decide (ab_cats st ≤ 8)) (some (s.1, st, s.2.2)) none
  | _ => none
/-- a call of X with nA values, the receiver (of class ci) among them where there is one -/
def ab_call (nA : Nat) (X : List Value → ab_H → Option ab_O) (mc ms MC MS : Nat) : ab_S → Option ab_S := fun s =>
  cond (decide (nA ≤ s.2.1.length) && decide (ab_cats (s.2.1.drop nA) ≤ 8) && decide (s.2.2.1.1 + mc ≤ MC) && decide (s.2.2.1.2 + ms ≤ MS))
    (match X (s.2.1.take nA).reverse s.2.2.2 with
    | some o => some (s.1, o.1.toList ++ s.2.1.drop nA, (s.2.2.1.1 + mc, s.2.2.1.2 + ms), o.2)
    | none => none) none
def ab_rcv (ci : Nat) (as : List Value) (hp : ab_H) : Bool := match as with
  | .ref a :: _ => decide (a < hp.1) && (match hp.2 a with
    | .inr o => o.1 == ci
    | _ => false)
  | _ => false
def ab_callV (nA ci : Nat) (X : List Value → ab_H → Option ab_O) (mc ms MC MS : Nat) : ab_S → Option ab_S := fun s =>
  cond (ab_rcv ci (s.2.1.take nA).reverse s.2.2.2) (ab_call nA X mc ms MC MS s) none
def ab_ret (MC MS : Nat) : ab_A := fun s => match s.2.1 with
  | [.int x] => cond (decide (s.2.2.1.1 ≤ MC) && decide (s.2.2.1.2 ≤ MS)) (some (.inr (some (.int x), s.2.2.2))) none
  | _ => none
def ab_zret (MC MS : Nat) : ab_A := fun s => match s.2.1 with
  | [.int x] => cond (decide (s.2.2.1.1 ≤ MC) && decide (s.2.2.1.2 ≤ MS) && (decide (x = 0) || decide (x = 1))) (some (.inr (some (.int x), s.2.2.2))) none
  | _ => none
def ab_vret (MC MS : Nat) : ab_A := fun s => match s.2.1 with
  | [] => cond (decide (s.2.2.1.1 ≤ MC) && decide (s.2.2.1.2 ≤ MS)) (some (.inr (none, s.2.2.2))) none
  | _ => none
def ab_max (x y : Int32) : Int32 := if x < y then y else x
def ab_min (x y : Int32) : Int32 := if y < x then y else x
/-- Math.max, Math.min: two ints -/
def ab_mm (g : Int32 → Int32 → Int32) (MC MS : Nat) : ab_S → Option ab_S := fun s => match s.2.1 with
  | .int y :: .int x :: st => cond (decide (ab_cats st ≤ 8) && decide (s.2.2.1.1 ≤ MC) && decide (s.2.2.1.2 ≤ MS)) (some (s.1, .int (g x y) :: st, s.2.2)) none
  | _ => none
/-- System.arraycopy between two arrays of ints (kind 1) or of longs (kind 2), not one and the same -/
def ab_copy : ab_S → Option ab_S := fun s => match s.2.1 with
  | .int n :: .int dp :: .ref a :: .int sp :: .ref a0 :: st =>
    cond (decide (a < s.2.2.2.1) && decide (a0 < s.2.2.2.1) && decide (ab_cats st ≤ 8) && !(decide (sp < 0)) && !(decide (dp < 0)) && !(decide (n < 0)))
      (match s.2.2.2.2 a0, s.2.2.2.2 a with
      | .inl (1, n0, .inl f), .inl (1, n1, .inl g) => cond (decide (sp.toNatClampNeg + n.toNatClampNeg ≤ n0) && decide (dp.toNatClampNeg + n.toNatClampNeg ≤ n1))
          (some (s.1, st, s.2.2.1, ab_up s.2.2.2 a (.inl (1, n1, .inl (va_cpy f g sp.toNatClampNeg dp.toNatClampNeg n.toNatClampNeg))))) none
      | .inl (2, n0, .inr (.inl f)), .inl (2, n1, .inr (.inl g)) => cond (decide (sp.toNatClampNeg + n.toNatClampNeg ≤ n0) && decide (dp.toNatClampNeg + n.toNatClampNeg ≤ n1))
          (some (s.1, st, s.2.2.1, ab_up s.2.2.2 a (.inl (2, n1, .inr (.inl (va_cpy f g sp.toNatClampNeg dp.toNatClampNeg n.toNatClampNeg)))))) none
      | _, _ => none) none
  | _ => none
/-- a table's jump -/
def ab_tab (lo : Int) (ts : List Nat) (dflt : Nat) : ab_A := fun s => match s.2.1 with
  | .int x :: st => some (.inl (cond (decide (x.toInt < lo)) dflt ((ts[(x.toInt - lo).toNat]?).getD dflt), s.1, st, s.2.2))
  | _ => none
end
section
/-! ===== the machine does what the steps do ===== -/
def ab_W (p : Program) (l : Launch) (e : Env) (R : Room) (s : State) (m : MethodId) (args : Array Value) (below : List Frame) (meth : Method) (c : Code) (Q : State → Prop) (b : ab_B) (D : va_G) (cl : List vw_C) (cA : Nat → ClassId) (nL pc : Nat) (σ : ab_S) : Prop :=
  ∀ (H : Heap) (locs : List Loc) (ls : Array Slot), va_P D cl (ab_w b cA σ.2.2.2) H → H.size = b.1 + σ.2.2.2.1 → va_S (fun q => b.1 ≤ q) s.heap H locs → lv_has ls nL (ab_lp b 0 σ.1) → W p l e R s m args below meth c H locs σ.2.2.1.1 σ.2.2.1.2 Q (F0 m pc ls (σ.2.1.map (ab_v b)))
def ab_ok (p : Program) (l : Launch) (e : Env) (R : Room) (s : State) (m : MethodId) (args : Array Value) (below : List Frame) (meth : Method) (c : Code) (Q : State → Prop) (b : ab_B) (D : va_G) (cl : List vw_C) (cA : Nat → ClassId) (nL : Nat) (o : ab_O) (P : Nat → Nat) (pc : Nat) (a : ab_A) : Prop :=
  ∀ σ : ab_S, (∀ (j : Nat) (σ' : ab_S), a σ = some (.inl (j, σ')) → ab_W p l e R s m args below meth c Q b D cl cA nL (P j) σ' → ab_W p l e R s m args below meth c Q b D cl cA nL pc σ) ∧ (a σ = some (.inr o) → ab_W p l e R s m args below meth c Q b D cl cA nL pc σ)
section AB
variable {p : Program} {l : Launch} {e : Env} {R : Room} {s : State} {m : MethodId} {args : Array Value} {below : List Frame} {meth : Method} {c : Code} {Q : State → Prop}
variable {b : ab_B} {D : va_G} {cl : List vw_C} {cA : Nat → ClassId} {nL : Nat} {cc : ByteArray} {P : Nat → Nat} {pc j t : Nat} {o : ab_O}
theorem ab_run_ok {T : List ab_A} (hT : ∀ (i : Nat) (a : ab_A), T[i]? = some a → ab_ok p l e R s m args below meth c Q b D cl cA nL o P (P i) a) : ∀ (f i : Nat) (σ : ab_S), ab_run T f i σ = some o → ab_W p l e R s m args below meth c Q b D cl cA nL (P i) σ
  | 0, i, σ, h => by cases h
  | f + 1, i, σ, h => by
    rw [ab_run] at h
    split at h
    · cases h
    · rename_i a ha
      split at h
      · cases h
      · rename_i q hq
        exact (hT i a ha σ).1 q.1 q.2 hq (ab_run_ok hT f q.1 q.2 h)
      · rename_i o' ho
        obtain rfl := Option.some.inj h
        exact (hT i a ha σ).2 ho
theorem ab_nx_ok {f : ab_S → Option ab_S} (pc' : Nat) (hj : P j = pc') (h : ∀ σ σ' : ab_S, f σ = some σ' → ab_W p l e R s m args below meth c Q b D cl cA nL pc' σ' → ab_W p l e R s m args below meth c Q b D cl cA nL pc σ) : ab_ok p l e R s m args below meth c Q b D cl cA nL o P pc (ab_nx j f) := by
  intro σ
  refine ⟨fun j' σ' h1 h2 => ?_, fun h1 => ?_⟩
  · unfold ab_nx at h1
    split at h1
    · rename_i t ht
      simp only [Option.some.injEq, Sum.inl.injEq, Prod.mk.injEq] at h1
      obtain ⟨rfl, rfl⟩ := h1
      rw [hj] at h2
      exact h σ _ ht h2
    · cases h1
  · unfold ab_nx at h1
    split at h1 <;> cases h1
theorem ab_lit_ok {v : Value} {d : Nat} (hj : P j = pc + d) (row : ∀ (H : Heap) (locs : List Loc) (cells slots : Nat) (ls : Array Slot) (rest : List Value), W p l e R s m args below meth c H locs cells slots Q (F0 m (pc + d) ls (ab_v b v :: rest)) → W p l e R s m args below meth c H locs cells slots Q (F0 m pc ls rest)) : ab_ok p l e R s m args below meth c Q b D cl cA nL o P pc (ab_nx j (ab_lit v)) := by
  refine ab_nx_ok (pc + d) hj fun σ σ' h k => ?_
  obtain rfl := Option.some.inj h
  intro H locs ls hP hz hS hl
  exact row _ _ _ _ _ _ (k H locs ls hP hz hS hl)
theorem ab_iload_ok {i d : Nat} (hj : P j = pc + d) (row : ∀ (H : Heap) (locs : List Loc) (cells slots : Nat) (ls : Array Slot) (rest : List Value) (x : Int32), ls[i]? = some (.val (.int x)) → W p l e R s m args below meth c H locs cells slots Q (F0 m (pc + d) ls (.int x :: rest)) → W p l e R s m args below meth c H locs cells slots Q (F0 m pc ls rest)) : ab_ok p l e R s m args below meth c Q b D cl cA nL o P pc (ab_nx j (ab_iload i)) := by
  refine ab_nx_ok (pc + d) hj fun σ σ' h k => ?_
  unfold ab_iload at h
  split at h
  · rename_i x hx
    obtain rfl := Option.some.inj h
    intro H locs ls hP hz hS hl
    exact row _ _ _ _ _ _ x (ab_ld hl hx) (k H locs ls hP hz hS hl)
  · cases h
theorem ab_lload_ok {i d : Nat} (hj : P j = pc + d) (row : ∀ (H : Heap) (locs : List Loc) (cells slots : Nat) (ls : Array Slot) (rest : List Value) (x : Int64), ls[i]? = some (.val (.long x)) → W p l e R s m args below meth c H locs cells slots Q (F0 m (pc + d) ls (.long x :: rest)) → W p l e R s m args below meth c H locs cells slots Q (F0 m pc ls rest)) : ab_ok p l e R s m args below meth c Q b D cl cA nL o P pc (ab_nx j (ab_lload i)) := by
  refine ab_nx_ok (pc + d) hj fun σ σ' h k => ?_
  unfold ab_lload at h
  split at h
  · rename_i x hx
    obtain rfl := Option.some.inj h
    intro H locs ls hP hz hS hl
    exact row _ _ _ _ _ _ x (ab_ld hl hx) (k H locs ls hP hz hS hl)
  · cases h
theorem ab_aload_ok {i d : Nat} (hj : P j = pc + d) (row : ∀ (H : Heap) (locs : List Loc) (cells slots : Nat) (ls : Array Slot) (rest : List Value) (x : Nat), ls[i]? = some (.val (.ref x)) → W p l e R s m args below meth c H locs cells slots Q (F0 m (pc + d) ls (.ref x :: rest)) → W p l e R s m args below meth c H locs cells slots Q (F0 m pc ls rest))
    (rowN : ∀ (H : Heap) (locs : List Loc) (cells slots : Nat) (ls : Array Slot) (rest : List Value), ls[i]? = some (.val .null) → W p l e R s m args below meth c H locs cells slots Q (F0 m (pc + d) ls (.null :: rest)) → W p l e R s m args below meth c H locs cells slots Q (F0 m pc ls rest)) : ab_ok p l e R s m args below meth c Q b D cl cA nL o P pc (ab_nx j (ab_aload i)) := by
  refine ab_nx_ok (pc + d) hj fun σ σ' h k => ?_
  unfold ab_aload at h
  split at h
  · rename_i x hx
    obtain rfl := Option.some.inj h
    intro H locs ls hP hz hS hl
    exact row _ _ _ _ _ _ _ (ab_ld hl hx) (k H locs ls hP hz hS hl)
  · rename_i x hx
    obtain rfl := Option.some.inj h
    intro H locs ls hP hz hS hl
    exact row _ _ _ _ _ _ _ (ab_ld hl hx) (k H locs ls hP hz hS hl)
  · rename_i hx
    obtain rfl := Option.some.inj h
    intro H locs ls hP hz hS hl
    exact rowN _ _ _ _ _ _ (ab_ld hl hx) (k H locs ls hP hz hS hl)
  · cases h
theorem ab_istore_ok {i d : Nat} (hj : P j = pc + d) (row : ∀ (H : Heap) (locs : List Loc) (cells slots : Nat) (ls : Array Slot) (rest : List Value) (x : Int32) (lv : List (Nat × Value)), lv_has ls nL lv → (∀ ls' : Array Slot, lv_has ls' nL ((i, Value.int x) :: lv.filter (fun q => !(q.1 == i) && !(q.1 + 1 == i && q.2.category == 2))) → W p l e R s m args below meth c H locs cells slots Q (F0 m (pc + d) ls' rest)) → W p l e R s m args below meth c H locs cells slots Q (F0 m pc ls (.int x :: rest))) : ab_ok p l e R s m args below meth c Q b D cl cA nL o P pc (ab_nx j (ab_istore i)) := by
  refine ab_nx_ok (pc + d) hj fun σ σ' h k => ?_
  obtain ⟨lo, st, r⟩ := σ
  unfold ab_istore at h
  dsimp only at h
  split at h
  · rename_i x st'
    cases hf : ab_fr lo i with
    | false => rw [hf] at h; cases h
    | true =>
      rw [hf] at h
      obtain rfl := Option.some.inj h
      intro H locs ls hP hz hS hl
      exact row _ _ _ _ _ _ x _ hl fun ls' h' => k H locs ls' hP hz hS (ab_st1 hf h')
  · cases h
theorem ab_lstore_ok {i d : Nat} (hj : P j = pc + d) (row : ∀ (H : Heap) (locs : List Loc) (cells slots : Nat) (ls : Array Slot) (rest : List Value) (x : Int64) (lv : List (Nat × Value)), lv_has ls nL lv → (∀ ls' : Array Slot, lv_has ls' nL ((i, Value.long x) :: lv.filter (fun q => !(q.1 == i) && (!(q.1 == i + 1) && !(q.1 + 1 == i && q.2.category == 2)))) → W p l e R s m args below meth c H locs cells slots Q (F0 m (pc + d) ls' rest)) → W p l e R s m args below meth c H locs cells slots Q (F0 m pc ls (.long x :: rest))) : ab_ok p l e R s m args below meth c Q b D cl cA nL o P pc (ab_nx j (ab_lstore i)) := by
  refine ab_nx_ok (pc + d) hj fun σ σ' h k => ?_
  obtain ⟨lo, st, r⟩ := σ
  unfold ab_lstore at h
  dsimp only at h
  split at h
  · rename_i x st'
    cases hf : ab_fr lo i with
    | false => rw [hf] at h; cases h
    | true =>
      rw [hf] at h
      obtain rfl := Option.some.inj h
      intro H locs ls hP hz hS hl
      exact row _ _ _ _ _ _ x _ hl fun ls' h' => k H locs ls' hP hz hS (ab_st2 hf h')
  · cases h
theorem ab_astore_ok {i d : Nat} (hj : P j = pc + d) (row : ∀ (H : Heap) (locs : List Loc) (cells slots : Nat) (ls : Array Slot) (rest : List Value) (x : Nat) (lv : List (Nat × Value)), lv_has ls nL lv → (∀ ls' : Array Slot, lv_has ls' nL ((i, Value.ref x) :: lv.filter (fun q => !(q.1 == i) && !(q.1 + 1 == i && q.2.category == 2))) → W p l e R s m args below meth c H locs cells slots Q (F0 m (pc + d) ls' rest)) → W p l e R s m args below meth c H locs cells slots Q (F0 m pc ls (.ref x :: rest)))
    (rowN : ∀ (H : Heap) (locs : List Loc) (cells slots : Nat) (ls : Array Slot) (rest : List Value) (lv : List (Nat × Value)), lv_has ls nL lv → (∀ ls' : Array Slot, lv_has ls' nL ((i, Value.null) :: lv.filter (fun q => !(q.1 == i) && !(q.1 + 1 == i && q.2.category == 2))) → W p l e R s m args below meth c H locs cells slots Q (F0 m (pc + d) ls' rest)) → W p l e R s m args below meth c H locs cells slots Q (F0 m pc ls (.null :: rest))) : ab_ok p l e R s m args below meth c Q b D cl cA nL o P pc (ab_nx j (ab_astore i)) := by
  refine ab_nx_ok (pc + d) hj fun σ σ' h k => ?_
  obtain ⟨lo, st, r⟩ := σ
  unfold ab_astore at h
  dsimp only at h
  split at h
  · rename_i x st'
    cases hf : ab_fr lo i with
    | false => rw [hf] at h; cases h
    | true =>
      rw [hf] at h
      obtain rfl := Option.some.inj h
      intro H locs ls hP hz hS hl
      exact row _ _ _ _ _ _ _ _ hl fun ls' h' => k H locs ls' hP hz hS (ab_st1 (v := .ref x) hf h')
  · rename_i st'
    cases hf : ab_fr lo i with
    | false => rw [hf] at h; cases h
    | true =>
      rw [hf] at h
      obtain rfl := Option.some.inj h
      intro H locs ls hP hz hS hl
      exact rowN _ _ _ _ _ _ _ hl fun ls' h' => k H locs ls' hP hz hS (ab_st1 (v := .null) hf h')
  · cases h
theorem ab_iinc_ok {i : Nat} {n : Int} {v : Int32} (hx : p.tables.exec = Jvm.exec) (hb : c.code = cc) (hd : decode cc pc = .ok (.iinc i n, 3)) (hv : Int32.ofInt n = v) (hi : i < nL) (hj : P j = pc + 3) : ab_ok p l e R s m args below meth c Q b D cl cA nL o P pc (ab_nx j (ab_iinc i v)) := by
  subst hv
  refine ab_nx_ok (pc + 3) hj fun σ σ' h k => ?_
  obtain ⟨lo, st, r⟩ := σ
  unfold ab_iinc at h
  dsimp only at h
  split at h
  · rename_i x hlo
    cases hf : ab_fr lo i with
    | false => rw [hf] at h; cases h
    | true =>
      rw [hf] at h
      obtain rfl := Option.some.inj h
      intro H locs ls hP hz hS hl
      obtain ⟨q, hq⟩ := List.getElem?_of_mem ((ab_lp_mem (b := b) lo 0 (i, .int x)).mpr ⟨i, .int x, hlo, by simp [ab_v]⟩)
      exact lv_iinc hx hb hd hl hq rfl hi rfl fun ls' h' => k H locs ls' hP hz hS (ab_st1 (v := .int (x + Int32.ofInt n)) hf h')
  · cases h
theorem ab_bin_ok {g : Int32 → Int32 → Int32} (hj : P j = pc + 1) (row : ∀ (H : Heap) (locs : List Loc) (cells slots : Nat) (ls : Array Slot) (rest : List Value) (x y : Int32), W p l e R s m args below meth c H locs cells slots Q (F0 m (pc + 1) ls (.int (g x y) :: rest)) → W p l e R s m args below meth c H locs cells slots Q (F0 m pc ls (.int y :: .int x :: rest))) : ab_ok p l e R s m args below meth c Q b D cl cA nL o P pc (ab_nx j (ab_bin g)) := by
  refine ab_nx_ok (pc + 1) hj fun σ σ' h k => ?_
  obtain ⟨lo, st, r⟩ := σ
  unfold ab_bin at h
  dsimp only at h
  split at h
  · obtain rfl := Option.some.inj h
    intro H locs ls hP hz hS hl
    exact row _ _ _ _ _ _ _ _ (k H locs ls hP hz hS hl)
  · cases h
theorem ab_irem_ok (hx : p.tables.exec = Jvm.exec) (hb : c.code = cc) (hd : decode cc pc = .ok (.irem, 1)) (hj : P j = pc + 1) : ab_ok p l e R s m args below meth c Q b D cl cA nL o P pc (ab_nx j ab_irem) := by
  refine ab_nx_ok (pc + 1) hj fun σ σ' h k => ?_
  obtain ⟨lo, st, r⟩ := σ
  unfold ab_irem at h
  dsimp only at h
  split at h
  · rename_i y x st'
    by_cases hy : y = 0
    · rw [decide_eq_true hy] at h; cases h
    · rw [decide_eq_false hy] at h
      obtain rfl := Option.some.inj h
      intro H locs ls hP hz hS hl
      exact lv_irem hx hb hd hy (k H locs ls hP hz hS hl)
  · cases h
theorem ab_un_ok {g : Int32 → Int32} (hj : P j = pc + 1) (row : ∀ (H : Heap) (locs : List Loc) (cells slots : Nat) (ls : Array Slot) (rest : List Value) (x : Int32), W p l e R s m args below meth c H locs cells slots Q (F0 m (pc + 1) ls (.int (g x) :: rest)) → W p l e R s m args below meth c H locs cells slots Q (F0 m pc ls (.int x :: rest))) : ab_ok p l e R s m args below meth c Q b D cl cA nL o P pc (ab_nx j (ab_un g)) := by
  refine ab_nx_ok (pc + 1) hj fun σ σ' h k => ?_
  obtain ⟨lo, st, r⟩ := σ
  unfold ab_un at h
  dsimp only at h
  split at h
  · obtain rfl := Option.some.inj h
    intro H locs ls hP hz hS hl
    exact row _ _ _ _ _ _ _ (k H locs ls hP hz hS hl)
  · cases h
theorem ab_lbin_ok {g : Int64 → Int64 → Int64} (hj : P j = pc + 1) (row : ∀ (H : Heap) (locs : List Loc) (cells slots : Nat) (ls : Array Slot) (rest : List Value) (x y : Int64), W p l e R s m args below meth c H locs cells slots Q (F0 m (pc + 1) ls (.long (g x y) :: rest)) → W p l e R s m args below meth c H locs cells slots Q (F0 m pc ls (.long y :: .long x :: rest))) : ab_ok p l e R s m args below meth c Q b D cl cA nL o P pc (ab_nx j (ab_lbin g)) := by
  refine ab_nx_ok (pc + 1) hj fun σ σ' h k => ?_
  obtain ⟨lo, st, r⟩ := σ
  unfold ab_lbin at h
  dsimp only at h
  split at h
  · obtain rfl := Option.some.inj h
    intro H locs ls hP hz hS hl
    exact row _ _ _ _ _ _ _ _ (k H locs ls hP hz hS hl)
  · cases h
theorem ab_lsh_ok {g : Int64 → Int32 → Int64} (hj : P j = pc + 1) (row : ∀ (H : Heap) (locs : List Loc) (cells slots : Nat) (ls : Array Slot) (rest : List Value) (x : Int64) (y : Int32), W p l e R s m args below meth c H locs cells slots Q (F0 m (pc + 1) ls (.long (g x y) :: rest)) → W p l e R s m args below meth c H locs cells slots Q (F0 m pc ls (.int y :: .long x :: rest))) : ab_ok p l e R s m args below meth c Q b D cl cA nL o P pc (ab_nx j (ab_lsh g)) := by
  refine ab_nx_ok (pc + 1) hj fun σ σ' h k => ?_
  obtain ⟨lo, st, r⟩ := σ
  unfold ab_lsh at h
  dsimp only at h
  split at h
  · obtain rfl := Option.some.inj h
    intro H locs ls hP hz hS hl
    exact row _ _ _ _ _ _ _ _ (k H locs ls hP hz hS hl)
  · cases h
theorem ab_lcmp_ok (hx : p.tables.exec = Jvm.exec) (hb : c.code = cc) (hd : decode cc pc = .ok (.lcmp, 1)) (hj : P j = pc + 1) : ab_ok p l e R s m args below meth c Q b D cl cA nL o P pc (ab_nx j ab_lcmp) := by
  refine ab_nx_ok (pc + 1) hj fun σ σ' h k => ?_
  obtain ⟨lo, st, r⟩ := σ
  unfold ab_lcmp at h
  dsimp only at h
  split at h
  · obtain rfl := Option.some.inj h
    intro H locs ls hP hz hS hl
    exact W.lcmp hx hb hd (k H locs ls hP hz hS hl)
  · cases h
theorem ab_i2l_ok (hx : p.tables.exec = Jvm.exec) (hb : c.code = cc) (hd : decode cc pc = .ok (.i2l, 1)) (hj : P j = pc + 1) : ab_ok p l e R s m args below meth c Q b D cl cA nL o P pc (ab_nx j ab_i2l) := by
  refine ab_nx_ok (pc + 1) hj fun σ σ' h k => ?_
  obtain ⟨lo, st, r⟩ := σ
  unfold ab_i2l at h
  dsimp only at h
  split at h
  · obtain rfl := Option.some.inj h
    intro H locs ls hP hz hS hl
    exact lv_i2l hx hb hd rfl (k H locs ls hP hz hS hl)
  · cases h
theorem ab_l2i_ok (hx : p.tables.exec = Jvm.exec) (hb : c.code = cc) (hd : decode cc pc = .ok (.l2i, 1)) (hj : P j = pc + 1) : ab_ok p l e R s m args below meth c Q b D cl cA nL o P pc (ab_nx j ab_l2i) := by
  refine ab_nx_ok (pc + 1) hj fun σ σ' h k => ?_
  obtain ⟨lo, st, r⟩ := σ
  unfold ab_l2i at h
  dsimp only at h
  split at h
  · obtain rfl := Option.some.inj h
    intro H locs ls hP hz hS hl
    exact lv_l2i hx hb hd rfl (k H locs ls hP hz hS hl)
  · cases h
theorem ab_c1_ok {v : Value} (h : ab_c1 v = true) : (ab_v b v).category = 1 := by cases v <;> first | rfl | cases h
theorem ab_dup_ok (hx : p.tables.exec = Jvm.exec) (hb : c.code = cc) (hd : decode cc pc = .ok (.dup, 1)) (hj : P j = pc + 1) : ab_ok p l e R s m args below meth c Q b D cl cA nL o P pc (ab_nx j ab_dup) := by
  refine ab_nx_ok (pc + 1) hj fun σ σ' h k => ?_
  obtain ⟨lo, st, r⟩ := σ
  unfold ab_dup at h
  dsimp only at h
  split at h
  · rename_i v st'
    cases hf : ab_c1 v with
    | false => rw [hf] at h; cases h
    | true =>
      rw [hf] at h
      obtain rfl := Option.some.inj h
      intro H locs ls hP hz hS hl
      exact lv_dup hx hb hd (ab_c1_ok hf) (k H locs ls hP hz hS hl)
  · cases h
theorem ab_dup2_ok (hx : p.tables.exec = Jvm.exec) (hb : c.code = cc) (hd : decode cc pc = .ok (.dup2, 1)) (hj : P j = pc + 1) : ab_ok p l e R s m args below meth c Q b D cl cA nL o P pc (ab_nx j ab_dup2) := by
  refine ab_nx_ok (pc + 1) hj fun σ σ' h k => ?_
  obtain ⟨lo, st, r⟩ := σ
  unfold ab_dup2 at h
  dsimp only at h
  split at h
  · rename_i v w st'
    cases hf : (ab_c1 v && ab_c1 w) with
    | false => rw [hf] at h; cases h
    | true =>
      rw [hf] at h
      obtain rfl := Option.some.inj h
      rw [Bool.and_eq_true] at hf
      intro H locs ls hP hz hS hl
      exact lv_dup2_11 hx hb hd (ab_c1_ok hf.1) (ab_c1_ok hf.2) (k H locs ls hP hz hS hl)
  · cases h
theorem ab_pop_ok (hx : p.tables.exec = Jvm.exec) (hb : c.code = cc) (hd : decode cc pc = .ok (.pop, 1)) (hj : P j = pc + 1) : ab_ok p l e R s m args below meth c Q b D cl cA nL o P pc (ab_nx j ab_pop) := by
  refine ab_nx_ok (pc + 1) hj fun σ σ' h k => ?_
  obtain ⟨lo, st, r⟩ := σ
  unfold ab_pop at h
  dsimp only at h
  split at h
  · rename_i v st'
    cases hf : ab_c1 v with
    | false => rw [hf] at h; cases h
    | true =>
      rw [hf] at h
      obtain rfl := Option.some.inj h
      intro H locs ls hP hz hS hl
      exact lv_pop hx hb hd (ab_c1_ok hf) (k H locs ls hP hz hS hl)
  · cases h
theorem ab_if_ok {g : Int32 → Bool} {tg : Nat} (hj : P j = pc + 3) (ht : P t = tg) (row : ∀ (H : Heap) (locs : List Loc) (cells slots : Nat) (ls : Array Slot) (rest : List Value) (x : Int32), (g x = true → W p l e R s m args below meth c H locs cells slots Q (F0 m tg ls rest)) → (g x = false → W p l e R s m args below meth c H locs cells slots Q (F0 m (pc + 3) ls rest)) → W p l e R s m args below meth c H locs cells slots Q (F0 m pc ls (.int x :: rest))) : ab_ok p l e R s m args below meth c Q b D cl cA nL o P pc (ab_if j t g) := by
  subst ht
  intro σ
  obtain ⟨lo, st, r⟩ := σ
  unfold ab_if
  dsimp only
  refine ⟨fun j' σ' h1 h2 => ?_, fun h1 => ?_⟩
  · split at h1
    · rename_i x st'
      simp only [Option.some.injEq, Sum.inl.injEq, Prod.mk.injEq] at h1
      obtain ⟨rfl, rfl⟩ := h1
      intro H locs ls hP hz hS hl
      refine row _ _ _ _ _ _ x (fun hg => ?_) (fun hg => ?_)
      · rw [hg] at h2
        exact h2 H locs ls hP hz hS hl
      · rw [hg] at h2
        rw [← hj]
        exact h2 H locs ls hP hz hS hl
    · cases h1
  · split at h1 <;> cases h1
theorem ab_icmp_ok {g : Int32 → Int32 → Bool} {tg : Nat} (hj : P j = pc + 3) (ht : P t = tg) (row : ∀ (H : Heap) (locs : List Loc) (cells slots : Nat) (ls : Array Slot) (rest : List Value) (x y : Int32), (g x y = true → W p l e R s m args below meth c H locs cells slots Q (F0 m tg ls rest)) → (g x y = false → W p l e R s m args below meth c H locs cells slots Q (F0 m (pc + 3) ls rest)) → W p l e R s m args below meth c H locs cells slots Q (F0 m pc ls (.int y :: .int x :: rest))) : ab_ok p l e R s m args below meth c Q b D cl cA nL o P pc (ab_icmp j t g) := by
  subst ht
  intro σ
  obtain ⟨lo, st, r⟩ := σ
  unfold ab_icmp
  dsimp only
  refine ⟨fun j' σ' h1 h2 => ?_, fun h1 => ?_⟩
  · split at h1
    · rename_i y x st'
      simp only [Option.some.injEq, Sum.inl.injEq, Prod.mk.injEq] at h1
      obtain ⟨rfl, rfl⟩ := h1
      intro H locs ls hP hz hS hl
      refine row _ _ _ _ _ _ x y (fun hg => ?_) (fun hg => ?_)
      · rw [hg] at h2
        exact h2 H locs ls hP hz hS hl
      · rw [hg] at h2
        rw [← hj]
        exact h2 H locs ls hP hz hS hl
    · cases h1
  · split at h1 <;> cases h1
theorem ab_nonnull_ok {off : Int} {tg : Nat} (hx : p.tables.exec = Jvm.exec) (hb : c.code = cc) (hd : decode cc pc = .ok (.ifnonnull off, 3)) (ho : (pc : Int) + off = (tg : Int)) (hj : P j = pc + 3) (ht : P t = tg) : ab_ok p l e R s m args below meth c Q b D cl cA nL o P pc (ab_nonnull j t) := by
  subst ht
  intro σ
  obtain ⟨lo, st, r⟩ := σ
  unfold ab_nonnull
  dsimp only
  refine ⟨fun j' σ' h1 h2 => ?_, fun h1 => ?_⟩
  · split at h1
    · simp only [Option.some.injEq, Sum.inl.injEq, Prod.mk.injEq] at h1
      obtain ⟨rfl, rfl⟩ := h1
      intro H locs ls hP hz hS hl
      exact lv_ifnonnull hx hb hd ho (h2 H locs ls hP hz hS hl)
    · simp only [Option.some.injEq, Sum.inl.injEq, Prod.mk.injEq] at h1
      obtain ⟨rfl, rfl⟩ := h1
      rw [hj] at h2
      intro H locs ls hP hz hS hl
      exact lv_ifnonnullN hx hb hd (h2 H locs ls hP hz hS hl)
    · cases h1
  · split at h1 <;> cases h1
theorem ab_goto_ok {off : Int} {tg : Nat} (hx : p.tables.exec = Jvm.exec) (hb : c.code = cc) (hd : decode cc pc = .ok (.goto off, 3)) (ho : (pc : Int) + off = (tg : Int)) (ht : P t = tg) : ab_ok p l e R s m args below meth c Q b D cl cA nL o P pc (ab_goto t) := by
  subst ht
  intro σ
  refine ⟨fun j' σ' h1 h2 => ?_, fun h1 => by cases h1⟩
  simp only [ab_goto, Option.some.injEq, Sum.inl.injEq, Prod.mk.injEq] at h1
  obtain ⟨rfl, rfl⟩ := h1
  intro H locs ls hP hz hS hl
  exact lv_goto hx hb hd ho (h2 H locs ls hP hz hS hl)
end AB
end
