section
/-! ===== AN ABSTRACT MACHINE: cells by their places (place k is the address b + k), arrays as functions, methods as lists of steps; what it does, the machine does ===== -/
abbrev ab_E : Type := (Nat × vp_A) ⊕ (Nat × List Value)
abbrev ab_H : Type := Nat × (Nat → ab_E)
abbrev ab_S : Type := List (Option Value) × List Value × (Nat × Nat) × ab_H
abbrev ab_O : Type := Option Value × ab_H
abbrev ab_R : Type := Option ((Nat × ab_S) ⊕ ab_O)
abbrev ab_A : Type := ab_S → ab_R
abbrev ab_B : Type := Nat × (Nat → Nat)
/-- what a value is on the machine: '.ref k' is the cell at place k, '.retAddr i' the i-th thing that was there before -/
def ab_v (b : ab_B) : Value → Value
  | .ref k => .ref (b.1 + k)
  | .retAddr i => .ref (b.2 i)
  | v => v
def ab_a (b : ab_B) (a : vp_A) : vp_A := match a.2 with
  | .inr (.inr (.inr (.inr f))) => (a.1, .inr (.inr (.inr (.inr (fun j => (f j).map (fun k => b.1 + k))))))
  | _ => a
def ab_e (b : ab_B) (cA : Nat → ClassId) (q : ab_E) : va_E := match q with
  | .inl x => .inl (cA x.1, ab_a b x.2)
  | .inr x => .inr (x.1, x.2.map (ab_v b))
def ab_w (b : ab_B) (cA : Nat → ClassId) (hp : ab_H) : va_W := (List.range hp.1).map (fun k => (b.1 + k, ab_e b cA (hp.2 k)))
theorem ab_w_at {b : ab_B} {cA : Nat → ClassId} {hp : ab_H} {k : Nat} (hk : k < hp.1) : (ab_w b cA hp)[k]? = some (b.1 + k, ab_e b cA (hp.2 k)) := by
  simp [ab_w, List.getElem?_map, List.getElem?_range hk]
theorem ab_w_lt {b : ab_B} {cA : Nat → ClassId} {hp : ab_H} {k : Nat} {q : Nat × va_E} (h : (ab_w b cA hp)[k]? = some q) : k < hp.1 ∧ q = (b.1 + k, ab_e b cA (hp.2 k)) := by
  have hk : k < hp.1 := by
    have := (List.getElem?_eq_some_iff.mp h).1
    simpa [ab_w] using this
  refine ⟨hk, ?_⟩
  rw [ab_w_at hk] at h
  exact (Option.some.inj h).symm
theorem ab_w_D {b : ab_B} {cA : Nat → ClassId} {hp : ab_H} : va_D (fun q => b.1 ≤ q) (ab_w b cA hp) := by
  refine ⟨fun i j x y hx hy hxy => ?_, fun k q hq => ?_⟩
  · obtain ⟨-, rfl⟩ := ab_w_lt hx
    obtain ⟨-, rfl⟩ := ab_w_lt hy
    have : b.1 + i = b.1 + j := hxy
    omega
  · obtain ⟨-, rfl⟩ := ab_w_lt hq
    exact Nat.le_add_right _ _
/-- one cell anew -/
def ab_up (hp : ab_H) (k : Nat) (x : ab_E) : ab_H := (hp.1, fun j => if j = k then x else hp.2 j)
def ab_push (hp : ab_H) (x : ab_E) : ab_H := (hp.1 + 1, fun j => if j = hp.1 then x else hp.2 j)
theorem ab_w_up {b : ab_B} {cA : Nat → ClassId} {hp : ab_H} {k : Nat} {x : ab_E} {y : va_E} (hy : ab_e b cA x = y) : (ab_w b cA hp).set k (b.1 + k, y) = ab_w b cA (ab_up hp k x) := by
  subst hy
  apply List.ext_getElem?
  intro i
  by_cases hi : i < hp.1
  · rw [ab_w_at (hp := ab_up hp k x) hi]
    rw [List.getElem?_set]
    by_cases hk : k = i
    · subst hk
      simp [ab_w, hi, ab_up]
    · rw [if_neg hk, ab_w_at hi]
      simp [ab_up, Ne.symm hk]
  · have h1 : (ab_w b cA (ab_up hp k x))[i]? = none := by
      rw [List.getElem?_eq_none_iff]
      simp [ab_w, ab_up]
      omega
    rw [h1, List.getElem?_eq_none_iff]
    simp [ab_w]
    omega
theorem ab_w_push {b : ab_B} {cA : Nat → ClassId} {hp : ab_H} {x : ab_E} {y : va_E} (hy : ab_e b cA x = y) : ab_w b cA hp ++ [(b.1 + hp.1, y)] = ab_w b cA (ab_push hp x) := by
  subst hy
  simp only [ab_w, ab_push, List.range_succ, List.map_append, List.map_cons, List.map_nil]
  have h1 : (List.range hp.1).map (fun k => (b.1 + k, ab_e b cA (hp.2 k))) = (List.range hp.1).map (fun k => (b.1 + k, ab_e b cA (if k = hp.1 then x else hp.2 k))) := by
    apply List.map_congr_left
    intro k hk
    have : k ≠ hp.1 := Nat.ne_of_lt (List.mem_range.mp hk)
    simp [this]
  rw [h1]
  simp
/-- the locals: places and values -/
def ab_lp (b : ab_B) : Nat → List (Option Value) → List (Nat × Value)
  | _, [] => []
  | i, none :: r => ab_lp b (i + 1) r
  | i, some v :: r => (i, ab_v b v) :: ab_lp b (i + 1) r
theorem ab_lp_mem {b : ab_B} : ∀ (lo : List (Option Value)) (i : Nat) (q : Nat × Value), q ∈ ab_lp b i lo ↔ ∃ (k : Nat) (v : Value), lo[k]? = some (some v) ∧ q = (i + k, ab_v b v)
  | [], i, q => by simp [ab_lp]
  | none :: r, i, q => by
    rw [ab_lp, ab_lp_mem r (i + 1) q]
    constructor
    · rintro ⟨k, v, h1, h2⟩
      exact ⟨k + 1, v, by simpa using h1, by rw [h2]; congr 1; omega⟩
    · rintro ⟨k, v, h1, h2⟩
      cases k with
      | zero => simp at h1
      | succ k => exact ⟨k, v, by simpa using h1, by rw [h2]; congr 1; omega⟩
  | some w :: r, i, q => by
    rw [ab_lp, List.mem_cons, ab_lp_mem r (i + 1) q]
    constructor
    · rintro (h | ⟨k, v, h1, h2⟩)
      · exact ⟨0, w, by simp, by simpa using h⟩
      · exact ⟨k + 1, v, by simpa using h1, by rw [h2]; congr 1; omega⟩
    · rintro ⟨k, v, h1, h2⟩
      cases k with
      | zero =>
        left
        simp at h1
        subst h1
        simpa using h2
      | succ k => exact Or.inr ⟨k, v, by simpa using h1, by rw [h2]; congr 1; omega⟩
theorem ab_ld {b : ab_B} {ls : Array Slot} {nL : Nat} {lo : List (Option Value)} (h : lv_has ls nL (ab_lp b 0 lo)) {i : Nat} {v : Value} (hi : lo[i]? = some (some v)) : ls[i]? = some (.val (ab_v b v)) := by
  have := h.2.2 (i, ab_v b v) ((ab_lp_mem lo 0 _).mpr ⟨i, v, hi, by simp⟩)
  exact this
/-- the slot before i is no long's first half -/
def ab_fr (lo : List (Option Value)) (i : Nat) : Bool := match i with
  | 0 => true
  | k + 1 => match lo[k]? with
    | some (some (.long _)) => false
    | some (some (.double _)) => false
    | _ => true
theorem ab_cat2 {v : Value} (h : v.category = 2) : (∃ x, v = .long x) ∨ ∃ x, v = .double x := by
  cases v <;> first | exact Or.inl ⟨_, rfl⟩ | exact Or.inr ⟨_, rfl⟩ | cases h
theorem ab_vcat (b : ab_B) (v : Value) : (ab_v b v).category = v.category := by cases v <;> rfl
theorem ab_st1 {b : ab_B} {ls : Array Slot} {nL : Nat} {lo : List (Option Value)} {i : Nat} {v : Value} (hf : ab_fr lo i = true)
    (h : lv_has ls nL ((i, ab_v b v) :: (ab_lp b 0 lo).filter (fun q => !(q.1 == i) && !(q.1 + 1 == i && q.2.category == 2)))) : lv_has ls nL (ab_lp b 0 (lo.set i (some v))) := by
  refine ⟨h.1, h.2.1, fun q hq => h.2.2 q ?_⟩
  obtain ⟨k, w, h1, rfl⟩ := (ab_lp_mem _ 0 q).mp hq
  rw [List.getElem?_set] at h1
  by_cases hk : i = k
  · subst hk
    rw [if_pos rfl] at h1
    split at h1
    · obtain rfl := Option.some.inj (Option.some.inj h1)
      simp
    · cases h1
  · rw [if_neg hk] at h1
    refine List.mem_cons_of_mem _ (List.mem_filter.mpr ⟨(ab_lp_mem lo 0 _).mpr ⟨k, w, h1, rfl⟩, ?_⟩)
    have e1 : (0 + k == i) = false := by simp; omega
    have e2 : ((0 + k + 1 == i) && ((ab_v b w).category == 2)) = false := by
      rw [ab_vcat]
      by_cases hc : w.category = 2
      · have : ¬ (0 + k + 1 = i) := by
          intro he
          subst he
          rw [show 0 + k + 1 = k + 1 by omega] at hf
          simp only [ab_fr, h1] at hf
          rcases ab_cat2 hc with ⟨x, rfl⟩ | ⟨x, rfl⟩ <;> simp at hf
        have e3 : (0 + k + 1 == i) = false := by simpa using this
        rw [e3]; rfl
      · have e3 : (w.category == 2) = false := by simpa using hc
        rw [e3, Bool.and_false]
    show ((!(0 + k == i)) && !((0 + k + 1 == i) && ((ab_v b w).category == 2))) = true
    rw [e1, e2]; rfl
theorem ab_st2 {b : ab_B} {ls : Array Slot} {nL : Nat} {lo : List (Option Value)} {i : Nat} {v : Value} (hf : ab_fr lo i = true)
    (h : lv_has ls nL ((i, ab_v b v) :: (ab_lp b 0 lo).filter (fun q => !(q.1 == i) && (!(q.1 == i + 1) && !(q.1 + 1 == i && q.2.category == 2))))) : lv_has ls nL (ab_lp b 0 ((lo.set i (some v)).set (i + 1) none)) := by
  refine ⟨h.1, h.2.1, fun q hq => h.2.2 q ?_⟩
  obtain ⟨k, w, h1, rfl⟩ := (ab_lp_mem _ 0 q).mp hq
  rw [List.getElem?_set] at h1
  by_cases hk1 : i + 1 = k
  · subst hk1
    rw [if_pos rfl] at h1
    split at h1 <;> cases h1
  rw [if_neg hk1, List.getElem?_set] at h1
  by_cases hk : i = k
  · subst hk
    rw [if_pos rfl] at h1
    split at h1
    · obtain rfl := Option.some.inj (Option.some.inj h1)
      simp
    · cases h1
  · rw [if_neg hk] at h1
    refine List.mem_cons_of_mem _ (List.mem_filter.mpr ⟨(ab_lp_mem lo 0 _).mpr ⟨k, w, h1, rfl⟩, ?_⟩)
    have e1 : (0 + k == i) = false := by simp; omega
    have e4 : (0 + k == i + 1) = false := by simp; omega
    have e2 : ((0 + k + 1 == i) && ((ab_v b w).category == 2)) = false := by
      rw [ab_vcat]
      by_cases hc : w.category = 2
      · have : ¬ (0 + k + 1 = i) := by
          intro he
          subst he
          rw [show 0 + k + 1 = k + 1 by omega] at hf
          simp only [ab_fr, h1] at hf
          rcases ab_cat2 hc with ⟨x, rfl⟩ | ⟨x, rfl⟩ <;> simp at hf
        have e3 : (0 + k + 1 == i) = false := by simpa using this
        rw [e3]; rfl
      · have e3 : (w.category == 2) = false := by simpa using hc
        rw [e3, Bool.and_false]
    show ((!(0 + k == i)) && (!(0 + k == i + 1) && !((0 + k + 1 == i) && ((ab_v b w).category == 2)))) = true
    rw [e1, e2, e4]; rfl
/-- a method's first locals -/
def ab_ent : List Value → List (Option Value)
  | [] => []
  | v :: r => match v with
    | .long x => some (.long x) :: none :: ab_ent r
    | .double x => some (.double x) :: none :: ab_ent r
    | w => some w :: ab_ent r
def ab_en (nL : Nat) (as : List Value) : List (Option Value) := ab_ent as ++ List.replicate (nL - (ab_ent as).length) none
theorem ab_ent_len (b : ab_B) : ∀ (as : List Value), (lg_sl (as.map (ab_v b))).length = (ab_ent as).length
  | [] => rfl
  | v :: r => by
    have ih := ab_ent_len b r
    have h : ∀ (w : Value) (vs : List Value), lg_sl (w :: vs) = (if w.category = 2 then [.val w, .second] else [.val w]) ++ lg_sl vs := fun w vs => by simp [lg_sl]
    rw [List.map_cons, h, List.length_append, ih]
    cases v <;> simp [ab_ent, ab_v, Value.category] <;> omega
theorem ab_ent_in (b : ab_B) : ∀ (as : List Value) (i k : Nat) (v : Value), (ab_ent as)[k]? = some (some v) → (i + k, ab_v b v) ∈ lv_args i (as.map (ab_v b))
  | [], i, k, v, h => by simp [ab_ent] at h
  | a :: r, i, k, v, h => by
    have ih := ab_ent_in b r
    cases a with
    | long x =>
      cases k with
      | zero => simp [ab_ent] at h; subst h; simp [lv_args, ab_v]
      | succ k => cases k with
        | zero => simp [ab_ent] at h
        | succ k =>
          have h1 : (ab_ent r)[k]? = some (some v) := by simpa [ab_ent] using h
          have h2 := ih (i + 2) k v h1
          rw [show i + (k + 1 + 1) = i + 2 + k by omega]
          simp only [List.map_cons, ab_v, lv_args, Value.category]
          exact List.mem_cons_of_mem _ h2
    | double x =>
      cases k with
      | zero => simp [ab_ent] at h; subst h; simp [lv_args, ab_v]
      | succ k => cases k with
        | zero => simp [ab_ent] at h
        | succ k =>
          have h1 : (ab_ent r)[k]? = some (some v) := by simpa [ab_ent] using h
          have h2 := ih (i + 2) k v h1
          rw [show i + (k + 1 + 1) = i + 2 + k by omega]
          simp only [List.map_cons, ab_v, lv_args, Value.category]
          exact List.mem_cons_of_mem _ h2
    | _ =>
      cases k with
      | zero => simp [ab_ent] at h; subst h; simp [lv_args, ab_v]
      | succ k =>
        have h1 : (ab_ent r)[k]? = some (some v) := by simpa [ab_ent] using h
        have h2 := ih (i + 1) k v h1
        rw [show i + (k + 1) = i + 1 + k by omega]
        simp only [List.map_cons, ab_v, lv_args, Value.category]
        exact List.mem_cons_of_mem _ h2
theorem ab_en_has {b : ab_B} {as : List Value} {nL : Nat} {ls : Array Slot} (h : lv_has ls nL (lv_args 0 (as.map (ab_v b)))) : lv_has ls nL (ab_lp b 0 (ab_en nL as)) := by
  refine ⟨h.1, h.2.1, fun q hq => h.2.2 q ?_⟩
  obtain ⟨k, v, h1, rfl⟩ := (ab_lp_mem _ 0 q).mp hq
  have h2 : (ab_ent as)[k]? = some (some v) := by
    unfold ab_en at h1
    rw [List.getElem?_append] at h1
    split at h1
    · exact h1
    · rw [List.getElem?_replicate] at h1
      split at h1 <;> cases h1
  exact ab_ent_in b as 0 k v h2
/-- steps, one behind the other -/
def ab_run (T : Nat → Option ab_A) : Nat → Nat → ab_S → Option ab_O
  | 0, _, _ => none
  | f + 1, i, s => match T i with
    | none => none
    | some a => match a s with
      | none => none
      | some (.inl q) => ab_run T f q.1 q.2
      | some (.inr o) => some o
/-- the step at a place of the code -/
def ab_T (L : List (Nat × ab_A)) (i : Nat) : Option ab_A := match L with
  | [] => none
  | q :: r => cond (q.1 == i) (some q.2) (ab_T r i)
theorem ab_T_mem : ∀ (L : List (Nat × ab_A)) (i : Nat) (a : ab_A), ab_T L i = some a → (i, a) ∈ L
  | [], _, _, h => by cases h
  | q :: r, i, a, h => by
    rw [ab_T] at h
    cases hq : (q.1 == i) with
    | true =>
      rw [hq] at h
      have h1 : q.1 = i := by simpa using hq
      have h2 : q.2 = a := Option.some.inj h
      rw [← h1, ← h2]
      exact List.mem_cons_self
    | false =>
      rw [hq] at h
      exact List.mem_cons_of_mem _ (ab_T_mem r i a h)
end
section
/-! ===== the steps, and that the machine does them ===== -/
def ab_nx (j : Nat) (f : ab_S → Option ab_S) : ab_A := fun s => match f s with
  | some t => some (.inl (j, t))
  | none => none
def ab_lit (v : Value) : ab_S → Option ab_S := fun s => some (s.1, v :: s.2.1, s.2.2)
def ab_iload (i : Nat) : ab_S → Option ab_S := fun s => match s.1[i]? with
  | some (some (.int x)) => some (s.1, .int x :: s.2.1, s.2.2)
  | _ => none
def ab_lload (i : Nat) : ab_S → Option ab_S := fun s => match s.1[i]? with
  | some (some (.long x)) => some (s.1, .long x :: s.2.1, s.2.2)
  | _ => none
def ab_aload (i : Nat) : ab_S → Option ab_S := fun s => match s.1[i]? with
  | some (some (.ref x)) => some (s.1, .ref x :: s.2.1, s.2.2)
  | some (some (.retAddr x)) => some (s.1, .retAddr x :: s.2.1, s.2.2)
  | some (some .null) => some (s.1, .null :: s.2.1, s.2.2)
  | _ => none
def ab_istore (i : Nat) : ab_S → Option ab_S := fun s => match s.2.1 with
  | .int x :: st => cond (ab_fr s.1 i) (some (s.1.set i (some (.int x)), st, s.2.2)) none
  | _ => none
def ab_lstore (i : Nat) : ab_S → Option ab_S := fun s => match s.2.1 with
  | .long x :: st => cond (ab_fr s.1 i) (some ((s.1.set i (some (.long x))).set (i + 1) none, st, s.2.2)) none
  | _ => none
def ab_astore (i : Nat) : ab_S → Option ab_S := fun s => match s.2.1 with
  | .ref x :: st => cond (ab_fr s.1 i) (some (s.1.set i (some (.ref x)), st, s.2.2)) none
  | .null :: st => cond (ab_fr s.1 i) (some (s.1.set i (some .null), st, s.2.2)) none
  | _ => none
def ab_iinc (i : Nat) (n : Int32) : ab_S → Option ab_S := fun s => match s.1[i]? with
  | some (some (.int x)) => cond (ab_fr s.1 i) (some (s.1.set i (some (.int (x + n))), s.2.1, s.2.2)) none
  | _ => none
def ab_bin (g : Int32 → Int32 → Int32) : ab_S → Option ab_S := fun s => match s.2.1 with
  | .int y :: .int x :: st => some (s.1, .int (g x y) :: st, s.2.2)
  | _ => none
def ab_irem : ab_S → Option ab_S := fun s => match s.2.1 with
  | .int y :: .int x :: st => cond (decide (y = 0)) none (some (s.1, .int (x - x / y * y) :: st, s.2.2))
  | _ => none
def ab_un (g : Int32 → Int32) : ab_S → Option ab_S := fun s => match s.2.1 with
  | .int x :: st => some (s.1, .int (g x) :: st, s.2.2)
  | _ => none
def ab_lbin (g : Int64 → Int64 → Int64) : ab_S → Option ab_S := fun s => match s.2.1 with
  | .long y :: .long x :: st => some (s.1, .long (g x y) :: st, s.2.2)
  | _ => none
def ab_lsh (g : Int64 → Int32 → Int64) : ab_S → Option ab_S := fun s => match s.2.1 with
  | .int y :: .long x :: st => some (s.1, .long (g x y) :: st, s.2.2)
  | _ => none
def ab_lcmp : ab_S → Option ab_S := fun s => match s.2.1 with
  | .long y :: .long x :: st => some (s.1, .int (lg_cmp x y) :: st, s.2.2)
  | _ => none
def ab_i2l : ab_S → Option ab_S := fun s => match s.2.1 with
  | .int x :: st => some (s.1, .long x.toInt64 :: st, s.2.2)
  | _ => none
def ab_l2i : ab_S → Option ab_S := fun s => match s.2.1 with
  | .long x :: st => some (s.1, .int x.toInt32 :: st, s.2.2)
  | _ => none
def ab_c1 : Value → Bool
  | .long _ => false
  | .double _ => false
  | _ => true
def ab_dup : ab_S → Option ab_S := fun s => match s.2.1 with
  | v :: st => cond (ab_c1 v) (some (s.1, v :: v :: st, s.2.2)) none
  | _ => none
def ab_dup2 : ab_S → Option ab_S := fun s => match s.2.1 with
  | v :: w :: st => cond (ab_c1 v && ab_c1 w) (some (s.1, v :: w :: v :: w :: st, s.2.2)) none
  | _ => none
def ab_pop : ab_S → Option ab_S := fun s => match s.2.1 with
  | v :: st => cond (ab_c1 v) (some (s.1, st, s.2.2)) none
  | _ => none
def ab_if (j t : Nat) (g : Int32 → Bool) : ab_A := fun s => match s.2.1 with
  | .int x :: st => some (.inl (cond (g x) t j, s.1, st, s.2.2))
  | _ => none
def ab_icmp (j t : Nat) (g : Int32 → Int32 → Bool) : ab_A := fun s => match s.2.1 with
  | .int y :: .int x :: st => some (.inl (cond (g x y) t j, s.1, st, s.2.2))
  | _ => none
def ab_nonnull (j t : Nat) : ab_A := fun s => match s.2.1 with
  | .ref _ :: st => some (.inl (t, s.1, st, s.2.2))
  | .null :: st => some (.inl (j, s.1, st, s.2.2))
  | _ => none
def ab_goto (t : Nat) : ab_A := fun s => some (.inl (t, s))
def ab_getf (ci k : Nat) : ab_S → Option ab_S := fun s => match s.2.1 with
  | .ref a :: st => cond (decide (a < s.2.2.2.1)) (match s.2.2.2.2 a with
    | .inr o => cond (o.1 == ci) (match o.2[k]? with
      | some v => some (s.1, v :: st, s.2.2)
      | none => none) none
    | _ => none) none
  | _ => none
/-- may a value lie in a field: 0 int, 1 long, 2 a reference, 3 boolean -/
def ab_fit (kd : Nat) (v : Value) : Bool := match v with
  | .int x => cond (kd == 0) true (cond (kd == 3) (decide (x = 0) || decide (x = 1)) false)
  | .long _ => kd == 1
  | .ref _ => kd == 2
  | .null => kd == 2
  | _ => false
def ab_putf (ci k kd : Nat) : ab_S → Option ab_S := fun s => match s.2.1 with
  | v :: .ref a :: st => cond (decide (a < s.2.2.2.1) && ab_fit kd v) (match s.2.2.2.2 a with
    | .inr o => cond (o.1 == ci && decide (k < o.2.length)) (some (s.1, st, s.2.2.1, ab_up s.2.2.2 a (.inr (ci, o.2.set k v)))) none
    | _ => none) none
  | _ => none
def ab_in (i : Int32) (n : Nat) : Bool := !(decide (i < 0)) && decide (i.toNatClampNeg < n)
/-- an element of an array of ints, bytes or booleans (the kind t: 0 byte, 1 int, 2 long, 3 boolean, 4 and on references) -/
def ab_ald (t : Nat) : ab_S → Option ab_S := fun s => match s.2.1 with
  | .int i :: .ref a :: st => cond (decide (a < s.2.2.2.1)) (match s.2.2.2.2 a with
    | .inl (t2, n, .inl f) => cond (t2 == t && ab_in i n) (some (s.1, .int (f i.toNatClampNeg) :: st, s.2.2)) none
    | _ => none) none
  | _ => none
def ab_lald : ab_S → Option ab_S := fun s => match s.2.1 with
  | .int i :: .ref a :: st => cond (decide (a < s.2.2.2.1)) (match s.2.2.2.2 a with
    | .inl (t2, n, .inr (.inl f)) => cond (t2 == 2 && ab_in i n) (some (s.1, .long (f i.toNatClampNeg) :: st, s.2.2)) none
    | _ => none) none
  | _ => none
def ab_rf (r : Option Nat) : Value := match r with
  | some a => .ref a
  | none => .null
def ab_aald (t : Nat) : ab_S → Option ab_S := fun s => match s.2.1 with
  | .int i :: .ref a :: st => cond (decide (a < s.2.2.2.1)) (match s.2.2.2.2 a with
    | .inl (t2, n, .inr (.inr (.inr (.inr f)))) => cond (t2 == t && ab_in i n) (some (s.1, ab_rf (f i.toNatClampNeg) :: st, s.2.2)) none
    | _ => none) none
  | _ => none
def ab_nar (t : Nat) (x : Int32) : Int32 := match t with
  | 0 => vp_nar .byte x
  | 3 => vp_nar .boolean x
  | _ => x
def ab_ast (t : Nat) : ab_S → Option ab_S := fun s => match s.2.1 with
  | .int x :: .int i :: .ref a :: st => cond (decide (a < s.2.2.2.1)) (match s.2.2.2.2 a with
    | .inl (t2, n, .inl f) => cond (t2 == t && ab_in i n) (some (s.1, st, s.2.2.1, ab_up s.2.2.2 a (.inl (t, n, .inl (upd f i.toNatClampNeg (ab_nar t x)))))) none
    | _ => none) none
  | _ => none
def ab_last : ab_S → Option ab_S := fun s => match s.2.1 with
  | .long x :: .int i :: .ref a :: st => cond (decide (a < s.2.2.2.1)) (match s.2.2.2.2 a with
    | .inl (t2, n, .inr (.inl f)) => cond (t2 == 2 && ab_in i n) (some (s.1, st, s.2.2.1, ab_up s.2.2.2 a (.inl (2, n, .inr (.inl (vp_updL f i.toNatClampNeg x)))))) none
    | _ => none) none
  | _ => none
/-- a reference into an array of references whose class is the ci-th -/
def ab_aast (t ci : Nat) : ab_S → Option ab_S := fun s => match s.2.1 with
  | .ref v :: .int i :: .ref a :: st => cond (decide (a < s.2.2.2.1) && decide (v < s.2.2.2.1)) (match s.2.2.2.2 a with
    | .inl (t2, n, .inr (.inr (.inr (.inr f)))) => cond (t2 == t && ab_in i n && (match s.2.2.2.2 v with
      | .inr o => o.1 == ci
      | _ => false)) (some (s.1, st, s.2.2.1, ab_up s.2.2.2 a (.inl (t, n, .inr (.inr (.inr (.inr (va_up f i.toNatClampNeg (some v))))))))) none
    | _ => none) none
  | .null :: .int i :: .ref a :: st => cond (decide (a < s.2.2.2.1)) (match s.2.2.2.2 a with
    | .inl (t2, n, .inr (.inr (.inr (.inr f)))) => cond (t2 == t && ab_in i n) (some (s.1, st, s.2.2.1, ab_up s.2.2.2 a (.inl (t, n, .inr (.inr (.inr (.inr (va_up f i.toNatClampNeg none)))))))) none
    | _ => none) none
  | _ => none
def ab_alen : ab_S → Option ab_S := fun s => match s.2.1 with
  | .ref a :: st => cond (decide (a < s.2.2.2.1)) (match s.2.2.2.2 a with
    | .inl x => cond (decide (x.1 < 6)) (some (s.1, .int (Int32.ofNat x.2.1) :: st, s.2.2)) none
    | _ => none) none
  | _ => none
/-- new array of the kind t (its blank a0 by the length), MC and MS the method's room -/
def ab_newa (t : Nat) (a0 : Nat → vp_A) (MC MS : Nat) : ab_S → Option ab_S := fun s => match s.2.1 with
  | .int n :: st => cond (!(decide (n < 0)) && decide (n.toNatClampNeg ≤ 1000000) && decide (s.2.2.1.1 + 1 ≤ MC) && decide (s.2.2.1.2 + n.toNatClampNeg ≤ MS))
      (some (s.1, .ref s.2.2.2.1 :: st, (s.2.2.1.1 + 1, s.2.2.1.2 + n.toNatClampNeg), ab_push s.2.2.2 (.inl (t, a0 n.toNatClampNeg)))) none
  | _ => none
def ab_new (ci N : Nat) (fs : List Value) (MC MS : Nat) : ab_S → Option ab_S := fun s =>
  cond (decide (s.2.2.1.1 + 1 ≤ MC) && decide (s.2.2.1.2 + N ≤ MS)) (some (s.1, .ref s.2.2.2.1 :: s.2.1, (s.2.2.1.1 + 1, s.2.2.1.2 + N), ab_push s.2.2.2 (.inr (ci, fs)))) none
def ab_cats (st : List Value) : Nat := (st.map fun v => v.category).sum
/-- Object.<init> -/
def ab_obj : ab_S → Option ab_S := fun s => match s.2.1 with
  | .ref _ :: st => cond (decide (ab_cats st ≤ 8)) (some (s.1, st, s.2.2)) none
  | _ => none
/-- a call of X with nA values, the receiver (of class ci) among them where there is one -/
def ab_call (nA : Nat) (X : List Value → ab_H → Option ab_O) (mc ms MC MS : Nat) : ab_S → Option ab_S := fun s =>
  cond (decide (nA ≤ s.2.1.length) && decide (ab_cats (s.2.1.drop nA) ≤ 8) && decide (s.2.2.1.1 + mc ≤ MC) && decide (s.2.2.1.2 + ms ≤ MS))
    (match X (s.2.1.take nA).reverse s.2.2.2 with
    | some o => some (s.1, o.1.toList ++ s.2.1.drop nA, (s.2.2.1.1 + mc, s.2.2.1.2 + ms), o.2)
    | none => none) none
def ab_rcv (ci : Nat) (as : List Value) (hp : ab_H) : Bool := match as with
  | .ref a :: _ => decide (a < hp.1) && (match hp.2 a with
    | .inr o => o.1 == ci
    | _ => false)
  | _ => false
def ab_callV (nA ci : Nat) (X : List Value → ab_H → Option ab_O) (mc ms MC MS : Nat) : ab_S → Option ab_S := fun s =>
  cond (ab_rcv ci (s.2.1.take nA).reverse s.2.2.2) (ab_call nA X mc ms MC MS s) none
def ab_ret (MC MS : Nat) : ab_A := fun s => match s.2.1 with
  | [.int x] => cond (decide (s.2.2.1.1 ≤ MC) && decide (s.2.2.1.2 ≤ MS)) (some (.inr (some (.int x), s.2.2.2))) none
  | _ => none
def ab_zret (MC MS : Nat) : ab_A := fun s => match s.2.1 with
  | [.int x] => cond (decide (s.2.2.1.1 ≤ MC) && decide (s.2.2.1.2 ≤ MS) && (decide (x = 0) || decide (x = 1))) (some (.inr (some (.int x), s.2.2.2))) none
  | _ => none
def ab_vret (MC MS : Nat) : ab_A := fun s => match s.2.1 with
  | [] => cond (decide (s.2.2.1.1 ≤ MC) && decide (s.2.2.1.2 ≤ MS)) (some (.inr (none, s.2.2.2))) none
  | _ => none
def ab_max (x y : Int32) : Int32 := if x < y then y else x
def ab_min (x y : Int32) : Int32 := if y < x then y else x
/-- Math.max, Math.min: two ints -/
def ab_mm (g : Int32 → Int32 → Int32) (MC MS : Nat) : ab_S → Option ab_S := fun s => match s.2.1 with
  | .int y :: .int x :: st => cond (decide (ab_cats st ≤ 8) && decide (s.2.2.1.1 ≤ MC) && decide (s.2.2.1.2 ≤ MS)) (some (s.1, .int (g x y) :: st, s.2.2)) none
  | _ => none
/-- System.arraycopy between two arrays of ints (kind 1) or of longs (kind 2), not one and the same -/
def ab_copy : ab_S → Option ab_S := fun s => match s.2.1 with
  | .int n :: .int dp :: .ref a :: .int sp :: .ref a0 :: st =>
    cond (decide (a < s.2.2.2.1) && decide (a0 < s.2.2.2.1) && decide (ab_cats st ≤ 8) && !(decide (sp < 0)) && !(decide (dp < 0)) && !(decide (n < 0)) && decide (s.2.2.1.1 = 0))
      (match s.2.2.2.2 a0, s.2.2.2.2 a with
      | .inl (1, n0, .inl f), .inl (1, n1, .inl g) => cond (decide (sp.toNatClampNeg + n.toNatClampNeg ≤ n0) && decide (dp.toNatClampNeg + n.toNatClampNeg ≤ n1))
          (some (s.1, st, s.2.2.1, ab_up s.2.2.2 a (.inl (1, n1, .inl (va_cpy f g sp.toNatClampNeg dp.toNatClampNeg n.toNatClampNeg))))) none
      | .inl (2, n0, .inr (.inl f)), .inl (2, n1, .inr (.inl g)) => cond (decide (sp.toNatClampNeg + n.toNatClampNeg ≤ n0) && decide (dp.toNatClampNeg + n.toNatClampNeg ≤ n1))
          (some (s.1, st, s.2.2.1, ab_up s.2.2.2 a (.inl (2, n1, .inr (.inl (va_cpy f g sp.toNatClampNeg dp.toNatClampNeg n.toNatClampNeg)))))) none
      | _, _ => none) none
  | _ => none
/-- a table's jump -/
def ab_tab (lo : Int) (ts : List Nat) (dflt : Nat) : ab_A := fun s => match s.2.1 with
  | .int x :: st => some (.inl (cond (decide (x.toInt < lo)) dflt ((ts[(x.toInt - lo).toNat]?).getD dflt), s.1, st, s.2.2))
  | _ => none
end
section
/-! ===== the machine does what the steps do ===== -/
def ab_W (p : Program) (l : Launch) (e : Env) (R : Room) (s : State) (m : MethodId) (args : Array Value) (below : List Frame) (meth : Method) (c : Code) (Q : State → Prop) (b : ab_B) (D : va_G) (cl : List vw_C) (cA : Nat → ClassId) (nL pc : Nat) (σ : ab_S) : Prop :=
  ∀ (H : Heap) (locs : List Loc) (ls : Array Slot), va_P D cl (ab_w b cA σ.2.2.2) H → H.size = b.1 + σ.2.2.2.1 → va_S (fun q => b.1 ≤ q) s.heap H locs → lv_has ls nL (ab_lp b 0 σ.1) → W p l e R s m args below meth c H locs σ.2.2.1.1 σ.2.2.1.2 Q (F0 m pc ls (σ.2.1.map (ab_v b)))
def ab_ok (p : Program) (l : Launch) (e : Env) (R : Room) (s : State) (m : MethodId) (args : Array Value) (below : List Frame) (meth : Method) (c : Code) (Q : State → Prop) (b : ab_B) (D : va_G) (cl : List vw_C) (cA : Nat → ClassId) (nL : Nat) (o : ab_O) (P : Nat → Nat) (pc : Nat) (a : ab_A) : Prop :=
  ∀ σ : ab_S, (∀ (j : Nat) (σ' : ab_S), a σ = some (.inl (j, σ')) → ab_W p l e R s m args below meth c Q b D cl cA nL (P j) σ' → ab_W p l e R s m args below meth c Q b D cl cA nL pc σ) ∧ (a σ = some (.inr o) → ab_W p l e R s m args below meth c Q b D cl cA nL pc σ)
section AB
variable {p : Program} {l : Launch} {e : Env} {R : Room} {s : State} {m : MethodId} {args : Array Value} {below : List Frame} {meth : Method} {c : Code} {Q : State → Prop}
variable {b : ab_B} {D : va_G} {cl : List vw_C} {cA : Nat → ClassId} {nL : Nat} {cc : ByteArray} {P : Nat → Nat} {pc j t : Nat} {o : ab_O}
theorem ab_run_ok {T : Nat → Option ab_A} (hT : ∀ (i : Nat) (a : ab_A), T i = some a → ab_ok p l e R s m args below meth c Q b D cl cA nL o P (P i) a) : ∀ (f i : Nat) (σ : ab_S), ab_run T f i σ = some o → ab_W p l e R s m args below meth c Q b D cl cA nL (P i) σ
  | 0, i, σ, h => by cases h
  | f + 1, i, σ, h => by
    rw [ab_run] at h
    split at h
    · cases h
    · rename_i a ha
      split at h
      · cases h
      · rename_i q hq
        exact (hT i a ha σ).1 q.1 q.2 hq (ab_run_ok hT f q.1 q.2 h)
      · rename_i o' ho
        obtain rfl := Option.some.inj h
        exact (hT i a ha σ).2 ho
theorem ab_nx_ok {f : ab_S → Option ab_S} (pc' : Nat) (hj : P j = pc') (h : ∀ σ σ' : ab_S, f σ = some σ' → ab_W p l e R s m args below meth c Q b D cl cA nL pc' σ' → ab_W p l e R s m args below meth c Q b D cl cA nL pc σ) : ab_ok p l e R s m args below meth c Q b D cl cA nL o P pc (ab_nx j f) := by
  intro σ
  refine ⟨fun j' σ' h1 h2 => ?_, fun h1 => ?_⟩
  · unfold ab_nx at h1
    split at h1
    · rename_i t ht
      simp only [Option.some.injEq, Sum.inl.injEq, Prod.mk.injEq] at h1
      obtain ⟨rfl, rfl⟩ := h1
      rw [hj] at h2
      exact h σ _ ht h2
    · cases h1
  · unfold ab_nx at h1
    split at h1 <;> cases h1
theorem ab_lit_ok {v : Value} {d : Nat} (hj : P j = pc + d) (row : ∀ (H : Heap) (locs : List Loc) (cells slots : Nat) (ls : Array Slot) (rest : List Value), W p l e R s m args below meth c H locs cells slots Q (F0 m (pc + d) ls (ab_v b v :: rest)) → W p l e R s m args below meth c H locs cells slots Q (F0 m pc ls rest)) : ab_ok p l e R s m args below meth c Q b D cl cA nL o P pc (ab_nx j (ab_lit v)) := by
  refine ab_nx_ok (pc + d) hj fun σ σ' h k => ?_
  obtain rfl := Option.some.inj h
  intro H locs ls hP hz hS hl
  exact row _ _ _ _ _ _ (k H locs ls hP hz hS hl)
theorem ab_iload_ok {i d : Nat} (hj : P j = pc + d) (row : ∀ (H : Heap) (locs : List Loc) (cells slots : Nat) (ls : Array Slot) (rest : List Value) (x : Int32), ls[i]? = some (.val (.int x)) → W p l e R s m args below meth c H locs cells slots Q (F0 m (pc + d) ls (.int x :: rest)) → W p l e R s m args below meth c H locs cells slots Q (F0 m pc ls rest)) : ab_ok p l e R s m args below meth c Q b D cl cA nL o P pc (ab_nx j (ab_iload i)) := by
  refine ab_nx_ok (pc + d) hj fun σ σ' h k => ?_
  unfold ab_iload at h
  split at h
  · rename_i x hx
    obtain rfl := Option.some.inj h
    intro H locs ls hP hz hS hl
    exact row _ _ _ _ _ _ x (ab_ld hl hx) (k H locs ls hP hz hS hl)
  · cases h
theorem ab_lload_ok {i d : Nat} (hj : P j = pc + d) (row : ∀ (H : Heap) (locs : List Loc) (cells slots : Nat) (ls : Array Slot) (rest : List Value) (x : Int64), ls[i]? = some (.val (.long x)) → W p l e R s m args below meth c H locs cells slots Q (F0 m (pc + d) ls (.long x :: rest)) → W p l e R s m args below meth c H locs cells slots Q (F0 m pc ls rest)) : ab_ok p l e R s m args below meth c Q b D cl cA nL o P pc (ab_nx j (ab_lload i)) := by
  refine ab_nx_ok (pc + d) hj fun σ σ' h k => ?_
  unfold ab_lload at h
  split at h
  · rename_i x hx
    obtain rfl := Option.some.inj h
    intro H locs ls hP hz hS hl
    exact row _ _ _ _ _ _ x (ab_ld hl hx) (k H locs ls hP hz hS hl)
  · cases h
theorem ab_aload_ok {i d : Nat} (hj : P j = pc + d) (row : ∀ (H : Heap) (locs : List Loc) (cells slots : Nat) (ls : Array Slot) (rest : List Value) (x : Nat), ls[i]? = some (.val (.ref x)) → W p l e R s m args below meth c H locs cells slots Q (F0 m (pc + d) ls (.ref x :: rest)) → W p l e R s m args below meth c H locs cells slots Q (F0 m pc ls rest))
    (rowN : ∀ (H : Heap) (locs : List Loc) (cells slots : Nat) (ls : Array Slot) (rest : List Value), ls[i]? = some (.val .null) → W p l e R s m args below meth c H locs cells slots Q (F0 m (pc + d) ls (.null :: rest)) → W p l e R s m args below meth c H locs cells slots Q (F0 m pc ls rest)) : ab_ok p l e R s m args below meth c Q b D cl cA nL o P pc (ab_nx j (ab_aload i)) := by
  refine ab_nx_ok (pc + d) hj fun σ σ' h k => ?_
  unfold ab_aload at h
  split at h
  · rename_i x hx
    obtain rfl := Option.some.inj h
    intro H locs ls hP hz hS hl
    exact row _ _ _ _ _ _ _ (ab_ld hl hx) (k H locs ls hP hz hS hl)
  · rename_i x hx
    obtain rfl := Option.some.inj h
    intro H locs ls hP hz hS hl
    exact row _ _ _ _ _ _ _ (ab_ld hl hx) (k H locs ls hP hz hS hl)
  · rename_i hx
    obtain rfl := Option.some.inj h
    intro H locs ls hP hz hS hl
    exact rowN _ _ _ _ _ _ (ab_ld hl hx) (k H locs ls hP hz hS hl)
  · cases h
theorem ab_istore_ok {i d : Nat} (hj : P j = pc + d) (row : ∀ (H : Heap) (locs : List Loc) (cells slots : Nat) (ls : Array Slot) (rest : List Value) (x : Int32) (lv : List (Nat × Value)), lv_has ls nL lv → (∀ ls' : Array Slot, lv_has ls' nL ((i, Value.int x) :: lv.filter (fun q => !(q.1 == i) && !(q.1 + 1 == i && q.2.category == 2))) → W p l e R s m args below meth c H locs cells slots Q (F0 m (pc + d) ls' rest)) → W p l e R s m args below meth c H locs cells slots Q (F0 m pc ls (.int x :: rest))) : ab_ok p l e R s m args below meth c Q b D cl cA nL o P pc (ab_nx j (ab_istore i)) := by
  refine ab_nx_ok (pc + d) hj fun σ σ' h k => ?_
  obtain ⟨lo, st, r⟩ := σ
  unfold ab_istore at h
  dsimp only at h
  split at h
  · rename_i x st'
    cases hf : ab_fr lo i with
    | false => rw [hf] at h; cases h
    | true =>
      rw [hf] at h
      obtain rfl := Option.some.inj h
      intro H locs ls hP hz hS hl
      exact row _ _ _ _ _ _ x _ hl fun ls' h' => k H locs ls' hP hz hS (ab_st1 hf h')
  · cases h
theorem ab_lstore_ok {i d : Nat} (hj : P j = pc + d) (row : ∀ (H : Heap) (locs : List Loc) (cells slots : Nat) (ls : Array Slot) (rest : List Value) (x : Int64) (lv : List (Nat × Value)), lv_has ls nL lv → (∀ ls' : Array Slot, lv_has ls' nL ((i, Value.long x) :: lv.filter (fun q => !(q.1 == i) && (!(q.1 == i + 1) && !(q.1 + 1 == i && q.2.category == 2)))) → W p l e R s m args below meth c H locs cells slots Q (F0 m (pc + d) ls' rest)) → W p l e R s m args below meth c H locs cells slots Q (F0 m pc ls (.long x :: rest))) : ab_ok p l e R s m args below meth c Q b D cl cA nL o P pc (ab_nx j (ab_lstore i)) := by
  refine ab_nx_ok (pc + d) hj fun σ σ' h k => ?_
  obtain ⟨lo, st, r⟩ := σ
  unfold ab_lstore at h
  dsimp only at h
  split at h
  · rename_i x st'
    cases hf : ab_fr lo i with
    | false => rw [hf] at h; cases h
    | true =>
      rw [hf] at h
      obtain rfl := Option.some.inj h
      intro H locs ls hP hz hS hl
      exact row _ _ _ _ _ _ x _ hl fun ls' h' => k H locs ls' hP hz hS (ab_st2 hf h')
  · cases h
theorem ab_astore_ok {i d : Nat} (hj : P j = pc + d) (row : ∀ (H : Heap) (locs : List Loc) (cells slots : Nat) (ls : Array Slot) (rest : List Value) (x : Nat) (lv : List (Nat × Value)), lv_has ls nL lv → (∀ ls' : Array Slot, lv_has ls' nL ((i, Value.ref x) :: lv.filter (fun q => !(q.1 == i) && !(q.1 + 1 == i && q.2.category == 2))) → W p l e R s m args below meth c H locs cells slots Q (F0 m (pc + d) ls' rest)) → W p l e R s m args below meth c H locs cells slots Q (F0 m pc ls (.ref x :: rest)))
    (rowN : ∀ (H : Heap) (locs : List Loc) (cells slots : Nat) (ls : Array Slot) (rest : List Value) (lv : List (Nat × Value)), lv_has ls nL lv → (∀ ls' : Array Slot, lv_has ls' nL ((i, Value.null) :: lv.filter (fun q => !(q.1 == i) && !(q.1 + 1 == i && q.2.category == 2))) → W p l e R s m args below meth c H locs cells slots Q (F0 m (pc + d) ls' rest)) → W p l e R s m args below meth c H locs cells slots Q (F0 m pc ls (.null :: rest))) : ab_ok p l e R s m args below meth c Q b D cl cA nL o P pc (ab_nx j (ab_astore i)) := by
  refine ab_nx_ok (pc + d) hj fun σ σ' h k => ?_
  obtain ⟨lo, st, r⟩ := σ
  unfold ab_astore at h
  dsimp only at h
  split at h
  · rename_i x st'
    cases hf : ab_fr lo i with
    | false => rw [hf] at h; cases h
    | true =>
      rw [hf] at h
      obtain rfl := Option.some.inj h
      intro H locs ls hP hz hS hl
      exact row _ _ _ _ _ _ _ _ hl fun ls' h' => k H locs ls' hP hz hS (ab_st1 (v := .ref x) hf h')
  · rename_i st'
    cases hf : ab_fr lo i with
    | false => rw [hf] at h; cases h
    | true =>
      rw [hf] at h
      obtain rfl := Option.some.inj h
      intro H locs ls hP hz hS hl
      exact rowN _ _ _ _ _ _ _ hl fun ls' h' => k H locs ls' hP hz hS (ab_st1 (v := .null) hf h')
  · cases h
theorem ab_iinc_ok {i : Nat} {n : Int} {v : Int32} (hx : p.tables.exec = Jvm.exec) (hb : c.code = cc) (hd : decode cc pc = .ok (.iinc i n, 3)) (hv : Int32.ofInt n = v) (hi : i < nL) (hj : P j = pc + 3) : ab_ok p l e R s m args below meth c Q b D cl cA nL o P pc (ab_nx j (ab_iinc i v)) := by
  subst hv
  refine ab_nx_ok (pc + 3) hj fun σ σ' h k => ?_
  obtain ⟨lo, st, r⟩ := σ
  unfold ab_iinc at h
  dsimp only at h
  split at h
  · rename_i x hlo
    cases hf : ab_fr lo i with
    | false => rw [hf] at h; cases h
    | true =>
      rw [hf] at h
      obtain rfl := Option.some.inj h
      intro H locs ls hP hz hS hl
      obtain ⟨q, hq⟩ := List.getElem?_of_mem ((ab_lp_mem (b := b) lo 0 (i, .int x)).mpr ⟨i, .int x, hlo, by simp [ab_v]⟩)
      exact lv_iinc hx hb hd hl hq rfl hi rfl fun ls' h' => k H locs ls' hP hz hS (ab_st1 (v := .int (x + Int32.ofInt n)) hf h')
  · cases h
theorem ab_bin_ok {g : Int32 → Int32 → Int32} (hj : P j = pc + 1) (row : ∀ (H : Heap) (locs : List Loc) (cells slots : Nat) (ls : Array Slot) (rest : List Value) (x y : Int32), W p l e R s m args below meth c H locs cells slots Q (F0 m (pc + 1) ls (.int (g x y) :: rest)) → W p l e R s m args below meth c H locs cells slots Q (F0 m pc ls (.int y :: .int x :: rest))) : ab_ok p l e R s m args below meth c Q b D cl cA nL o P pc (ab_nx j (ab_bin g)) := by
  refine ab_nx_ok (pc + 1) hj fun σ σ' h k => ?_
  obtain ⟨lo, st, r⟩ := σ
  unfold ab_bin at h
  dsimp only at h
  split at h
  · obtain rfl := Option.some.inj h
    intro H locs ls hP hz hS hl
    exact row _ _ _ _ _ _ _ _ (k H locs ls hP hz hS hl)
  · cases h
theorem ab_irem_ok (hx : p.tables.exec = Jvm.exec) (hb : c.code = cc) (hd : decode cc pc = .ok (.irem, 1)) (hj : P j = pc + 1) : ab_ok p l e R s m args below meth c Q b D cl cA nL o P pc (ab_nx j ab_irem) := by
  refine ab_nx_ok (pc + 1) hj fun σ σ' h k => ?_
  obtain ⟨lo, st, r⟩ := σ
  unfold ab_irem at h
  dsimp only at h
  split at h
  · rename_i y x st'
    by_cases hy : y = 0
    · rw [decide_eq_true hy] at h; cases h
    · rw [decide_eq_false hy] at h
      obtain rfl := Option.some.inj h
      intro H locs ls hP hz hS hl
      exact lv_irem hx hb hd hy (k H locs ls hP hz hS hl)
  · cases h
theorem ab_un_ok {g : Int32 → Int32} (hj : P j = pc + 1) (row : ∀ (H : Heap) (locs : List Loc) (cells slots : Nat) (ls : Array Slot) (rest : List Value) (x : Int32), W p l e R s m args below meth c H locs cells slots Q (F0 m (pc + 1) ls (.int (g x) :: rest)) → W p l e R s m args below meth c H locs cells slots Q (F0 m pc ls (.int x :: rest))) : ab_ok p l e R s m args below meth c Q b D cl cA nL o P pc (ab_nx j (ab_un g)) := by
  refine ab_nx_ok (pc + 1) hj fun σ σ' h k => ?_
  obtain ⟨lo, st, r⟩ := σ
  unfold ab_un at h
  dsimp only at h
  split at h
  · obtain rfl := Option.some.inj h
    intro H locs ls hP hz hS hl
    exact row _ _ _ _ _ _ _ (k H locs ls hP hz hS hl)
  · cases h
theorem ab_lbin_ok {g : Int64 → Int64 → Int64} (hj : P j = pc + 1) (row : ∀ (H : Heap) (locs : List Loc) (cells slots : Nat) (ls : Array Slot) (rest : List Value) (x y : Int64), W p l e R s m args below meth c H locs cells slots Q (F0 m (pc + 1) ls (.long (g x y) :: rest)) → W p l e R s m args below meth c H locs cells slots Q (F0 m pc ls (.long y :: .long x :: rest))) : ab_ok p l e R s m args below meth c Q b D cl cA nL o P pc (ab_nx j (ab_lbin g)) := by
  refine ab_nx_ok (pc + 1) hj fun σ σ' h k => ?_
  obtain ⟨lo, st, r⟩ := σ
  unfold ab_lbin at h
  dsimp only at h
  split at h
  · obtain rfl := Option.some.inj h
    intro H locs ls hP hz hS hl
    exact row _ _ _ _ _ _ _ _ (k H locs ls hP hz hS hl)
  · cases h
theorem ab_lsh_ok {g : Int64 → Int32 → Int64} (hj : P j = pc + 1) (row : ∀ (H : Heap) (locs : List Loc) (cells slots : Nat) (ls : Array Slot) (rest : List Value) (x : Int64) (y : Int32), W p l e R s m args below meth c H locs cells slots Q (F0 m (pc + 1) ls (.long (g x y) :: rest)) → W p l e R s m args below meth c H locs cells slots Q (F0 m pc ls (.int y :: .long x :: rest))) : ab_ok p l e R s m args below meth c Q b D cl cA nL o P pc (ab_nx j (ab_lsh g)) := by
  refine ab_nx_ok (pc + 1) hj fun σ σ' h k => ?_
  obtain ⟨lo, st, r⟩ := σ
  unfold ab_lsh at h
  dsimp only at h
  split at h
  · obtain rfl := Option.some.inj h
    intro H locs ls hP hz hS hl
    exact row _ _ _ _ _ _ _ _ (k H locs ls hP hz hS hl)
  · cases h
theorem ab_lcmp_ok (hx : p.tables.exec = Jvm.exec) (hb : c.code = cc) (hd : decode cc pc = .ok (.lcmp, 1)) (hj : P j = pc + 1) : ab_ok p l e R s m args below meth c Q b D cl cA nL o P pc (ab_nx j ab_lcmp) := by
  refine ab_nx_ok (pc + 1) hj fun σ σ' h k => ?_
  obtain ⟨lo, st, r⟩ := σ
  unfold ab_lcmp at h
  dsimp only at h
  split at h
  · obtain rfl := Option.some.inj h
    intro H locs ls hP hz hS hl
    exact W.lcmp hx hb hd (k H locs ls hP hz hS hl)
  · cases h
theorem ab_i2l_ok (hx : p.tables.exec = Jvm.exec) (hb : c.code = cc) (hd : decode cc pc = .ok (.i2l, 1)) (hj : P j = pc + 1) : ab_ok p l e R s m args below meth c Q b D cl cA nL o P pc (ab_nx j ab_i2l) := by
  refine ab_nx_ok (pc + 1) hj fun σ σ' h k => ?_
  obtain ⟨lo, st, r⟩ := σ
  unfold ab_i2l at h
  dsimp only at h
  split at h
  · obtain rfl := Option.some.inj h
    intro H locs ls hP hz hS hl
    exact lv_i2l hx hb hd rfl (k H locs ls hP hz hS hl)
  · cases h
theorem ab_l2i_ok (hx : p.tables.exec = Jvm.exec) (hb : c.code = cc) (hd : decode cc pc = .ok (.l2i, 1)) (hj : P j = pc + 1) : ab_ok p l e R s m args below meth c Q b D cl cA nL o P pc (ab_nx j ab_l2i) := by
  refine ab_nx_ok (pc + 1) hj fun σ σ' h k => ?_
  obtain ⟨lo, st, r⟩ := σ
  unfold ab_l2i at h
  dsimp only at h
  split at h
  · obtain rfl := Option.some.inj h
    intro H locs ls hP hz hS hl
    exact lv_l2i hx hb hd rfl (k H locs ls hP hz hS hl)
  · cases h
theorem ab_c1_ok {v : Value} (h : ab_c1 v = true) : (ab_v b v).category = 1 := by cases v <;> first | rfl | cases h
theorem ab_dup_ok (hx : p.tables.exec = Jvm.exec) (hb : c.code = cc) (hd : decode cc pc = .ok (.dup, 1)) (hj : P j = pc + 1) : ab_ok p l e R s m args below meth c Q b D cl cA nL o P pc (ab_nx j ab_dup) := by
  refine ab_nx_ok (pc + 1) hj fun σ σ' h k => ?_
  obtain ⟨lo, st, r⟩ := σ
  unfold ab_dup at h
  dsimp only at h
  split at h
  · rename_i v st'
    cases hf : ab_c1 v with
    | false => rw [hf] at h; cases h
    | true =>
      rw [hf] at h
      obtain rfl := Option.some.inj h
      intro H locs ls hP hz hS hl
      exact lv_dup hx hb hd (ab_c1_ok hf) (k H locs ls hP hz hS hl)
  · cases h
theorem ab_dup2_ok (hx : p.tables.exec = Jvm.exec) (hb : c.code = cc) (hd : decode cc pc = .ok (.dup2, 1)) (hj : P j = pc + 1) : ab_ok p l e R s m args below meth c Q b D cl cA nL o P pc (ab_nx j ab_dup2) := by
  refine ab_nx_ok (pc + 1) hj fun σ σ' h k => ?_
  obtain ⟨lo, st, r⟩ := σ
  unfold ab_dup2 at h
  dsimp only at h
  split at h
  · rename_i v w st'
    cases hf : (ab_c1 v && ab_c1 w) with
    | false => rw [hf] at h; cases h
    | true =>
      rw [hf] at h
      obtain rfl := Option.some.inj h
      rw [Bool.and_eq_true] at hf
      intro H locs ls hP hz hS hl
      exact lv_dup2_11 hx hb hd (ab_c1_ok hf.1) (ab_c1_ok hf.2) (k H locs ls hP hz hS hl)
  · cases h
theorem ab_pop_ok (hx : p.tables.exec = Jvm.exec) (hb : c.code = cc) (hd : decode cc pc = .ok (.pop, 1)) (hj : P j = pc + 1) : ab_ok p l e R s m args below meth c Q b D cl cA nL o P pc (ab_nx j ab_pop) := by
  refine ab_nx_ok (pc + 1) hj fun σ σ' h k => ?_
  obtain ⟨lo, st, r⟩ := σ
  unfold ab_pop at h
  dsimp only at h
  split at h
  · rename_i v st'
    cases hf : ab_c1 v with
    | false => rw [hf] at h; cases h
    | true =>
      rw [hf] at h
      obtain rfl := Option.some.inj h
      intro H locs ls hP hz hS hl
      exact lv_pop hx hb hd (ab_c1_ok hf) (k H locs ls hP hz hS hl)
  · cases h
theorem ab_if_ok {g : Int32 → Bool} {tg : Nat} (hj : P j = pc + 3) (ht : P t = tg) (row : ∀ (H : Heap) (locs : List Loc) (cells slots : Nat) (ls : Array Slot) (rest : List Value) (x : Int32), (g x = true → W p l e R s m args below meth c H locs cells slots Q (F0 m tg ls rest)) → (g x = false → W p l e R s m args below meth c H locs cells slots Q (F0 m (pc + 3) ls rest)) → W p l e R s m args below meth c H locs cells slots Q (F0 m pc ls (.int x :: rest))) : ab_ok p l e R s m args below meth c Q b D cl cA nL o P pc (ab_if j t g) := by
  subst ht
  intro σ
  obtain ⟨lo, st, r⟩ := σ
  unfold ab_if
  dsimp only
  refine ⟨fun j' σ' h1 h2 => ?_, fun h1 => ?_⟩
  · split at h1
    · rename_i x st'
      simp only [Option.some.injEq, Sum.inl.injEq, Prod.mk.injEq] at h1
      obtain ⟨rfl, rfl⟩ := h1
      intro H locs ls hP hz hS hl
      refine row _ _ _ _ _ _ x (fun hg => ?_) (fun hg => ?_)
      · rw [hg] at h2
        exact h2 H locs ls hP hz hS hl
      · rw [hg] at h2
        rw [← hj]
        exact h2 H locs ls hP hz hS hl
    · cases h1
  · split at h1 <;> cases h1
theorem ab_icmp_ok {g : Int32 → Int32 → Bool} {tg : Nat} (hj : P j = pc + 3) (ht : P t = tg) (row : ∀ (H : Heap) (locs : List Loc) (cells slots : Nat) (ls : Array Slot) (rest : List Value) (x y : Int32), (g x y = true → W p l e R s m args below meth c H locs cells slots Q (F0 m tg ls rest)) → (g x y = false → W p l e R s m args below meth c H locs cells slots Q (F0 m (pc + 3) ls rest)) → W p l e R s m args below meth c H locs cells slots Q (F0 m pc ls (.int y :: .int x :: rest))) : ab_ok p l e R s m args below meth c Q b D cl cA nL o P pc (ab_icmp j t g) := by
  subst ht
  intro σ
  obtain ⟨lo, st, r⟩ := σ
  unfold ab_icmp
  dsimp only
  refine ⟨fun j' σ' h1 h2 => ?_, fun h1 => ?_⟩
  · split at h1
    · rename_i y x st'
      simp only [Option.some.injEq, Sum.inl.injEq, Prod.mk.injEq] at h1
      obtain ⟨rfl, rfl⟩ := h1
      intro H locs ls hP hz hS hl
      refine row _ _ _ _ _ _ x y (fun hg => ?_) (fun hg => ?_)
      · rw [hg] at h2
        exact h2 H locs ls hP hz hS hl
      · rw [hg] at h2
        rw [← hj]
        exact h2 H locs ls hP hz hS hl
    · cases h1
  · split at h1 <;> cases h1
theorem ab_nonnull_ok {off : Int} {tg : Nat} (hx : p.tables.exec = Jvm.exec) (hb : c.code = cc) (hd : decode cc pc = .ok (.ifnonnull off, 3)) (ho : (pc : Int) + off = (tg : Int)) (hj : P j = pc + 3) (ht : P t = tg) : ab_ok p l e R s m args below meth c Q b D cl cA nL o P pc (ab_nonnull j t) := by
  subst ht
  intro σ
  obtain ⟨lo, st, r⟩ := σ
  unfold ab_nonnull
  dsimp only
  refine ⟨fun j' σ' h1 h2 => ?_, fun h1 => ?_⟩
  · split at h1
    · simp only [Option.some.injEq, Sum.inl.injEq, Prod.mk.injEq] at h1
      obtain ⟨rfl, rfl⟩ := h1
      intro H locs ls hP hz hS hl
      exact lv_ifnonnull hx hb hd ho (h2 H locs ls hP hz hS hl)
    · simp only [Option.some.injEq, Sum.inl.injEq, Prod.mk.injEq] at h1
      obtain ⟨rfl, rfl⟩ := h1
      rw [hj] at h2
      intro H locs ls hP hz hS hl
      exact lv_ifnonnullN hx hb hd (h2 H locs ls hP hz hS hl)
    · cases h1
  · split at h1 <;> cases h1
theorem ab_goto_ok {off : Int} {tg : Nat} (hx : p.tables.exec = Jvm.exec) (hb : c.code = cc) (hd : decode cc pc = .ok (.goto off, 3)) (ho : (pc : Int) + off = (tg : Int)) (ht : P t = tg) : ab_ok p l e R s m args below meth c Q b D cl cA nL o P pc (ab_goto t) := by
  subst ht
  intro σ
  refine ⟨fun j' σ' h1 h2 => ?_, fun h1 => by cases h1⟩
  simp only [ab_goto, Option.some.injEq, Sum.inl.injEq, Prod.mk.injEq] at h1
  obtain ⟨rfl, rfl⟩ := h1
  intro H locs ls hP hz hS hl
  exact lv_goto hx hb hd ho (h2 H locs ls hP hz hS hl)
end AB
end
section
/-! ===== steps at the heap ===== -/
def ab_tys (cA : Nat → ClassId) : List (ClassId × FieldType) := [(cA 0, .byte), (cA 1, .int), (cA 2, .long), (cA 3, .boolean), (cA 4, .object "LackFerry$Image"), (cA 5, .object "LackFerry$Shores")]
theorem ab_in_ok {i : Int32} {n : Nat} (h : ab_in i n = true) : vp_in i n := by
  simp only [ab_in, Bool.and_eq_true, Bool.not_eq_true', decide_eq_false_iff_not, decide_eq_true_eq] at h
  exact fun q => q.elim h.1 (fun q => Nat.not_le.mpr h.2 q)
theorem ab_cond {α : Type} {x : Bool} {a : α} {y : α} (h : cond x (some a) none = some y) : x = true ∧ a = y := by
  cases x with
  | false => cases h
  | true => exact ⟨rfl, Option.some.inj h⟩
theorem ab_condN {α : Type} {x : Bool} {a : Option α} {y : α} (h : cond x a none = some y) : x = true ∧ a = some y := by
  cases x with
  | false => cases h
  | true => exact ⟨rfl, h⟩
section AB
variable {p : Program} {l : Launch} {e : Env} {R : Room} {s : State} {m : MethodId} {args : Array Value} {below : List Frame} {meth : Method} {c : Code} {Q : State → Prop}
variable {b : ab_B} {D : va_G} {cl : List vw_C} {cA : Nat → ClassId} {nL : Nat} {cc : ByteArray} {P : Nat → Nat} {pc j t : Nat} {o : ab_O}
theorem ab_set {hp : ab_H} {k i : Nat} {x : ab_E} {y : va_E} {H H1 : Heap} {locs : List Loc} (hP : va_P D cl (ab_w b cA hp) H) (hz : H.size = b.1 + hp.1) (hS : va_S (fun q => b.1 ≤ q) s.heap H locs) (hk : k < hp.1) (hy : ab_e b cA x = y)
    (he : va_at D cl (b.1 + k, y) H1) (z : H1.size = H.size) (oq : ∀ q : Nat, q ≠ b.1 + k → H1[q]? = H[q]?) : va_P D cl (ab_w b cA (ab_up hp k x)) H1 ∧ H1.size = b.1 + hp.1 ∧ va_S (fun q => b.1 ≤ q) s.heap H1 (locs ++ [⟨b.1 + k, i⟩]) := by
  refine ⟨?_, z.trans hz, hS.put z oq (Nat.le_add_right _ _)⟩
  rw [← ab_w_up hy]
  exact hP.set (A := fun q => b.1 ≤ q) ab_w_D (ab_w_at hk) he oq
theorem ab_getf_ok {own C : String} {T : u_T} {N ci index k : Nat} {Ts : List Cond} {tys : List (ClassId × FieldType)} (hx : p.tables.exec = Jvm.exec) (hb : c.code = cc) (hts : ∀ w ∈ Ts, w.before args s = true) (hown : s.vm.findClass own = some m.cls) (hK : va_K D cl tys s)
    (hin : ∀ w ∈ u_ws C T N, w ∈ Ts) (hc : cl[ci]? = some (C, T, N)) (hk : k < N) (hlink : Cond.fieldLink own index (T k).1 (T k).2.1 (T k).2.2.1 ∈ Ts) (hd : decode cc pc = .ok (.getfield index, 3)) (hj : P j = pc + 3) : ab_ok p l e R s m args below meth c Q b D cl cA nL o P pc (ab_nx j (ab_getf ci k)) := by
  refine ab_nx_ok (pc + 3) hj fun σ σ' h kk => ?_
  obtain ⟨lo, st, u, hp⟩ := σ
  unfold ab_getf at h
  dsimp only at h
  split at h
  · rename_i a st'
    obtain ⟨h1, h⟩ := ab_condN h
    have ha := of_decide_eq_true h1
    split at h
    · rename_i q hq
      obtain ⟨h2, h⟩ := ab_condN h
      have hci : q.1 = ci := by simpa using h2
      split at h
      · rename_i v hv
        obtain rfl := Option.some.inj h
        intro H locs ls hP hz hS hl
        have he : (ab_w b cA hp)[a]? = some (b.1 + a, .inr (ci, q.2.map (ab_v b))) := by rw [ab_w_at ha, hq, ← hci]; rfl
        exact va_get (v := ab_v b v) hx hb hts hin hown hK hP a he hc k hk (hts _ hlink) (fun _ h9 => h9) (by rw [List.getElem?_map, hv]; rfl) hd (kk H locs ls hP hz hS hl)
      · cases h
    · cases h
  · cases h
theorem ab_fit_ok {kd : Nat} {v : Value} {ty : FieldType} (h : ab_fit kd v = true) (hk : (kd = 0 ∧ ty = .int) ∨ (kd = 1 ∧ ty = .long) ∨ (kd = 2 ∧ ((∃ C, ty = .object C) ∨ ∃ u, ty = .array u)) ∨ (kd = 3 ∧ ty = .boolean)) : narrow ty (ab_v b v) = ab_v b v ∧ fits ty (ab_v b v) = true := by
  rcases hk with ⟨rfl, rfl⟩ | ⟨rfl, rfl⟩ | ⟨rfl, hk⟩ | ⟨rfl, rfl⟩
  · cases v <;> first | exact ⟨rfl, rfl⟩ | cases h
  · cases v <;> first | exact ⟨rfl, rfl⟩ | cases h
  · rcases hk with ⟨C, rfl⟩ | ⟨u, rfl⟩ <;> cases v <;> first | exact ⟨rfl, rfl⟩ | cases h
  · cases v with
    | int x =>
      have h' : (decide (x = 0) || decide (x = 1)) = true := h
      rw [Bool.or_eq_true, decide_eq_true_eq, decide_eq_true_eq] at h'
      rcases h' with rfl | rfl
      · exact ⟨(by decide : narrow .boolean (.int 0) = .int 0), (by decide : fits .boolean (.int 0) = true)⟩
      · exact ⟨(by decide : narrow .boolean (.int 1) = .int 1), (by decide : fits .boolean (.int 1) = true)⟩
    | _ => cases h
theorem ab_putf_ok {own C : String} {T : u_T} {N ci index k kd : Nat} {Ts : List Cond} {tys : List (ClassId × FieldType)} {ty : FieldType} (hx : p.tables.exec = Jvm.exec) (hb : c.code = cc) (hts : ∀ w ∈ Ts, w.before args s = true) (hown : s.vm.findClass own = some m.cls) (hK : va_K D cl tys s)
    (hin : ∀ w ∈ u_ws C T N, w ∈ Ts) (ty0 : Nat → FieldType) (hty : ∀ k, k < N → parseFieldDescriptor (T k).2.2.1 = some (ty0 k)) (hnm : ∀ a, a < N → ∀ b, b < N → a ≠ b → (T a).2.1 ≠ (T b).2.1) (hc : cl[ci]? = some (C, T, N)) (hk : k < N) (hlink : Cond.fieldLink own index (T k).1 (T k).2.1 (T k).2.2.1 ∈ Ts)
    (hfin : (T k).2.2.2 = false ∨ ((T k).2.2.2 = true ∧ meth.name = "<init>" ∧ (T k).1 = own)) (hd0 : ty0 k = ty) (hkd : (kd = 0 ∧ ty = .int) ∨ (kd = 1 ∧ ty = .long) ∨ (kd = 2 ∧ ((∃ C, ty = .object C) ∨ ∃ u, ty = .array u)) ∨ (kd = 3 ∧ ty = .boolean))
    (hd : decode cc pc = .ok (.putfield index, 3)) (hj : P j = pc + 3) : ab_ok p l e R s m args below meth c Q b D cl cA nL o P pc (ab_nx j (ab_putf ci k kd)) := by
  refine ab_nx_ok (pc + 3) hj fun σ σ' h kk => ?_
  obtain ⟨lo, st, u, hp⟩ := σ
  unfold ab_putf at h
  dsimp only at h
  split at h
  · rename_i v a st'
    obtain ⟨h1, h⟩ := ab_condN h
    rw [Bool.and_eq_true] at h1
    have ha := of_decide_eq_true h1.1
    split at h
    · rename_i q hq
      obtain ⟨h2, rfl⟩ := ab_cond h
      rw [Bool.and_eq_true] at h2
      have hci : q.1 = ci := by simpa using h2.1
      have hkl := of_decide_eq_true h2.2
      intro H locs ls hP hz hS hl
      have he : (ab_w b cA hp)[a]? = some (b.1 + a, .inr (ci, q.2.map (ab_v b))) := by rw [ab_w_at ha, hq, ← hci]; rfl
      obtain ⟨hn, hfit⟩ := ab_fit_ok (b := b) h1.2 hkd
      have hdt : parseFieldDescriptor (T k).2.2.1 = some ty := by rw [hty k hk, hd0]
      have hap := va_apart (own := own) hts hin ty0 hty hnm hK hc
      obtain ⟨r, g1, cell, q1, q2, q3, q4⟩ := hP a _ he
      have hr : r = (C, T, N) := Option.some.inj (g1.symm.trans hc)
      subst hr
      obtain ⟨hSl, hfc, kC, hkC, hkind⟩ := hK.1 ci _ hc
      obtain ⟨cf, kf, fi, f, hi, hsl⟩ := hSl k hk
      have hlay := hts _ (hin _ (u_in_lay hk))
      unfold u_lay at hlay
      have hst := (u_facts hfc hkC (u_lays hts hin hk) hi).1
      have fin : ∀ H1 : Heap, H1[b.1 + a]? = some (cell.setSlot f.slot (ab_v b v)) → H1.size = H.size → (∀ q : Nat, q ≠ b.1 + a → H1[q]? = H[q]?) → W p l e R s m args below meth c H1 (locs ++ [⟨b.1 + a, f.slot⟩]) u.1 u.2 Q (F0 m (pc + 3) ls (st'.map (ab_v b))) := by
        intro H1 e1 e2 e3
        rw [hsl] at e1
        have hat : va_at D cl (b.1 + a, .inr (ci, (q.2.map (ab_v b)).set k (ab_v b v))) H1 := ⟨_, hc, t_OB.to (V := updV (vp_V (q.2.map (ab_v b))) k (ab_v b v)) ⟨_, e1, q2, q3, t_set q4 hap hk _⟩ (fun j _ => vp_updV_set (by simpa using hkl) _ j)⟩
        obtain ⟨a1, a2, a3⟩ := ab_set (s := s) (x := .inr (ci, q.2.set k v)) (i := f.slot) hP hz hS ha (by show Sum.inr (ci, (q.2.set k v).map (ab_v b)) = _; rw [List.map_set]) hat e2 e3
        exact kk H1 _ ls a1 a2 a3 hl
      rcases hfin with hfin | ⟨hfin, hini, hdecl⟩
      · rw [if_neg (by rw [hfin]; decide)] at hlay
        have h6 := u_store hfc hkC hkind hlay hi hdt hn hfit
        exact W.putK hx hb (f := f) ⟨hown, hts _ hlink, ⟨_, _, _, hi⟩, hst⟩ (by rw [q2]; exact h6) q1 q3 (by rw [hsl]; exact k2_hasslot (q4 k hk)) rfl rfl hd fin
      · rw [if_pos hfin] at hlay
        have hcf : m.cls = cf := by
          obtain ⟨_, _, c', _, _, _, -, -, hf', -, -, -, hown2, -⟩ := Cond.laysFinal_spec hlay
          have e1 : c' = cf := by have := hi.symm.trans hf'; simp at this; exact this.1.symm
          rw [hdecl] at hown2
          rw [← e1]; exact Option.some.inj (hown.symm.trans hown2)
        have h6 := u_fits hfc hkC hkind (Or.inr hlay) hi hdt hn hfit
        exact W.putFinK hx hb hown (hts _ hlink) hi hst hcf hini (by rw [q2]; exact h6) q1 q3 (by rw [hsl]; exact k2_hasslot (q4 k hk)) rfl rfl hd fin
    · cases h
  · cases h
theorem ab_ald_ok {t0 : Nat} (hj : P j = pc + 1) (row : ∀ (hp : ab_H) (H : Heap) (locs : List Loc) (cells slots : Nat) (ls : Array Slot) (rest : List Value) (a n : Nat) (f : Nat → Int32) (i : Int32), va_P D cl (ab_w b cA hp) H → (ab_w b cA hp)[a]? = some (b.1 + a, .inl (cA t0, n, .inl f)) → vp_in i n → W p l e R s m args below meth c H locs cells slots Q (F0 m (pc + 1) ls (.int (f i.toNatClampNeg) :: rest)) → W p l e R s m args below meth c H locs cells slots Q (F0 m pc ls (.int i :: .ref (b.1 + a) :: rest))) : ab_ok p l e R s m args below meth c Q b D cl cA nL o P pc (ab_nx j (ab_ald t0)) := by
  refine ab_nx_ok (pc + 1) hj fun σ σ' h kk => ?_
  obtain ⟨lo, st, u, hp⟩ := σ
  unfold ab_ald at h
  dsimp only at h
  split at h
  · rename_i i a st'
    obtain ⟨h1, h⟩ := ab_condN h
    have ha := of_decide_eq_true h1
    split at h
    · rename_i t2 n f hq
      obtain ⟨h2, rfl⟩ := ab_cond h
      rw [Bool.and_eq_true] at h2
      have ht2 : t2 = t0 := by simpa using h2.1
      subst ht2
      intro H locs ls hP hz hS hl
      exact row hp H _ _ _ ls _ a n f i hP (by rw [ab_w_at ha, hq]; rfl) (ab_in_ok h2.2) (kk H locs ls hP hz hS hl)
    · cases h
  · cases h
theorem ab_lald_ok (hx : p.tables.exec = Jvm.exec) (hb : c.code = cc) (hK : va_K D cl (ab_tys cA) s) (hd : decode cc pc = .ok (.laload, 1)) (hj : P j = pc + 1) : ab_ok p l e R s m args below meth c Q b D cl cA nL o P pc (ab_nx j ab_lald) := by
  refine ab_nx_ok (pc + 1) hj fun σ σ' h kk => ?_
  obtain ⟨lo, st, u, hp⟩ := σ
  unfold ab_lald at h
  dsimp only at h
  split at h
  · rename_i i a st'
    obtain ⟨h1, h⟩ := ab_condN h
    have ha := of_decide_eq_true h1
    split at h
    · rename_i t2 n f hq
      obtain ⟨h2, rfl⟩ := ab_cond h
      rw [Bool.and_eq_true] at h2
      have ht2 : t2 = 2 := by simpa using h2.1
      subst ht2
      intro H locs ls hP hz hS hl
      exact va_lald hx hb hK hP a 2 (by rw [ab_w_at ha, hq]; rfl) rfl (ab_in_ok h2.2) hd (kk H locs ls hP hz hS hl)
    · cases h
  · cases h
theorem ab_rf_ok (r : Option Nat) : ab_v b (ab_rf r) = va_rf (r.map (fun k => b.1 + k)) := by cases r <;> rfl
theorem ab_aald_ok {t0 : Nat} {C : String} (hx : p.tables.exec = Jvm.exec) (hb : c.code = cc) (hK : va_K D cl (ab_tys cA) s) (ht : (ab_tys cA)[t0]? = some (cA t0, .object C)) (hd : decode cc pc = .ok (.aaload, 1)) (hj : P j = pc + 1) : ab_ok p l e R s m args below meth c Q b D cl cA nL o P pc (ab_nx j (ab_aald t0)) := by
  refine ab_nx_ok (pc + 1) hj fun σ σ' h kk => ?_
  obtain ⟨lo, st, u, hp⟩ := σ
  unfold ab_aald at h
  dsimp only at h
  split at h
  · rename_i i a st'
    obtain ⟨h1, h⟩ := ab_condN h
    have ha := of_decide_eq_true h1
    split at h
    · rename_i t2 n f hq
      obtain ⟨h2, rfl⟩ := ab_cond h
      rw [Bool.and_eq_true] at h2
      have ht2 : t2 = t0 := by simpa using h2.1
      subst ht2
      intro H locs ls hP hz hS hl
      have hk := kk H locs ls hP hz hS hl
      simp only [List.map_cons, ab_rf_ok] at hk
      exact va_aldq (f := fun j => (f j).map (fun k => b.1 + k)) hx hb hK hP a t2 (by rw [ab_w_at ha, hq]; rfl) ht (ab_in_ok h2.2) hd hk
    · cases h
  · cases h
theorem ab_ast_ok {t0 : Nat} (hj : P j = pc + 1) (row : ∀ (hp : ab_H) (H : Heap) (locs : List Loc) (cells slots : Nat) (ls : Array Slot) (rest : List Value) (a n : Nat) (f : Nat → Int32) (i x : Int32), va_at D cl (b.1 + a, .inl (cA t0, n, .inl f)) H → vp_in i n →
      (∀ H1 : Heap, va_at D cl (b.1 + a, .inl (cA t0, n, .inl (upd f i.toNatClampNeg (ab_nar t0 x)))) H1 → H1.size = H.size → (∀ q : Nat, q ≠ b.1 + a → H1[q]? = H[q]?) → W p l e R s m args below meth c H1 (locs ++ [⟨b.1 + a, i.toNatClampNeg⟩]) cells slots Q (F0 m (pc + 1) ls rest)) → W p l e R s m args below meth c H locs cells slots Q (F0 m pc ls (.int x :: .int i :: .ref (b.1 + a) :: rest))) : ab_ok p l e R s m args below meth c Q b D cl cA nL o P pc (ab_nx j (ab_ast t0)) := by
  refine ab_nx_ok (pc + 1) hj fun σ σ' h kk => ?_
  obtain ⟨lo, st, u, hp⟩ := σ
  unfold ab_ast at h
  dsimp only at h
  split at h
  · rename_i x i a st'
    obtain ⟨h1, h⟩ := ab_condN h
    have ha := of_decide_eq_true h1
    split at h
    · rename_i t2 n f hq
      obtain ⟨h2, rfl⟩ := ab_cond h
      rw [Bool.and_eq_true] at h2
      have ht2 : t2 = t0 := by simpa using h2.1
      subst ht2
      intro H locs ls hP hz hS hl
      have he : (ab_w b cA hp)[a]? = some (b.1 + a, .inl (cA t2, n, .inl f)) := by rw [ab_w_at ha, hq]; rfl
      refine row hp H _ _ _ ls _ a n f i x (hP a _ he) (ab_in_ok h2.2) fun H1 g1 g2 g3 => ?_
      obtain ⟨a1, a2, a3⟩ := ab_set (s := s) (x := .inl (t2, n, .inl (upd f i.toNatClampNeg (ab_nar t2 x)))) (i := i.toNatClampNeg) hP hz hS ha rfl g1 g2 g3
      exact kk H1 _ ls a1 a2 a3 hl
    · cases h
  · cases h
theorem ab_iast_ok (hx : p.tables.exec = Jvm.exec) (hb : c.code = cc) (hK : va_K D cl (ab_tys cA) s) (hd : decode cc pc = .ok (.iastore, 1)) (hj : P j = pc + 1) : ab_ok p l e R s m args below meth c Q b D cl cA nL o P pc (ab_nx j (ab_ast 1)) := by
  refine ab_ast_ok hj fun hp H locs cells slots ls rest a n f i x he hin kk => ?_
  refine W.iast hx hb he ((hK.2 1 _ rfl).1 n (fun j => .int (f j))) (fun q => by cases q) (by show ¬ (i < 0 ∨ (arrV _ _ _).slots.size ≤ _); rw [arrV_size]; exact hin) rfl rfl hd fun H1 e z oq => ?_
  refine kk H1 ?_ z oq
  show H1[b.1 + a]? = some (vp_cell _ _)
  rw [e, vp_cell_i, vp_cell_i, arrV_store]
  congr 2
  funext q
  by_cases hq : q = i.toNatClampNeg
  · subst hq
    simp [updV, upd, ab_nar]
  · simp [updV, upd, hq]
theorem ab_bast_ok (hx : p.tables.exec = Jvm.exec) (hb : c.code = cc) (hK : va_K D cl (ab_tys cA) s) (hd : decode cc pc = .ok (.bastore, 1)) (hj : P j = pc + 1) : ab_ok p l e R s m args below meth c Q b D cl cA nL o P pc (ab_nx j (ab_ast 0)) := by
  refine ab_ast_ok hj fun hp H locs cells slots ls rest a n f i x he hin kk => ?_
  refine W.bast hx hb he ((hK.2 0 _ rfl).1 n (fun j => .int (f j))) (fun q => by cases q) (by show ¬ (i < 0 ∨ (arrV _ _ _).slots.size ≤ _); rw [arrV_size]; exact hin) rfl rfl hd fun H1 e z oq => ?_
  refine kk H1 ?_ z oq
  show H1[b.1 + a]? = some (vp_cell _ _)
  rw [e, vp_cell_i, vp_cell_i, arrV_store]
  congr 2
  funext q
  by_cases hq : q = i.toNatClampNeg
  · subst hq
    simp [updV, upd, ab_nar, vp_nar]
    try rfl
  · simp [updV, upd, hq]
theorem ab_zast_ok (hx : p.tables.exec = Jvm.exec) (hb : c.code = cc) (hK : va_K D cl (ab_tys cA) s) (hd : decode cc pc = .ok (.bastore, 1)) (hj : P j = pc + 1) : ab_ok p l e R s m args below meth c Q b D cl cA nL o P pc (ab_nx j (ab_ast 3)) := by
  refine ab_ast_ok hj fun hp H locs cells slots ls rest a n f i x he hin kk => ?_
  refine W.zast hx hb he ((hK.2 3 _ rfl).1 n (fun j => .int (f j))) (fun q => by cases q) (by show ¬ (i < 0 ∨ (arrV _ _ _).slots.size ≤ _); rw [arrV_size]; exact hin) rfl rfl hd fun H1 e z oq => ?_
  refine kk H1 ?_ z oq
  show H1[b.1 + a]? = some (vp_cell _ _)
  rw [e, vp_cell_i, vp_cell_i, arrV_store]
  congr 2
  funext q
  by_cases hq : q = i.toNatClampNeg
  · subst hq
    simp [updV, upd, ab_nar, vp_nar]
    try rfl
  · simp [updV, upd, hq]
theorem ab_iald_ok (hx : p.tables.exec = Jvm.exec) (hb : c.code = cc) (hK : va_K D cl (ab_tys cA) s) (hd : decode cc pc = .ok (.iaload, 1)) (hj : P j = pc + 1) : ab_ok p l e R s m args below meth c Q b D cl cA nL o P pc (ab_nx j (ab_ald 1)) :=
  ab_ald_ok hj fun _ _ _ _ _ _ _ a _ _ _ hP he hin k => va_iald hx hb hK hP a 1 he rfl hin hd k
theorem ab_bald_ok (hx : p.tables.exec = Jvm.exec) (hb : c.code = cc) (hK : va_K D cl (ab_tys cA) s) (hd : decode cc pc = .ok (.baload, 1)) (hj : P j = pc + 1) : ab_ok p l e R s m args below meth c Q b D cl cA nL o P pc (ab_nx j (ab_ald 0)) :=
  ab_ald_ok hj fun _ _ _ _ _ _ _ a _ _ _ hP he hin k => va_bald hx hb hK hP a 0 he rfl hin hd k
theorem ab_zald_ok (hx : p.tables.exec = Jvm.exec) (hb : c.code = cc) (hK : va_K D cl (ab_tys cA) s) (hd : decode cc pc = .ok (.baload, 1)) (hj : P j = pc + 1) : ab_ok p l e R s m args below meth c Q b D cl cA nL o P pc (ab_nx j (ab_ald 3)) :=
  ab_ald_ok hj fun _ _ _ _ _ _ _ a _ _ _ hP he hin k => va_zald hx hb hK hP a 3 he rfl hin hd k
theorem ab_last_ok (hx : p.tables.exec = Jvm.exec) (hb : c.code = cc) (hK : va_K D cl (ab_tys cA) s) (hd : decode cc pc = .ok (.lastore, 1)) (hj : P j = pc + 1) : ab_ok p l e R s m args below meth c Q b D cl cA nL o P pc (ab_nx j ab_last) := by
  refine ab_nx_ok (pc + 1) hj fun σ σ' h kk => ?_
  obtain ⟨lo, st, u, hp⟩ := σ
  unfold ab_last at h
  dsimp only at h
  split at h
  · rename_i x i a st'
    obtain ⟨h1, h⟩ := ab_condN h
    have ha := of_decide_eq_true h1
    split at h
    · rename_i t2 n f hq
      obtain ⟨h2, rfl⟩ := ab_cond h
      rw [Bool.and_eq_true] at h2
      have ht2 : t2 = 2 := by simpa using h2.1
      subst ht2
      intro H locs ls hP hz hS hl
      have he : (ab_w b cA hp)[a]? = some (b.1 + a, .inl (cA 2, n, .inr (.inl f))) := by rw [ab_w_at ha, hq]; rfl
      have hin := ab_in_ok h2.2
      refine W.last hx hb (hP a _ he) ((hK.2 2 _ rfl).1 n (fun j => .long (f j))) (fun q => by cases q) (by show ¬ (i < 0 ∨ (arrV _ _ _).slots.size ≤ _); rw [arrV_size]; exact hin) rfl rfl hd fun H1 e z oq => ?_
      have g1 : va_at D cl (b.1 + a, .inl (cA 2, n, .inr (.inl (vp_updL f i.toNatClampNeg x)))) H1 := by
        show H1[b.1 + a]? = some (vp_cell _ _)
        rw [e, vp_cell_l, vp_cell_l, arrV_store]
        congr 2
        funext q
        by_cases hq : q = i.toNatClampNeg
        · subst hq
          simp [updV, vp_updL]
        · simp [updV, vp_updL, hq]
      obtain ⟨a1, a2, a3⟩ := ab_set (s := s) (x := .inl (2, n, .inr (.inl (vp_updL f i.toNatClampNeg x)))) (i := i.toNatClampNeg) hP hz hS ha rfl g1 z oq
      exact kk H1 _ ls a1 a2 a3 hl
    · cases h
  · cases h
end AB
end
section
/-! ===== arrays of references, new cells, calls, returns ===== -/
section AB
variable {p : Program} {l : Launch} {e : Env} {R : Room} {s : State} {m : MethodId} {args : Array Value} {below : List Frame} {meth : Method} {c : Code} {Q : State → Prop}
variable {b : ab_B} {D : va_G} {cl : List vw_C} {cA : Nat → ClassId} {nL : Nat} {cc : ByteArray} {P : Nat → Nat} {pc j t : Nat} {o : ab_O}
theorem ab_aast_ok {t0 ci : Nat} {r : vw_C} (hx : p.tables.exec = Jvm.exec) (hb : c.code = cc) (hK : va_K D cl (ab_tys cA) s) (ht : (ab_tys cA)[t0]? = some (cA t0, .object r.1)) (hc : cl[ci]? = some r) (hd : decode cc pc = .ok (.aastore, 1)) (hj : P j = pc + 1) : ab_ok p l e R s m args below meth c Q b D cl cA nL o P pc (ab_nx j (ab_aast t0 ci)) := by
  refine ab_nx_ok (pc + 1) hj fun σ σ' h kk => ?_
  obtain ⟨lo, st, u, hp⟩ := σ
  unfold ab_aast at h
  dsimp only at h
  split at h
  · rename_i v i a st'
    obtain ⟨h1, h⟩ := ab_condN h
    rw [Bool.and_eq_true] at h1
    have ha := of_decide_eq_true h1.1
    have hv := of_decide_eq_true h1.2
    split at h
    · rename_i t2 n f hq
      obtain ⟨h2, rfl⟩ := ab_cond h
      rw [Bool.and_eq_true, Bool.and_eq_true] at h2
      obtain ⟨⟨h2, hi2⟩, h3⟩ := h2
      have ht2 : t2 = t0 := by simpa using h2
      subst ht2
      have hin := ab_in_ok hi2
      split at h3
      · rename_i q hqv
        have hci : q.1 = ci := by simpa using h3
        intro H locs ls hP hz hS hl
        have he : (ab_w b cA hp)[a]? = some (b.1 + a, .inl (cA t2, n, .inr (.inr (.inr (.inr (fun j => (f j).map (fun k => b.1 + k))))))) := by rw [ab_w_at ha, hq]; rfl
        have hev : (ab_w b cA hp)[v]? = some (b.1 + v, .inr (ci, q.2.map (ab_v b))) := by rw [ab_w_at hv, hqv, ← hci]; rfl
        have hlt : i.toNatClampNeg < n := Nat.not_le.mp fun q => hin (Or.inr q)
        have h0 : ¬ i < 0 := fun q => hin (Or.inl q)
        obtain ⟨r', hr', cellV, g1, g2, g3, -⟩ := hP v _ hev
        have hcls := (hK.1 ci r hc).2
        obtain ⟨kA, comp, k1, k2, k3, -⟩ := (hK.2 t2 _ ht).2
        have hcomp : comp = D.1 ci := Option.some.inj (k3.symm.trans hcls.1)
        subst hcomp
        obtain ⟨kC, hkC, -⟩ := hcls.2
        refine W.aast hx hb (hP a _ he) (fun q h => by cases h) (fun h => by cases h) k1 k2 rfl hkC ⟨h0, by show _ < (arrV _ _ _).slots.size; rw [arrV_size]; exact hlt⟩ g1 (fun q h => by rw [g3] at h; cases h) (by rw [g2]; exact hkC) (by rw [g2]; exact va_assign hcls) rfl rfl hd fun H1 e z oq => ?_
        have y1 : va_at D cl (b.1 + a, .inl (cA t2, n, .inr (.inr (.inr (.inr (fun j => (va_up f i.toNatClampNeg (some v) j).map (fun k => b.1 + k))))))) H1 := by
          show H1[b.1 + a]? = some (vp_cell _ _)
          rw [e, vp_cell_q, vp_cell_q, arrV_store]
          congr 2
          funext q
          by_cases hq : q = i.toNatClampNeg
          · subst hq
            simp [updV, va_up, va_rf]
          · simp [updV, va_up, hq]
        obtain ⟨a1, a2, a3⟩ := ab_set (s := s) (x := .inl (t2, n, .inr (.inr (.inr (.inr (va_up f i.toNatClampNeg (some v))))))) (i := i.toNatClampNeg) hP hz hS ha rfl y1 z oq
        exact kk H1 _ ls a1 a2 a3 hl
      · cases h3
    · cases h
  · rename_i i a st'
    obtain ⟨h1, h⟩ := ab_condN h
    have ha := of_decide_eq_true h1
    split at h
    · rename_i t2 n f hq
      obtain ⟨h2, rfl⟩ := ab_cond h
      rw [Bool.and_eq_true] at h2
      have ht2 : t2 = t0 := by simpa using h2.1
      subst ht2
      have hin := ab_in_ok h2.2
      intro H locs ls hP hz hS hl
      have he : (ab_w b cA hp)[a]? = some (b.1 + a, .inl (cA t2, n, .inr (.inr (.inr (.inr (fun j => (f j).map (fun k => b.1 + k))))))) := by rw [ab_w_at ha, hq]; rfl
      refine va_WaastN (C := r.1) hx hb (hP a _ he) ((hK.2 t2 _ ht).1 n (fun j => va_rf ((f j).map (fun k => b.1 + k)))) (fun h => by cases h) (by show ¬ (i < 0 ∨ (arrV _ _ _).slots.size ≤ _); rw [arrV_size]; exact hin) rfl rfl hd fun H1 e z oq => ?_
      have y1 : va_at D cl (b.1 + a, .inl (cA t2, n, .inr (.inr (.inr (.inr (fun j => (va_up f i.toNatClampNeg none j).map (fun k => b.1 + k))))))) H1 := by
        show H1[b.1 + a]? = some (vp_cell _ _)
        rw [e, vp_cell_q, vp_cell_q, arrV_store]
        congr 2
        funext q
        by_cases hq : q = i.toNatClampNeg
        · subst hq
          simp [updV, va_up, va_rf]
        · simp [updV, va_up, hq]
      obtain ⟨a1, a2, a3⟩ := ab_set (s := s) (x := .inl (t2, n, .inr (.inr (.inr (.inr (va_up f i.toNatClampNeg none)))))) (i := i.toNatClampNeg) hP hz hS ha rfl y1 z oq
      exact kk H1 _ ls a1 a2 a3 hl
    · cases h
  · cases h
theorem ab_alen_ok (hx : p.tables.exec = Jvm.exec) (hb : c.code = cc) (hK : va_K D cl (ab_tys cA) s) (hd : decode cc pc = .ok (.arraylength, 1)) (hj : P j = pc + 1) : ab_ok p l e R s m args below meth c Q b D cl cA nL o P pc (ab_nx j ab_alen) := by
  refine ab_nx_ok (pc + 1) hj fun σ σ' h kk => ?_
  obtain ⟨lo, st, u, hp⟩ := σ
  unfold ab_alen at h
  dsimp only at h
  split at h
  · rename_i a st'
    obtain ⟨h1, h⟩ := ab_condN h
    have ha := of_decide_eq_true h1
    split at h
    · rename_i x hq
      obtain ⟨h2, rfl⟩ := ab_cond h
      have ht := of_decide_eq_true h2
      intro H locs ls hP hz hS hl
      have he : (ab_w b cA hp)[a]? = some (b.1 + a, .inl (cA x.1, ab_a b x.2)) := by rw [ab_w_at ha, hq]; rfl
      have hty : ∃ ty, (ab_tys cA)[x.1]? = some (cA x.1, ty) := by
        rcases (show x.1 = 0 ∨ x.1 = 1 ∨ x.1 = 2 ∨ x.1 = 3 ∨ x.1 = 4 ∨ x.1 = 5 by omega) with h | h | h | h | h | h <;> rw [h] <;> exact ⟨_, rfl⟩
      obtain ⟨ty, hty⟩ := hty
      have hn : Int32.ofNat (ab_a b x.2).1 = Int32.ofNat x.2.1 := by
        unfold ab_a
        split <;> rfl
      exact va_alen hx hb hK hP a x.1 he hty hn hd (kk H locs ls hP hz hS hl)
    · cases h
  · cases h
theorem ab_pushed {hp : ab_H} {x : ab_E} {y : va_E} {H H1 : Heap} {locs : List Loc} (hP : va_P D cl (ab_w b cA hp) H) (hz : H.size = b.1 + hp.1) (hS : va_S (fun q => b.1 ≤ q) s.heap H locs) (hy : ab_e b cA x = y)
    (he : va_at D cl (b.1 + hp.1, y) H1) (z : H1.size = H.size + 1) (oq : ∀ q : Nat, q < H.size → H1[q]? = H[q]?) : va_P D cl (ab_w b cA (ab_push hp x)) H1 ∧ H1.size = b.1 + (ab_push hp x).1 ∧ va_S (fun q => b.1 ≤ q) s.heap H1 locs := by
  refine ⟨?_, by rw [z, hz]; rfl, ⟨Nat.le_trans hS.1 (by omega), fun q h1 h2 => (oq q (Nat.lt_of_lt_of_le h1 hS.1)).trans (hS.2.1 q h1 h2), hS.2.2⟩⟩
  rw [← ab_w_push hy]
  refine (hP.kept fun k q hq => oq q.1 (hP k q hq).lt).app fun k q hq => ?_
  have hk : k < 1 := (List.getElem?_eq_some_iff.mp hq).1
  rw [show k = 0 by omega] at hq
  cases hq
  exact he
theorem ab_newa_ok {t0 MC MS : Nat} {a0 : Nat → vp_A} {atype : ArrayType} {ty : FieldType} {Ts : List Cond} (hx : p.tables.exec = Jvm.exec) (hb : c.code = cc) (hts : ∀ w ∈ Ts, w.before args s = true) (hK : va_K D cl (ab_tys cA) s) (hR : R.cells = MC ∧ R.slots = MS)
    (hty : newarray.typeOf atype = ty) (ht : (ab_tys cA)[t0]? = some (cA t0, ty)) (hRA : ∀ k, va_RA s k ty → s.vm.findClass ("[" ++ ty.toString) = some k) (harr : Cond.arrayClass ty ∈ Ts) (hby : componentBytes ty ≤ 8)
    (ha : ∀ (k : ClassId) (n : Nat), vp_cell k (ab_a b (a0 n)) = arrV k n (fun _ => defaultValue ty)) (hd : decode cc pc = .ok (.newarray atype, 2)) (hj : P j = pc + 2) : ab_ok p l e R s m args below meth c Q b D cl cA nL o P pc (ab_nx j (ab_newa t0 a0 MC MS)) := by
  subst hty
  refine ab_nx_ok (pc + 2) hj fun σ σ' h kk => ?_
  obtain ⟨lo, st, u, hp⟩ := σ
  unfold ab_newa at h
  dsimp only at h
  split at h
  · rename_i n st'
    obtain ⟨h1, rfl⟩ := ab_cond h
    simp only [Bool.and_eq_true, Bool.not_eq_true', decide_eq_false_iff_not, decide_eq_true_eq] at h1
    obtain ⟨⟨⟨h1, h2⟩, h3⟩, h4⟩ := h1
    intro H locs ls hP hz hS hl
    refine va_newaK hx hb (hts _ harr) rfl hd rfl h1 rfl (Nat.le_trans (Nat.mul_le_mul h2 hby) (by decide)) (by rw [hR.1]; exact h3) (by rw [hR.2]; exact h4) hz fun H1 k e1 z1 o1 hAr hNm => ?_
    have hk : k = cA t0 := Option.some.inj (hNm.symm.trans (hRA _ (hK.2 t0 _ ht).2))
    subst hk
    have g1 : va_at D cl (b.1 + hp.1, .inl (cA t0, ab_a b (a0 n.toNatClampNeg))) H1 := by
      show H1[b.1 + hp.1]? = some (vp_cell _ _)
      rw [ha, e1]
    obtain ⟨a1, a2, a3⟩ := ab_pushed (s := s) (x := .inl (t0, a0 n.toNatClampNeg)) hP hz hS rfl g1 (by rw [z1, hz]) (fun q hq => o1 q (by rw [← hz]; exact hq))
    exact kk H1 locs ls a1 a2 a3 hl
  · cases h
theorem ab_newq_ok {t0 MC MS index : Nat} {own C : String} {Ts : List Cond} (hx : p.tables.exec = Jvm.exec) (hb : c.code = cc) (hts : ∀ w ∈ Ts, w.before args s = true) (hown : s.vm.findClass own = some m.cls) (hK : va_K D cl (ab_tys cA) s) (hR : R.cells = MC ∧ R.slots = MS)
    (ht : (ab_tys cA)[t0]? = some (cA t0, .object C)) (hover : va_AO C s) (hclink : Cond.classLink own index C ∈ Ts) (hd : decode cc pc = .ok (.anewarray index, 3)) (hj : P j = pc + 3) : ab_ok p l e R s m args below meth c Q b D cl cA nL o P pc (ab_nx j (ab_newa t0 (fun n => (n, .inr (.inr (.inr (.inr (fun _ => none)))))) MC MS)) := by
  refine ab_nx_ok (pc + 3) hj fun σ σ' h kk => ?_
  obtain ⟨lo, st, u, hp⟩ := σ
  unfold ab_newa at h
  dsimp only at h
  split at h
  · rename_i n st'
    obtain ⟨h1, rfl⟩ := ab_cond h
    simp only [Bool.and_eq_true, Bool.not_eq_true', decide_eq_false_iff_not, decide_eq_true_eq] at h1
    obtain ⟨⟨⟨h1, h2⟩, h3⟩, h4⟩ := h1
    intro H locs ls hP hz hS hl
    refine W.anew hx hb hown (hts _ hclink) (va_AO.use hover) rfl hd rfl h1 (by omega) (by rw [hR.1]; exact h3) (by rw [hR.2]; exact h4) fun k kA comp f1 f2 f3 f4 => ?_
    have hk : k = cA t0 := by
      obtain ⟨_, _, -, -, -, w4⟩ := (hK.2 t0 _ ht).2
      exact Option.some.inj (f1.symm.trans w4)
    subst hk
    generalize hH1 : H.push ({ cls := cA t0, slots := Array.replicate n.toNatClampNeg .null, vm := .none } : Cell) = H1
    have z1 : H1.size = H.size + 1 := by rw [← hH1, Array.size_push]
    have e1 : H1[H.size]? = some (arrV (cA t0) n.toNatClampNeg (fun _ => .null)) := by rw [← hH1, Array.getElem?_push_size, ← arrV_new]
    have o1 : ∀ q : Nat, q < H.size → H1[q]? = H[q]? := fun q hq => by rw [← hH1, Array.getElem?_push, if_neg (Nat.ne_of_lt hq)]
    obtain ⟨a1, a2, a3⟩ := ab_pushed (s := s) (x := .inl (t0, n.toNatClampNeg, .inr (.inr (.inr (.inr (fun _ => none)))))) (y := .inl (cA t0, n.toNatClampNeg, .inr (.inr (.inr (.inr (fun _ => none)))))) hP hz hS rfl (by show H1[b.1 + hp.1]? = _; rw [← hz, e1]; rfl) z1 o1
    have hk2 := kk H1 locs ls a1 a2 a3 hl
    rw [hz]
    exact hk2
  · cases h
theorem ab_new_ok {own C : String} {T : u_T} {N ci index MC MS : Nat} {Ts : List Cond} {tys : List (ClassId × FieldType)} {fs : List Value} (hx : p.tables.exec = Jvm.exec) (hb : c.code = cc) (hts : ∀ w ∈ Ts, w.before args s = true) (hown : s.vm.findClass own = some m.cls) (hK : va_K D cl tys s) (hR : R.cells = MC ∧ R.slots = MS)
    (hin : ∀ w ∈ u_ws C T N, w ∈ Ts) (ty : Nat → FieldType) (hty : ∀ k, k < N → parseFieldDescriptor (T k).2.2.1 = some (ty k)) (hc : cl[ci]? = some (C, T, N)) (hcl : Cond.classLink own index C ∈ Ts) (hinst : Cond.instantiable C N ∈ Ts) (hini : Cond.initialized C ∈ Ts)
    (hfs : ∀ i, i < N → defaultValue (ty i) = vp_V (fs.map (ab_v b)) i) (hd : decode cc pc = .ok (.new index, 3)) (hj : P j = pc + 3) : ab_ok p l e R s m args below meth c Q b D cl cA nL o P pc (ab_nx j (ab_new ci N fs MC MS)) := by
  refine ab_nx_ok (pc + 3) hj fun σ σ' h kk => ?_
  obtain ⟨lo, st, u, hp⟩ := σ
  unfold ab_new at h
  dsimp only at h
  obtain ⟨h1, rfl⟩ := ab_cond h
  simp only [Bool.and_eq_true, decide_eq_true_eq] at h1
  obtain ⟨h3, h4⟩ := h1
  intro H locs ls hP hz hS hl
  have hKn := hK.1 ci _ hc
  refine W.newcK hx hb hown (hts _ hcl) (hts _ hinst) (hts _ hini) rfl hd (by rw [hR.1]; exact h3) (by rw [hR.2]; exact h4) hKn.2.1 hz fun H1 kC hkC e1 z1 o1 => ?_
  obtain ⟨a1, a2, a3⟩ := ab_pushed (s := s) (x := .inr (ci, fs)) hP hz hS rfl ⟨_, hc, (u_born ty hts hin hKn hkC e1 hty).to hfs⟩ (by rw [z1, hz]) (fun q hq => o1 q (by rw [← hz]; exact hq))
  exact kk H1 locs ls a1 a2 a3 hl
theorem ab_cats_v (st : List Value) : ((st.map (ab_v b)).map fun v => v.category).sum = ab_cats st := by
  unfold ab_cats
  rw [List.map_map]
  congr 1
  apply List.map_congr_left
  intro v _
  exact ab_vcat b v
theorem ab_obj_ok {own : String} {index : Nat} {Ts : List Cond} (hx : p.tables.exec = Jvm.exec) (hb : c.code = cc) (hml : c.maxLocals = nL) (hts : ∀ w ∈ Ts, w.before args s = true) (hown : s.vm.findClass own = some m.cls) (hlink : Cond.methodLink own index Lib.objectInit ∈ Ts) (hinst : Cond.instanceMethod Lib.objectInit ∈ Ts) (hcode : Cond.code Lib.objectInit ⟨#[0xb1]⟩ 1 none ∈ Ts)
    (hR : 1 ≤ R.frames ∧ 20 ≤ R.locals) (hd : decode cc pc = .ok (.invokespecial index, 3)) (hj : P j = pc + 3) : ab_ok p l e R s m args below meth c Q b D cl cA nL o P pc (ab_nx j ab_obj) := by
  refine ab_nx_ok (pc + 3) hj fun σ σ' h kk => ?_
  obtain ⟨lo, st, u, hp⟩ := σ
  unfold ab_obj at h
  dsimp only at h
  split at h
  · rename_i a st'
    obtain ⟨h1, rfl⟩ := ab_cond h
    have hst := of_decide_eq_true h1
    intro H locs ls hP hz hS hl
    refine W.objInit hx hb hown (hts _ hlink) (hts _ hinst) (hts _ hcode) rfl (by rw [hml]; exact hl.1) (rest := st'.map (ab_v b)) rfl hd hR.1 ?_ (kk H locs ls hP hz hS hl)
    have := ab_cats_v (b := b) st'
    show 2 * 0 + _ + 12 ≤ _
    omega
  · cases h
/-- a method: whatever the steps X answer, the machine answers -/
def ab_Qx (b : ab_B) (D : va_G) (cl : List vw_C) (cA : Nat → ClassId) (o : ab_O) : Array Value → State → Outcome → State → Prop := fun _ st oc t => (oc = .returned (o.1.map (ab_v b)) ∧ t.heap.size = b.1 + o.2.1 ∧ va_P D cl (ab_w b cA o.2) t.heap) ∧ va_F (fun q => b.1 ≤ q) st t
def ab_Px (b : ab_B) (D : va_G) (cl : List vw_C) (cA : Nat → ClassId) (E : State → Prop) (as : List Value) (hp : ab_H) : Array Value → State → Prop := va_Pc (as.map (ab_v b)) (fun U => U.heap.size = b.1 + hp.1 ∧ va_P D cl (ab_w b cA hp) U.heap ∧ va_K D cl (ab_tys cA) U ∧ E U)
def ab_M (l : Launch) (b : ab_B) (D : va_G) (cl : List vw_C) (cA : Nat → ClassId) (E : State → Prop) (y : MethodName) (ws : List Cond) (rm : Room) (X : List Value → ab_H → Option ab_O) : Prop :=
  ∀ (as : List Value) (hp : ab_H) (o : ab_O), X as hp = some o → Met l y ws rm (ab_Px b D cl cA E as hp) (ab_Qx b D cl cA o) rm.cells rm.slots (fun q => b.1 ≤ q)
/-- what is so at a start stays so as the tables warm -/
def ab_Ek (b : ab_B) (E : State → Prop) : Prop := ∀ s U : State, s.WarmedH U.vm → (∀ q : Nat, q < s.heap.size → ¬ b.1 ≤ q → U.heap[q]? = s.heap[q]?) → E s → E U
def ab_Eb (E : State → Prop) : Prop := ∀ s U : State, s.vm = U.vm → s.heap = U.heap → E s → E U
theorem ab_blind {E : State → Prop} (hE : ab_Eb E) (as : List Value) (hp : ab_H) : FrameBlind (ab_Px b D cl cA E as hp) := by
  intro a U g mk q
  obtain ⟨q0, q1, qP, qK, qE⟩ := q
  exact ⟨q0, q1, qP, va_K.moved (u := U) (U := U.calling g mk a) (Vm.Alike.refl U.vm) qK, hE U _ rfl rfl qE⟩
theorem ab_callW {hp : ab_H} {o2 : ab_O} {H : Heap} {locs : List Loc} {cells slots mc ms : Nat} {ls : Array Slot} {st0 rest : List Value} {a : Array Value} (hr : va_Run p l e R s m args below meth c H locs cells slots mc ms (F0 m pc ls st0) rest (ab_Qx b D cl cA o2 a) (fun q => b.1 ≤ q)) (hS : va_S (fun q => b.1 ≤ q) s.heap H locs)
    (kk : ∀ (H1 : Heap) (locs1 : List Loc), va_P D cl (ab_w b cA o2.2) H1 → H1.size = b.1 + o2.2.1 → va_S (fun q => b.1 ≤ q) s.heap H1 locs1 → W p l e R s m args below meth c H1 locs1 (cells + mc) (slots + ms) Q (F0 m (pc + 3) ls ((o2.1.map (ab_v b)).toList ++ rest))) : W p l e R s m args below meth c H locs cells slots Q (F0 m pc ls st0) := by
  intro T hT X
  obtain ⟨v, st₀, t, T', L, h0, X', hL, e1, e2, ⟨⟨hv, hz, hP⟩, hz1, hk⟩, st⟩ := hr T hT X
  cases hv
  rw [h0] at hz1 hk
  obtain ⟨t2, a1, b1⟩ := kk T'.heap (locs ++ L) (by rw [e1]; exact hP) (by rw [e1]; exact hz) ⟨Nat.le_trans hS.1 (by rw [e1]; exact hz1), fun q h1 h2 => by rw [e1, hk q (Nat.lt_of_lt_of_le h1 hS.1) h2]; exact hS.2.1 q h1 h2, fun q hq => by
      rcases List.mem_append.mp hq with h | h
      · exact hS.2.2 q h
      · exact hL q h⟩ T' rfl X'
  exact ⟨t2, st t2 a1, b1⟩
end AB
end
section
/-! ===== calls, returns, the library's own ===== -/
theorem ab_split {b : ab_B} {nA : Nat} {st as : List Value} (h : (st.take nA).reverse = as) : st.map (ab_v b) = (as.map (ab_v b)).reverse ++ (st.drop nA).map (ab_v b) := by
  subst h
  rw [List.map_reverse, List.reverse_reverse, ← List.map_append, List.take_append_drop]
theorem ab_rcv_ok {ci : Nat} {as : List Value} {hp : ab_H} (h : ab_rcv ci as hp = true) : ∃ (a : Nat) (As : List Value) (fs : List Value), as = .ref a :: As ∧ a < hp.1 ∧ hp.2 a = .inr (ci, fs) := by
  unfold ab_rcv at h
  split at h
  · rename_i a As
    rw [Bool.and_eq_true] at h
    have h2 := h.2
    split at h2
    · rename_i q hq
      have hci : q.1 = ci := by simpa using h2
      exact ⟨a, As, q.2, rfl, of_decide_eq_true h.1, by rw [hq, ← hci]⟩
    · cases h2
  · cases h
section AB
variable {p : Program} {l : Launch} {e : Env} {R : Room} {s : State} {m : MethodId} {args : Array Value} {below : List Frame} {meth : Method} {c : Code} {Q : State → Prop}
variable {b : ab_B} {D : va_G} {cl : List vw_C} {cA : Nat → ClassId} {nL : Nat} {cc : ByteArray} {P : Nat → Nat} {pc j t : Nat} {o : ab_O} {E : State → Prop}
variable {nA mc ms MC MS maxL index : Nat} {X : List Value → ab_H → Option ab_O} {y : MethodName} {bytes : ByteArray} {ret : Option FieldType} {Ts ws ws' : List Cond} {rm : Room} {own : String}
/-- a call, whatever kind of call it is -/
theorem ab_call_ok (hj : P j = pc + 3) (row : ∀ (as : List Value) (hp : ab_H) (o2 : ab_O) (H : Heap) (locs : List Loc) (u : Nat × Nat) (ls : Array Slot) (rest : List Value), as.length = nA → X as hp = some o2 → ab_cats rest ≤ 8 → u.1 + mc ≤ MC → u.2 + ms ≤ MS → va_P D cl (ab_w b cA hp) H → H.size = b.1 + hp.1 → va_S (fun q => b.1 ≤ q) s.heap H locs → lv_has ls nL (ab_lp b 0 ([] : List (Option Value))) →
      va_Run p l e R s m args below meth c H locs u.1 u.2 mc ms (F0 m pc ls ((as.map (ab_v b)).reverse ++ rest.map (ab_v b))) (rest.map (ab_v b)) (ab_Qx b D cl cA o2 (as.map (ab_v b)).toArray) (fun q => b.1 ≤ q)) : ab_ok p l e R s m args below meth c Q b D cl cA nL o P pc (ab_nx j (ab_call nA X mc ms MC MS)) := by
  refine ab_nx_ok (pc + 3) hj fun σ σ' h kk => ?_
  obtain ⟨lo, st, u, hp⟩ := σ
  unfold ab_call at h
  dsimp only at h
  obtain ⟨h1, h⟩ := ab_condN h
  simp only [Bool.and_eq_true, decide_eq_true_eq] at h1
  obtain ⟨⟨⟨h1, h2⟩, h3⟩, h4⟩ := h1
  split at h
  · rename_i o2 hX
    obtain rfl := Option.some.inj h
    intro H locs ls hP hz hS hl
    have hlen : ((st.take nA).reverse).length = nA := by rw [List.length_reverse, List.length_take]; omega
    have hr := row _ hp o2 H locs u ls (st.drop nA) hlen hX h2 h3 h4 hP hz hS ⟨hl.1, hl.2.1, fun q hq => by cases hq⟩
    rw [← ab_split rfl] at hr
    refine ab_callW (hp := hp) hr hS fun H1 locs1 g1 g2 g3 => ?_
    have hk := kk H1 locs1 ls g1 g2 g3 hl
    have e1 : (o2.1.toList ++ st.drop nA).map (ab_v b) = (o2.1.map (ab_v b)).toList ++ (st.drop nA).map (ab_v b) := by
      rw [List.map_append]
      cases o2.1 <;> rfl
    rw [← e1]
    exact hk
  · cases h
theorem ab_callV_ok {C : String} {T : u_T} {N ci n : Nat} (hx : p.tables.exec = Jvm.exec) (hb : c.code = cc) (hml : c.maxLocals = nL) (hts : ∀ w ∈ Ts, w.before args s = true) (hown : s.vm.findClass own = some m.cls) (hK : va_K D cl (ab_tys cA) s) (hR : R.cells = MC ∧ R.slots = MS) (hE : E s) (hEk : ab_Ek b E) (hEb : ab_Eb E)
    (hM : ab_M l b D cl cA E y ws rm X) (hm : rm.cells = mc ∧ rm.slots = ms) (hc : cl[ci]? = some (C, T, N)) (hG : GoodIn Ts ws) (hw : ws = Cond.code y bytes maxL ret :: ws') (hlink : Cond.methodLink own index y ∈ Ts) (hinst : Cond.instanceMethod y ∈ Ts) (hsel : Cond.selects C y y ∈ Ts) (hini : Cond.initialized y.cls ∈ Ts)
    (hn : nA = n + 1) (hds : y.cls ≠ "java/lang/invoke/MethodHandle" ∧ y.cls ≠ "java/lang/invoke/VarHandle" ∧ (parseMethodDescriptor y.desc).map (fun d => d.parameters.length) = some n) (hrm : rm.frames + 1 ≤ R.frames ∧ 8 + (maxL + 11) + rm.locals ≤ R.locals)
    (hd : decode cc pc = .ok (.invokevirtual index, 3)) (hj : P j = pc + 3) : ab_ok p l e R s m args below meth c Q b D cl cA nL o P pc (ab_nx j (ab_callV nA ci X mc ms MC MS)) := by
  have base : ∀ σ σ' : ab_S, ab_callV nA ci X mc ms MC MS σ = some σ' → ab_W p l e R s m args below meth c Q b D cl cA nL (pc + 3) σ' → ab_W p l e R s m args below meth c Q b D cl cA nL pc σ := by
    intro σ σ' h kk
    unfold ab_callV at h
    obtain ⟨hr0, h⟩ := ab_condN h
    obtain ⟨lo, st, u, hp⟩ := σ
    unfold ab_call at h
    dsimp only at h hr0
    obtain ⟨h1, h⟩ := ab_condN h
    simp only [Bool.and_eq_true, decide_eq_true_eq] at h1
    obtain ⟨⟨⟨h1, h2⟩, h3⟩, h4⟩ := h1
    split at h
    · rename_i o2 hX
      obtain rfl := Option.some.inj h
      intro H locs ls hP hz hS hl
      obtain ⟨a, As, fs, has, ha, hq⟩ := ab_rcv_ok hr0
      have hlen : As.length = n := by
        have h9 : ((st.take nA).reverse).length = nA := by rw [List.length_reverse, List.length_take]; omega
        rw [has] at h9
        simp at h9
        omega
      have hst := ab_split (b := b) has
      rw [has] at hX
      have hstk : st.map (ab_v b) = (As.map (ab_v b)).reverse ++ .ref (b.1 + a) :: (st.drop nA).map (ab_v b) := by
        rw [hst]
        simp [ab_v]
      have he : (ab_w b cA hp)[a]? = some (b.1 + a, .inr (ci, fs.map (ab_v b))) := by rw [ab_w_at ha, hq]; rfl
      have hrun : va_Run p l e R s m args below meth c H locs u.1 u.2 mc ms (F0 m pc ls (st.map (ab_v b))) ((st.drop nA).map (ab_v b)) (ab_Qx b D cl cA o2 (Value.ref (b.1 + a) :: As.map (ab_v b)).toArray) (fun q => b.1 ≤ q) := by
        have hM2 := hM _ hp o2 hX
        rw [hm.1, hm.2] at hM2
        refine va_runV (C := C) (b := b.1 + a) (As := As.map (ab_v b)) (n := n) ⟨hx, hb, hml, hown, hts⟩ hM2 ⟨callB_of n hts hG hw hm.1 hm.2 (hts _ hini) (hts _ hlink) hds hrm, hts _ hinst, hts _ hsel⟩ ⟨ab_blind hEb _ _, va_recv hK hP hc he, fun U hU hW => ⟨rfl, by rw [hU]; exact hz, by rw [hU]; exact hP, va_K.moved hW.alike hK, hEk s U hW (fun q h1 h2 => by rw [hU]; exact hS.2.1 q h1 h2) hE⟩⟩ rfl (by simpa using hlen) hl.1 hstk (lv_room (by rw [ab_cats_v]; exact h2)) hd (by rw [hR.1, hR.2]; exact ⟨h3, h4⟩)
      refine ab_callW (hp := hp) hrun hS fun H1 locs1 g1 g2 g3 => ?_
      have hk := kk H1 locs1 ls g1 g2 g3 hl
      have e1 : (o2.1.toList ++ st.drop nA).map (ab_v b) = (o2.1.map (ab_v b)).toList ++ (st.drop nA).map (ab_v b) := by
        rw [List.map_append]
        cases o2.1 <;> rfl
      rw [← e1]
      exact hk
    · cases h
  exact ab_nx_ok (pc + 3) hj base
theorem ab_callS_ok (hx : p.tables.exec = Jvm.exec) (hb : c.code = cc) (hml : c.maxLocals = nL) (hts : ∀ w ∈ Ts, w.before args s = true) (hown : s.vm.findClass own = some m.cls) (hK : va_K D cl (ab_tys cA) s) (hR : R.cells = MC ∧ R.slots = MS) (hE : E s) (hEk : ab_Ek b E) (hEb : ab_Eb E)
    (hM : ab_M l b D cl cA E y ws rm X) (hm : rm.cells = mc ∧ rm.slots = ms) (hG : GoodIn Ts ws) (hw : ws = Cond.code y bytes maxL ret :: ws') (hlink : Cond.methodLink own index y ∈ Ts) (hstat : Cond.static y ∈ Ts) (hini : Cond.initialized y.cls ∈ Ts)
    (hds : y.cls ≠ "java/lang/invoke/MethodHandle" ∧ y.cls ≠ "java/lang/invoke/VarHandle" ∧ (parseMethodDescriptor y.desc).map (fun d => d.parameters.length) = some nA) (hrm : rm.frames + 1 ≤ R.frames ∧ 8 + (maxL + 11) + rm.locals ≤ R.locals)
    (hd : decode cc pc = .ok (.invokestatic index, 3)) (hj : P j = pc + 3) : ab_ok p l e R s m args below meth c Q b D cl cA nL o P pc (ab_nx j (ab_call nA X mc ms MC MS)) := by
  refine ab_call_ok hj fun as hp o2 H locs u ls rest hlen hX h2 h3 h4 hP hz hS hl => ?_
  have hM2 := hM _ hp o2 hX
  rw [hm.1, hm.2] at hM2
  exact va_runS (As := as.map (ab_v b)) (n := nA) ⟨hx, hb, hml, hown, hts⟩ hM2 ⟨callB_of nA hts hG hw hm.1 hm.2 (hts _ hini) (hts _ hlink) hds hrm, hts _ hstat⟩ ⟨ab_blind hEb _ _, fun U hU hW => ⟨rfl, by rw [hU]; exact hz, by rw [hU]; exact hP, va_K.moved hW.alike hK, hEk s U hW (fun q h1 h2 => by rw [hU]; exact hS.2.1 q h1 h2) hE⟩⟩ rfl (by simpa using hlen) hl.1 rfl (lv_room (by rw [ab_cats_v]; exact h2)) hd (by rw [hR.1, hR.2]; exact ⟨h3, h4⟩)
theorem ab_callSN_ok {host : String} (hx : p.tables.exec = Jvm.exec) (hb : c.code = cc) (hml : c.maxLocals = nL) (hts : ∀ w ∈ Ts, w.before args s = true) (hown : s.vm.findClass own = some m.cls) (hK : va_K D cl (ab_tys cA) s) (hR : R.cells = MC ∧ R.slots = MS) (hE : E s) (hEk : ab_Ek b E) (hEb : ab_Eb E)
    (hM : ab_M l b D cl cA E y ws rm X) (hm : rm.cells = mc ∧ rm.slots = ms) (hG : GoodIn Ts ws) (hw : ws = Cond.code y bytes maxL ret :: ws') (hlink : va_Nw (.methodLinkNest own index y host) s) (hstat : Cond.static y ∈ Ts) (hini : Cond.initialized y.cls ∈ Ts)
    (hds : y.cls ≠ "java/lang/invoke/MethodHandle" ∧ y.cls ≠ "java/lang/invoke/VarHandle" ∧ (parseMethodDescriptor y.desc).map (fun d => d.parameters.length) = some nA) (hrm : rm.frames + 1 ≤ R.frames ∧ 8 + (maxL + 11) + rm.locals ≤ R.locals)
    (hd : decode cc pc = .ok (.invokestatic index, 3)) (hj : P j = pc + 3) : ab_ok p l e R s m args below meth c Q b D cl cA nL o P pc (ab_nx j (ab_call nA X mc ms MC MS)) := by
  refine ab_call_ok hj fun as hp o2 H locs u ls rest hlen hX h2 h3 h4 hP hz hS hl => ?_
  have hM2 := hM _ hp o2 hX
  rw [hm.1, hm.2] at hM2
  exact va_runSN (host := host) (As := as.map (ab_v b)) (n := nA) ⟨hx, hb, hml, hown, hts⟩ hM2 ⟨va_cnB nA hts hG hw hm.1 hm.2 hlink (hts _ hini) hds hrm, hts _ hstat, trivial⟩ ⟨ab_blind hEb _ _, fun U hU hW => ⟨rfl, by rw [hU]; exact hz, by rw [hU]; exact hP, va_K.moved hW.alike hK, hEk s U hW (fun q h1 h2 => by rw [hU]; exact hS.2.1 q h1 h2) hE⟩⟩ rfl (by simpa using hlen) hl.1 rfl (lv_room (by rw [ab_cats_v]; exact h2)) hd (by rw [hR.1, hR.2]; exact ⟨h3, h4⟩)
/-- constructors without parameters: X is only asked at one reference -/
theorem ab_callI_ok (hx : p.tables.exec = Jvm.exec) (hb : c.code = cc) (hml : c.maxLocals = nL) (hts : ∀ w ∈ Ts, w.before args s = true) (hown : s.vm.findClass own = some m.cls) (hK : va_K D cl (ab_tys cA) s) (hR : R.cells = MC ∧ R.slots = MS) (hE : E s) (hEk : ab_Ek b E) (hEb : ab_Eb E)
    (hM : ab_M l b D cl cA E y ws rm X) (hX1 : ∀ v hp o2, X [v] hp = some o2 → ∃ a, v = .ref a) (hm : rm.cells = mc ∧ rm.slots = ms) (hG : GoodIn Ts ws) (hw : ws = Cond.code y bytes maxL none :: ws') (hlink : Cond.methodLink own index y ∈ Ts) (hinst : Cond.instanceMethod y ∈ Ts) (hini : Cond.initialized y.cls ∈ Ts) (hy1 : y.name = "<init>")
    (hds : y.cls ≠ "java/lang/invoke/MethodHandle" ∧ y.cls ≠ "java/lang/invoke/VarHandle" ∧ (parseMethodDescriptor y.desc).map (fun d => d.parameters.length) = some 0) (hrm : rm.frames + 1 ≤ R.frames ∧ 8 + (maxL + 11) + rm.locals ≤ R.locals)
    (hd : decode cc pc = .ok (.invokespecial index, 3)) (hj : P j = pc + 3) : ab_ok p l e R s m args below meth c Q b D cl cA nL o P pc (ab_nx j (ab_call 1 X mc ms MC MS)) := by
  refine ab_call_ok hj fun as hp o2 H locs u ls rest hlen hX h2 h3 h4 hP hz hS hl => ?_
  obtain ⟨v, rfl⟩ := List.length_eq_one_iff.mp hlen
  have hM2 := hM _ hp o2 hX
  obtain ⟨a, rfl⟩ := hX1 v hp o2 hX
  rw [hm.1, hm.2] at hM2
  exact va_runI (b := b.1 + a) (As := []) (n := 0) ⟨hx, hb, hml, hown, hts⟩ hM2 ⟨callB_of 0 hts hG hw hm.1 hm.2 (hts _ hini) (hts _ hlink) hds hrm, hy1, hts _ hinst⟩ ⟨ab_blind hEb _ _, fun U hU hW => ⟨rfl, by rw [hU]; exact hz, by rw [hU]; exact hP, va_K.moved hW.alike hK, hEk s U hW (fun q h1 h2 => by rw [hU]; exact hS.2.1 q h1 h2) hE⟩⟩ rfl rfl hl.1 rfl (lv_room (by rw [ab_cats_v]; exact h2)) hd (by rw [hR.1, hR.2]; exact ⟨h3, h4⟩)
theorem ab_callIN_ok {host : String} (hx : p.tables.exec = Jvm.exec) (hb : c.code = cc) (hml : c.maxLocals = nL) (hts : ∀ w ∈ Ts, w.before args s = true) (hown : s.vm.findClass own = some m.cls) (hK : va_K D cl (ab_tys cA) s) (hR : R.cells = MC ∧ R.slots = MS) (hE : E s) (hEk : ab_Ek b E) (hEb : ab_Eb E)
    (hM : ab_M l b D cl cA E y ws rm X) (hX1 : ∀ v hp o2, X [v] hp = some o2 → ∃ a, v = .ref a) (hm : rm.cells = mc ∧ rm.slots = ms) (hG : GoodIn Ts ws) (hw : ws = Cond.code y bytes maxL none :: ws') (hlink : va_Nw (.methodLinkNest own index y host) s) (hinst : Cond.instanceMethod y ∈ Ts) (hini : Cond.initialized y.cls ∈ Ts) (hy1 : y.name = "<init>")
    (hds : y.cls ≠ "java/lang/invoke/MethodHandle" ∧ y.cls ≠ "java/lang/invoke/VarHandle" ∧ (parseMethodDescriptor y.desc).map (fun d => d.parameters.length) = some 0) (hrm : rm.frames + 1 ≤ R.frames ∧ 8 + (maxL + 11) + rm.locals ≤ R.locals)
    (hd : decode cc pc = .ok (.invokespecial index, 3)) (hj : P j = pc + 3) : ab_ok p l e R s m args below meth c Q b D cl cA nL o P pc (ab_nx j (ab_call 1 X mc ms MC MS)) := by
  refine ab_call_ok hj fun as hp o2 H locs u ls rest hlen hX h2 h3 h4 hP hz hS hl => ?_
  obtain ⟨v, rfl⟩ := List.length_eq_one_iff.mp hlen
  have hM2 := hM _ hp o2 hX
  obtain ⟨a, rfl⟩ := hX1 v hp o2 hX
  rw [hm.1, hm.2] at hM2
  exact va_runIN (host := host) (b := b.1 + a) (As := []) (n := 0) ⟨hx, hb, hml, hown, hts⟩ hM2 ⟨va_cnB 0 hts hG hw hm.1 hm.2 hlink (hts _ hini) hds hrm, hy1, hts _ hinst⟩ ⟨ab_blind hEb _ _, fun U hU hW => ⟨rfl, by rw [hU]; exact hz, by rw [hU]; exact hP, va_K.moved hW.alike hK, hEk s U hW (fun q h1 h2 => by rw [hU]; exact hS.2.1 q h1 h2) hE⟩⟩ rfl rfl hl.1 rfl (lv_room (by rw [ab_cats_v]; exact h2)) hd (by rw [hR.1, hR.2]; exact ⟨h3, h4⟩)
theorem ab_ret_ok (hx : p.tables.exec = Jvm.exec) (hb : c.code = cc) (hr : meth.sig.returnType = some .int) (hlocks : meth.locks = false) (hd : decode cc pc = .ok (.ireturn, 1)) : ab_ok p l e R s m args below meth c (MQ below (ab_Qx b D cl cA o) args s MC MS (fun q => b.1 ≤ q)) b D cl cA nL o P pc (ab_ret MC MS) := by
  intro σ
  obtain ⟨lo, st, u, hp⟩ := σ
  unfold ab_ret
  dsimp only
  refine ⟨fun j' σ' h1 h2 => ?_, fun h1 => ?_⟩
  · split at h1
    · obtain ⟨-, h1⟩ := ab_cond h1
      cases h1
    · cases h1
  · split at h1
    · rename_i x
      obtain ⟨h2, h1⟩ := ab_cond h1
      obtain rfl := Sum.inr.inj h1
      simp only [Bool.and_eq_true, decide_eq_true_eq] at h2
      intro H locs ls hP hz hS hl
      refine W.widen h2.1 h2.2 ?_
      exact W.iret (v := x) hx hb hr (fun t ht hW => ⟨⟨rfl, by rw [ht]; exact hz, by rw [ht]; exact hP⟩, hS.F ht⟩) hS.2.2 hd hlocks
    · cases h1
theorem ab_zret_ok (hx : p.tables.exec = Jvm.exec) (hb : c.code = cc) (hr : meth.sig.returnType = some .boolean) (hlocks : meth.locks = false) (hd : decode cc pc = .ok (.ireturn, 1)) : ab_ok p l e R s m args below meth c (MQ below (ab_Qx b D cl cA o) args s MC MS (fun q => b.1 ≤ q)) b D cl cA nL o P pc (ab_zret MC MS) := by
  intro σ
  obtain ⟨lo, st, u, hp⟩ := σ
  unfold ab_zret
  dsimp only
  refine ⟨fun j' σ' h1 h2 => ?_, fun h1 => ?_⟩
  · split at h1
    · obtain ⟨-, h1⟩ := ab_cond h1
      cases h1
    · cases h1
  · split at h1
    · rename_i x
      obtain ⟨h2, h1⟩ := ab_cond h1
      obtain rfl := Sum.inr.inj h1
      simp only [Bool.and_eq_true, Bool.or_eq_true, decide_eq_true_eq] at h2
      intro H locs ls hP hz hS hl
      refine W.widen h2.1.1 h2.1.2 ?_
      exact W.zret (v := x) hx hb hr (by rcases h2.2 with rfl | rfl <;> decide) (fun t ht hW => ⟨⟨rfl, by rw [ht]; exact hz, by rw [ht]; exact hP⟩, hS.F ht⟩) hS.2.2 hd hlocks
    · cases h1
theorem ab_vret_ok (hx : p.tables.exec = Jvm.exec) (hb : c.code = cc) (hr : meth.sig.returnType = none) (hlocks : meth.locks = false) (hd : decode cc pc = .ok (.return_, 1)) : ab_ok p l e R s m args below meth c (MQ below (ab_Qx b D cl cA o) args s MC MS (fun q => b.1 ≤ q)) b D cl cA nL o P pc (ab_vret MC MS) := by
  intro σ
  obtain ⟨lo, st, u, hp⟩ := σ
  unfold ab_vret
  dsimp only
  refine ⟨fun j' σ' h1 h2 => ?_, fun h1 => ?_⟩
  · split at h1
    · obtain ⟨-, h1⟩ := ab_cond h1
      cases h1
    · cases h1
  · split at h1
    · obtain ⟨h2, h1⟩ := ab_cond h1
      obtain rfl := Sum.inr.inj h1
      simp only [Bool.and_eq_true, decide_eq_true_eq] at h2
      intro H locs ls hP hz hS hl
      refine W.widen h2.1 h2.2 ?_
      exact W.vret hx hb hr (fun t ht hW => ⟨⟨rfl, by rw [ht]; exact hz, by rw [ht]; exact hP⟩, hS.F ht⟩) hS.2.2 hd hlocks
    · cases h1
theorem ab_mm_ok {g : Int32 → Int32 → Int32} (hj : P j = pc + 3) (row : ∀ (H : Heap) (locs : List Loc) (u : Nat × Nat) (ls : Array Slot) (rest : List Value) (x z : Int32), ls.size = nL → (rest.map fun v => v.category).sum ≤ 8 → u.1 ≤ MC → u.2 ≤ MS → W p l e R s m args below meth c H locs u.1 u.2 Q (F0 m (pc + 3) ls (.int (g x z) :: rest)) → W p l e R s m args below meth c H locs u.1 u.2 Q (F0 m pc ls (.int z :: .int x :: rest))) : ab_ok p l e R s m args below meth c Q b D cl cA nL o P pc (ab_nx j (ab_mm g MC MS)) := by
  refine ab_nx_ok (pc + 3) hj fun σ σ' h kk => ?_
  obtain ⟨lo, st, u, hp⟩ := σ
  unfold ab_mm at h
  dsimp only at h
  split at h
  · rename_i z x st'
    obtain ⟨h1, rfl⟩ := ab_cond h
    simp only [Bool.and_eq_true, decide_eq_true_eq] at h1
    intro H locs ls hP hz hS hl
    exact row H locs u ls _ x z hl.1 (by rw [ab_cats_v]; exact h1.1.1) h1.1.2 h1.2 (kk H locs ls hP hz hS hl)
  · cases h
theorem ab_copy_ok (hx : p.tables.exec = Jvm.exec) (hb : c.code = cc) (hml : c.maxLocals = nL) (hts : ∀ w ∈ Ts, w.before args s = true) (hown : s.vm.findClass own = some m.cls) (hK : va_K D cl (ab_tys cA) s) (hlink : Cond.methodLink own index arraycopyName ∈ Ts) (hnat : Cond.native arraycopyName ∈ Ts) (hstat : Cond.static arraycopyName ∈ Ts) (hini : Cond.initialized "java/lang/System" ∈ Ts)
    (hR : 1 ≤ R.frames ∧ 8 + (nativeFrameWords "java/lang/System" "arraycopy" 5 + 11) ≤ R.locals) (hd : decode cc pc = .ok (.invokestatic index, 3)) (hj : P j = pc + 3) : ab_ok p l e R s m args below meth c Q b D cl cA nL o P pc (ab_nx j ab_copy) := by
  refine ab_nx_ok (pc + 3) hj fun σ σ' h kk => ?_
  obtain ⟨lo, st, u, hp⟩ := σ
  unfold ab_copy at h
  dsimp only at h
  split at h
  · rename_i n dp a sp a0 st'
    obtain ⟨h1, h⟩ := ab_condN h
    simp only [Bool.and_eq_true, Bool.not_eq_true', decide_eq_false_iff_not, decide_eq_true_eq] at h1
    obtain ⟨⟨⟨⟨⟨⟨ha, ha0⟩, hst⟩, h2⟩, h3⟩, h4⟩, h5⟩ := h1
    have fin : ∀ (x : ab_E) (y : va_E), ab_e b cA x = y → ab_W p l e R s m args below meth c Q b D cl cA nL (pc + 3) (lo, st', u, ab_up hp a x) → ∀ (H : Heap) (locs : List Loc) (ls : Array Slot), va_S (fun q => b.1 ≤ q) s.heap H locs → H.size = b.1 + hp.1 → lv_has ls nL (ab_lp b 0 lo) → ∀ (T : State), T.heap = H → Stand p l e R s m args below meth c T locs u.1 u.2 →
        ∀ (H1 : Heap) (locs1 : List Loc), va_P D cl ((ab_w b cA hp).set a (b.1 + a, y)) H1 → va_D (fun q => b.1 ≤ q) ((ab_w b cA hp).set a (b.1 + a, y)) → va_S (fun q => b.1 ≤ q) s.heap H1 locs1 → W p l e R s m args below meth c H1 locs1 u.1 u.2 Q (F0 m (pc + 3) ls (st'.map (ab_v b))) := by
      intro x y hy kk H locs ls hS hz hl T hT XT H1 locs1 hP1 _ hS1 T1 hT1 X1
      have z0 := XT.heapSize
      have z1 := X1.heapSize
      rw [hT, h5] at z0
      rw [hT1, h5] at z1
      have hz1 : H1.size = b.1 + hp.1 := by
        have := hS.1
        have := hS1.1
        omega
      rw [ab_w_up hy] at hP1
      exact kk H1 locs1 ls hP1 hz1 hS1 hl T1 hT1 X1
    have hsum : ((st'.map (ab_v b)).map fun v => v.category).sum ≤ 8 := by rw [ab_cats_v]; exact hst
    split at h
    · rename_i n0 f n1 g hq0 hq1
      obtain ⟨h6, rfl⟩ := ab_cond h
      simp only [Bool.and_eq_true, decide_eq_true_eq] at h6
      intro H locs ls hP hz hS hl T hT XT
      have he0 : (ab_w b cA hp)[a0]? = some (b.1 + a0, .inl (cA 1, n0, .inl f)) := by rw [ab_w_at ha0, hq0]; rfl
      have he1 : (ab_w b cA hp)[a]? = some (b.1 + a, .inl (cA 1, n1, .inl g)) := by rw [ab_w_at ha, hq1]; rfl
      exact va_copyi hx hb (by rw [hml]; exact hl.1.symm) hown (hts _ hlink) (hts _ hnat) (hts _ hstat) (hts _ hini) hK hP ab_w_D hS a0 a 1 1 he0 he1 rfl rfl rfl h2 h3 h4 h6.1 h6.2 (fun i _ => rfl) hR.1 (by omega) hd (fin (.inl (1, n1, .inl (va_cpy f g sp.toNatClampNeg dp.toNatClampNeg n.toNatClampNeg))) _ rfl kk H locs ls hS hz hl T hT XT) T hT XT
    · rename_i n0 f n1 g hq0 hq1
      obtain ⟨h6, rfl⟩ := ab_cond h
      simp only [Bool.and_eq_true, decide_eq_true_eq] at h6
      intro H locs ls hP hz hS hl T hT XT
      have he0 : (ab_w b cA hp)[a0]? = some (b.1 + a0, .inl (cA 2, n0, .inr (.inl f))) := by rw [ab_w_at ha0, hq0]; rfl
      have he1 : (ab_w b cA hp)[a]? = some (b.1 + a, .inl (cA 2, n1, .inr (.inl g))) := by rw [ab_w_at ha, hq1]; rfl
      exact va_copyl hx hb (by rw [hml]; exact hl.1.symm) hown (hts _ hlink) (hts _ hnat) (hts _ hstat) (hts _ hini) hK hP ab_w_D hS a0 a 2 2 he0 he1 rfl rfl rfl h2 h3 h4 h6.1 h6.2 (fun i _ => rfl) hR.1 (by omega) hd (fin (.inl (2, n1, .inr (.inl (va_cpy f g sp.toNatClampNeg dp.toNatClampNeg n.toNatClampNeg)))) _ rfl kk H locs ls hS hz hl T hT XT) T hT XT
    · cases h
  · cases h
theorem ab_tab_ok {dflt lo hi : Int} {offs : Array Int} {len : Nat} {ts : List Nat} {dj : Nat} (hx : p.tables.exec = Jvm.exec) (hb : c.code = cc) (hd : decode cc pc = .ok (.tableswitch dflt lo hi offs, len)) (hdf : (pc : Int) + dflt = (P dj : Int)) (hts : offs.toList.map (fun z => (pc : Int) + z) = ts.map (fun z => (P z : Int))) (hhi : hi = lo + (ts.length : Int) - 1) : ab_ok p l e R s m args below meth c Q b D cl cA nL o P pc (ab_tab lo ts dj) := by
  intro σ
  obtain ⟨lv, st, u, hp⟩ := σ
  unfold ab_tab
  dsimp only
  refine ⟨fun j' σ' h1 h2 => ?_, fun h1 => ?_⟩
  · split at h1
    · rename_i x st'
      simp only [Option.some.injEq, Sum.inl.injEq, Prod.mk.injEq] at h1
      obtain ⟨rfl, rfl⟩ := h1
      intro H locs ls hP hz hS hl
      by_cases hlo : x.toInt < lo
      · rw [decide_eq_true hlo] at h2
        exact lv_tableOut hx hb hd (Or.inl hlo) hdf (h2 H locs ls hP hz hS hl)
      · rw [decide_eq_false hlo] at h2
        have hlen : offs.toList.length = ts.length := by
          have := congrArg List.length hts
          simpa using this
        by_cases hh : hi < x.toInt
        · have hn : ts[(x.toInt - lo).toNat]? = none := by
            rw [List.getElem?_eq_none_iff]
            omega
          simp only [cond_false, hn, Option.getD_none] at h2
          exact lv_tableOut hx hb hd (Or.inr hh) hdf (h2 H locs ls hP hz hS hl)
        · have hk : (x.toInt - lo).toNat < ts.length := by omega
          have h3 : ts[(x.toInt - lo).toNat]? = some ts[(x.toInt - lo).toNat] := List.getElem?_eq_getElem hk
          have hk2 : (x.toInt - lo).toNat < offs.toList.length := by rw [hlen]; exact hk
          have h4 : offs.toList[(x.toInt - lo).toNat]? = some offs.toList[(x.toInt - lo).toNat] := List.getElem?_eq_getElem hk2
          have h5 : (offs.toList.map (fun z => (pc : Int) + z))[(x.toInt - lo).toNat]? = (ts.map (fun z => (P z : Int)))[(x.toInt - lo).toNat]? := by rw [hts]
          rw [List.getElem?_map, List.getElem?_map, h3, h4] at h5
          simp only [Option.map_some, Option.some.injEq] at h5
          simp only [cond_false, h3, Option.getD_some] at h2
          exact lv_tableIn hx hb hd hlo hh (by rw [← Array.getElem?_toList]; exact h4) h5 (h2 H locs ls hP hz hS hl)
    · cases h1
  · split at h1 <;> cases h1
end AB
end
section
/-! ===== a method out of its steps ===== -/
theorem ab_run_mono {T : Nat → Option ab_A} : ∀ (f i : Nat) (s : ab_S) (o : ab_O), ab_run T f i s = some o → ∀ k, ab_run T (f + k) i s = some o
  | 0, _, _, _, h, _ => by cases h
  | f + 1, i, s, o, h, k => by
    rw [show f + 1 + k = (f + k) + 1 by omega]
    rw [ab_run] at h ⊢
    split at h
    · cases h
    · rename_i a ha
      cases hs : a s with
      | none => rw [hs] at h; cases h
      | some r =>
        rw [hs] at h
        cases r with
        | inl q => exact ab_run_mono f _ _ _ h k
        | inr o' => exact h
theorem ab_run_one {T : Nat → Option ab_A} {f g i : Nat} {s : ab_S} {o o' : ab_O} (h : ab_run T f i s = some o) (h' : ab_run T g i s = some o') : o = o' := by
  have h1 := ab_run_mono f i s o h g
  have h2 := ab_run_mono g i s o' h' f
  rw [Nat.add_comm] at h2
  exact Option.some.inj (h1.symm.trans h2)
/-- what a method's steps answer -/
noncomputable def ab_X (T : Nat → Option ab_A) (nL : Nat) (as : List Value) (hp : ab_H) : Option ab_O :=
  @dite _ ((ab_ent as).length ≤ nL ∧ ∃ (o : ab_O) (f : Nat), ab_run T f 0 (ab_en nL as, [], (0, 0), hp) = some o) (Classical.propDecidable _) (fun h => some h.2.choose) (fun _ => none)
theorem ab_X_of {T : Nat → Option ab_A} {nL : Nat} {as : List Value} {hp : ab_H} {o : ab_O} {f : Nat} (hl : (ab_ent as).length ≤ nL) (h : ab_run T f 0 (ab_en nL as, [], (0, 0), hp) = some o) : ab_X T nL as hp = some o := by
  unfold ab_X
  have hc : (ab_ent as).length ≤ nL ∧ ∃ (o : ab_O) (f : Nat), ab_run T f 0 (ab_en nL as, [], (0, 0), hp) = some o := ⟨hl, o, f, h⟩
  rw [dif_pos hc]
  obtain ⟨g, hg⟩ := hc.2.choose_spec
  rw [ab_run_one hg h]
theorem ab_X_run {T : Nat → Option ab_A} {nL : Nat} {as : List Value} {hp : ab_H} {o : ab_O} (h : ab_X T nL as hp = some o) : (ab_ent as).length ≤ nL ∧ ∃ f, ab_run T f 0 (ab_en nL as, [], (0, 0), hp) = some o := by
  unfold ab_X at h
  split at h
  · rename_i hc
    obtain ⟨g, hg⟩ := hc.2.choose_spec
    rw [Option.some.inj h] at hg
    exact ⟨hc.1, g, hg⟩
  · cases h
/-- all that a step's proof may use -/
def ab_cx (p : Program) (l : Launch) (e : Env) (R : Room) (s : State) (m : MethodId) (args : Array Value) (below : List Frame) (meth : Method) (c : Code) (D : va_G) (cl : List vw_C) (cA : Nat → ClassId) (E : State → Prop) (y : MethodName) (cc : ByteArray) (nL : Nat) (ret : Option FieldType) (Ts : List Cond) (rm : Room) : Prop :=
  p.tables.exec = Jvm.exec ∧ c.code = cc ∧ c.maxLocals = nL ∧ meth.sig.returnType = ret ∧ meth.locks = false ∧ (∀ w ∈ Ts, w.before args s = true) ∧ s.vm.findClass y.cls = some m.cls ∧ va_K D cl (ab_tys cA) s ∧ E s ∧ meth.name = y.name ∧ R = rm
theorem ab_meth {l : Launch} {b : ab_B} {D : va_G} {cl : List vw_C} {cA : Nat → ClassId} {E : State → Prop} {y : MethodName} {ws ws' : List Cond} {rm : Room} {cc : ByteArray} {nL : Nat} {ret : Option FieldType} (L : List (Nat × ab_A)) (hy : plainName y.cls = true) (hw : ws = Cond.code y cc nL ret :: ws')
    (hT : ∀ (p : Program) (e : Env) (R : Room) (s : State) (m : MethodId) (args : Array Value) (below : List Frame) (meth : Method) (c : Code) (o : ab_O), ab_cx p l e R s m args below meth c D cl cA E y cc nL ret ws rm → ∀ q ∈ L, ab_ok p l e R s m args below meth c (MQ below (ab_Qx b D cl cA o) args s rm.cells rm.slots (fun q => b.1 ≤ q)) b D cl cA nL o (fun i => i) q.1 q.2) :
    ab_M l b D cl cA E y ws rm (ab_X (ab_T L) nL) := by
  intro as hp o hX
  obtain ⟨hlen, f, hrun⟩ := ab_X_run hX
  refine Met.ofW (cc := cc) (maxL := nL) (ret := ret) hy hw ?_
  intro p e s m args below meth c s₁ B hml hv
  obtain ⟨rfl, hz, hPw, hK, hE⟩ := hv
  have C : ab_cx p l e (headSpec ws rm).room s m (as.map (ab_v b)).toArray below meth c D cl cA E y cc nL ret ws rm := ⟨B.exec, B.bytes, hml, B.returns, B.notSynchronized, atoms_spec (ws := ws) B.pre, findClass_of_methodNamed B.named, hK, hE, (name_of_methodNamed B.named B.method).1, rfl⟩
  have hl := lv_entry (as.map (ab_v b)) (n := nL) (by rw [ab_ent_len]; exact hlen)
  rw [lg_entry_eq]
  generalize (lg_sl (as.map (ab_v b)) ++ List.replicate (nL - (lg_sl (as.map (ab_v b))).length) Slot.unset).toArray = ls at hl ⊢
  have hW := ab_run_ok (p := p) (l := l) (e := e) (R := (headSpec ws rm).room) (s := s) (m := m) (args := (as.map (ab_v b)).toArray) (below := below) (meth := meth) (c := c) (Q := MQ below (ab_Qx b D cl cA o) (as.map (ab_v b)).toArray s rm.cells rm.slots (fun q => b.1 ≤ q)) (b := b) (D := D) (cl := cl) (cA := cA) (nL := nL) (P := fun i => i) (o := o) (T := ab_T L) (fun i a ha => hT p e _ s m _ below meth c o C (i, a) (ab_T_mem L i a ha)) f 0 _ hrun
  exact hW s.heap [] ls hPw hz va_S.rf (ab_en_has hl)
/-- a step that isn't there -/
def ab_no : ab_A := fun _ => none
section AB
variable {p : Program} {l : Launch} {e : Env} {R : Room} {s : State} {m : MethodId} {args : Array Value} {below : List Frame} {meth : Method} {c : Code} {Q : State → Prop}
variable {b : ab_B} {D : va_G} {cl : List vw_C} {cA : Nat → ClassId} {nL : Nat} {cc : ByteArray} {P : Nat → Nat} {pc j t : Nat} {o : ab_O} {E : State → Prop} {y : MethodName} {ret : Option FieldType} {Ts : List Cond} {rm : Room}
theorem ok_no : ab_ok p l e R s m args below meth c Q b D cl cA nL o P pc ab_no := fun _ => ⟨fun _ _ h => by (cases h), fun h => by cases h⟩
theorem ok_iconst (C : ab_cx p l e R s m args below meth c D cl cA E y cc nL ret Ts rm) {n : Int} {v : Int32} (hd : decode cc pc = .ok (.iconst n, 1)) (hv : Int32.ofInt n = v) (hj : P j = pc + 1) : ab_ok p l e R s m args below meth c Q b D cl cA nL o P pc (ab_nx j (ab_lit (.int v))) := ab_lit_ok hj fun _ _ _ _ _ _ k => lv_iconst C.1 C.2.1 hd hv k
theorem ok_bipush (C : ab_cx p l e R s m args below meth c D cl cA E y cc nL ret Ts rm) {n : Int} {v : Int32} (hd : decode cc pc = .ok (.bipush n, 2)) (hv : (Int8.ofInt n).toInt32 = v) (hj : P j = pc + 2) : ab_ok p l e R s m args below meth c Q b D cl cA nL o P pc (ab_nx j (ab_lit (.int v))) := ab_lit_ok hj fun _ _ _ _ _ _ k => lv_bipush C.1 C.2.1 hd hv k
theorem ok_sipush (C : ab_cx p l e R s m args below meth c D cl cA E y cc nL ret Ts rm) {n : Int} {v : Int32} (hd : decode cc pc = .ok (.sipush n, 3)) (hv : (Int16.ofInt n).toInt32 = v) (hj : P j = pc + 3) : ab_ok p l e R s m args below meth c Q b D cl cA nL o P pc (ab_nx j (ab_lit (.int v))) := ab_lit_ok hj fun _ _ _ _ _ _ k => lv_sipush C.1 C.2.1 hd hv k
theorem ok_ldc (C : ab_cx p l e R s m args below meth c D cl cA E y cc nL ret Ts rm) {i : Nat} {v : Int32} (hd : decode cc pc = .ok (.ldc i, 2)) (hw : Cond.constant y.cls i v ∈ Ts) (hj : P j = pc + 2) : ab_ok p l e R s m args below meth c Q b D cl cA nL o P pc (ab_nx j (ab_lit (.int v))) := ab_lit_ok hj fun _ _ _ _ _ _ k => lv_ldc C.1 C.2.1 C.2.2.2.2.2.2.1 (C.2.2.2.2.2.1 _ hw) hd k
theorem ok_ldcw (C : ab_cx p l e R s m args below meth c D cl cA E y cc nL ret Ts rm) {i : Nat} {v : Int32} (hd : decode cc pc = .ok (.ldc_w i, 3)) (hw : Cond.constant y.cls i v ∈ Ts) (hj : P j = pc + 3) : ab_ok p l e R s m args below meth c Q b D cl cA nL o P pc (ab_nx j (ab_lit (.int v))) := ab_lit_ok hj fun _ _ _ _ _ _ k => lv_ldcw C.1 C.2.1 C.2.2.2.2.2.2.1 (C.2.2.2.2.2.1 _ hw) hd k
theorem ok_ldc2 (C : ab_cx p l e R s m args below meth c D cl cA E y cc nL ret Ts rm) {i : Nat} {v : Int64} (hd : decode cc pc = .ok (.ldc2_w i, 3)) (hw : Cond.constantLong y.cls i v ∈ Ts) (hj : P j = pc + 3) : ab_ok p l e R s m args below meth c Q b D cl cA nL o P pc (ab_nx j (ab_lit (.long v))) := ab_lit_ok hj fun _ _ _ _ _ _ k => lv_ldc2 C.1 C.2.1 C.2.2.2.2.2.2.1 (C.2.2.2.2.2.1 _ hw) hd k
theorem ok_lconst (C : ab_cx p l e R s m args below meth c D cl cA E y cc nL ret Ts rm) {n : Fin 2} {v : Int64} (hd : decode cc pc = .ok (.lconst n, 1)) (hv : Int64.ofNat (n : Nat) = v) (hj : P j = pc + 1) : ab_ok p l e R s m args below meth c Q b D cl cA nL o P pc (ab_nx j (ab_lit (.long v))) := ab_lit_ok hj fun _ _ _ _ _ _ k => lv_lconst C.1 C.2.1 hd hv k
theorem ok_null (C : ab_cx p l e R s m args below meth c D cl cA E y cc nL ret Ts rm) (hd : decode cc pc = .ok (.aconst_null, 1)) (hj : P j = pc + 1) : ab_ok p l e R s m args below meth c Q b D cl cA nL o P pc (ab_nx j (ab_lit .null)) := ab_lit_ok hj fun _ _ _ _ _ _ k => lv_null C.1 C.2.1 hd k
theorem ok_iload_n (C : ab_cx p l e R s m args below meth c D cl cA E y cc nL ret Ts rm) {k : Fin 4} {i : Nat} (hd : decode cc pc = .ok (.iload_n k, 1)) (hi : (k : Nat) = i) (hj : P j = pc + 1) : ab_ok p l e R s m args below meth c Q b D cl cA nL o P pc (ab_nx j (ab_iload i)) := ab_iload_ok hj fun _ _ _ _ _ _ _ h k => lv_iload_n C.1 C.2.1 hd hi h k
theorem ok_iload (C : ab_cx p l e R s m args below meth c D cl cA E y cc nL ret Ts rm) {i : Nat} (hd : decode cc pc = .ok (.iload i, 2)) (hj : P j = pc + 2) : ab_ok p l e R s m args below meth c Q b D cl cA nL o P pc (ab_nx j (ab_iload i)) := ab_iload_ok hj fun _ _ _ _ _ _ _ h k => lv_iload C.1 C.2.1 hd h k
theorem ok_lload_n (C : ab_cx p l e R s m args below meth c D cl cA E y cc nL ret Ts rm) {k : Fin 4} {i : Nat} (hd : decode cc pc = .ok (.lload_n k, 1)) (hi : (k : Nat) = i) (hj : P j = pc + 1) : ab_ok p l e R s m args below meth c Q b D cl cA nL o P pc (ab_nx j (ab_lload i)) := ab_lload_ok hj fun _ _ _ _ _ _ _ h k => lv_lload_n C.1 C.2.1 hd hi h k
theorem ok_lload (C : ab_cx p l e R s m args below meth c D cl cA E y cc nL ret Ts rm) {i : Nat} (hd : decode cc pc = .ok (.lload i, 2)) (hj : P j = pc + 2) : ab_ok p l e R s m args below meth c Q b D cl cA nL o P pc (ab_nx j (ab_lload i)) := ab_lload_ok hj fun _ _ _ _ _ _ _ h k => lv_lload C.1 C.2.1 hd h k
theorem ok_aload_n (C : ab_cx p l e R s m args below meth c D cl cA E y cc nL ret Ts rm) {k : Fin 4} {i : Nat} (hd : decode cc pc = .ok (.aload_n k, 1)) (hi : (k : Nat) = i) (hj : P j = pc + 1) : ab_ok p l e R s m args below meth c Q b D cl cA nL o P pc (ab_nx j (ab_aload i)) := ab_aload_ok hj (fun _ _ _ _ _ _ _ h k => lv_aload_n C.1 C.2.1 hd hi h k) (fun _ _ _ _ _ _ h k => lv_aload_nN C.1 C.2.1 hd hi h k)
theorem ok_aload (C : ab_cx p l e R s m args below meth c D cl cA E y cc nL ret Ts rm) {i : Nat} (hd : decode cc pc = .ok (.aload i, 2)) (hj : P j = pc + 2) : ab_ok p l e R s m args below meth c Q b D cl cA nL o P pc (ab_nx j (ab_aload i)) := ab_aload_ok hj (fun _ _ _ _ _ _ _ h k => lv_aload C.1 C.2.1 hd h k) (fun _ _ _ _ _ _ h k => lv_aloadN C.1 C.2.1 hd h k)
theorem ok_istore_n (C : ab_cx p l e R s m args below meth c D cl cA E y cc nL ret Ts rm) {k : Fin 4} {i : Nat} (hd : decode cc pc = .ok (.istore_n k, 1)) (hi : (k : Nat) = i) (hn : i < nL) (hj : P j = pc + 1) : ab_ok p l e R s m args below meth c Q b D cl cA nL o P pc (ab_nx j (ab_istore i)) := ab_istore_ok hj fun _ _ _ _ _ _ _ _ h k => lv_istore_n C.1 C.2.1 hd hi h hn rfl k
theorem ok_istore (C : ab_cx p l e R s m args below meth c D cl cA E y cc nL ret Ts rm) {i : Nat} (hd : decode cc pc = .ok (.istore i, 2)) (hn : i < nL) (hj : P j = pc + 2) : ab_ok p l e R s m args below meth c Q b D cl cA nL o P pc (ab_nx j (ab_istore i)) := ab_istore_ok hj fun _ _ _ _ _ _ _ _ h k => lv_istore C.1 C.2.1 hd h hn rfl k
theorem ok_lstore_n (C : ab_cx p l e R s m args below meth c D cl cA E y cc nL ret Ts rm) {k : Fin 4} {i : Nat} (hd : decode cc pc = .ok (.lstore_n k, 1)) (hi : (k : Nat) = i) (hn : i + 1 < nL) (hj : P j = pc + 1) : ab_ok p l e R s m args below meth c Q b D cl cA nL o P pc (ab_nx j (ab_lstore i)) := ab_lstore_ok hj fun _ _ _ _ _ _ _ _ h k => lv_lstore_n C.1 C.2.1 hd hi h hn rfl k
theorem ok_lstore (C : ab_cx p l e R s m args below meth c D cl cA E y cc nL ret Ts rm) {i : Nat} (hd : decode cc pc = .ok (.lstore i, 2)) (hn : i + 1 < nL) (hj : P j = pc + 2) : ab_ok p l e R s m args below meth c Q b D cl cA nL o P pc (ab_nx j (ab_lstore i)) := ab_lstore_ok hj fun _ _ _ _ _ _ _ _ h k => lv_lstore C.1 C.2.1 hd h hn rfl k
theorem ok_astore_n (C : ab_cx p l e R s m args below meth c D cl cA E y cc nL ret Ts rm) {k : Fin 4} {i : Nat} (hd : decode cc pc = .ok (.astore_n k, 1)) (hi : (k : Nat) = i) (hn : i < nL) (hj : P j = pc + 1) : ab_ok p l e R s m args below meth c Q b D cl cA nL o P pc (ab_nx j (ab_astore i)) := ab_astore_ok hj (fun _ _ _ _ _ _ _ _ h k => lv_astore_n C.1 C.2.1 hd hi h hn rfl k) (fun _ _ _ _ _ _ _ h k => lv_astore_nN C.1 C.2.1 hd hi h hn rfl k)
theorem ok_astore (C : ab_cx p l e R s m args below meth c D cl cA E y cc nL ret Ts rm) {i : Nat} (hd : decode cc pc = .ok (.astore i, 2)) (hn : i < nL) (hj : P j = pc + 2) : ab_ok p l e R s m args below meth c Q b D cl cA nL o P pc (ab_nx j (ab_astore i)) := ab_astore_ok hj (fun _ _ _ _ _ _ _ _ h k => lv_astore C.1 C.2.1 hd h hn rfl k) (fun _ _ _ _ _ _ _ h k => lv_astoreN C.1 C.2.1 hd h hn rfl k)
theorem ok_iinc (C : ab_cx p l e R s m args below meth c D cl cA E y cc nL ret Ts rm) {i : Nat} {n : Int} {v : Int32} (hd : decode cc pc = .ok (.iinc i n, 3)) (hv : Int32.ofInt n = v) (hi : i < nL) (hj : P j = pc + 3) : ab_ok p l e R s m args below meth c Q b D cl cA nL o P pc (ab_nx j (ab_iinc i v)) := ab_iinc_ok C.1 C.2.1 hd hv hi hj
theorem ok_iadd (C : ab_cx p l e R s m args below meth c D cl cA E y cc nL ret Ts rm) (hd : decode cc pc = .ok (.iadd, 1)) (hj : P j = pc + 1) : ab_ok p l e R s m args below meth c Q b D cl cA nL o P pc (ab_nx j (ab_bin (fun x y => x + y))) := ab_bin_ok hj fun _ _ _ _ _ _ _ _ k => lv_iadd C.1 C.2.1 hd k
theorem ok_isub (C : ab_cx p l e R s m args below meth c D cl cA E y cc nL ret Ts rm) (hd : decode cc pc = .ok (.isub, 1)) (hj : P j = pc + 1) : ab_ok p l e R s m args below meth c Q b D cl cA nL o P pc (ab_nx j (ab_bin (fun x y => x - y))) := ab_bin_ok hj fun _ _ _ _ _ _ _ _ k => lv_isub C.1 C.2.1 hd k
theorem ok_imul (C : ab_cx p l e R s m args below meth c D cl cA E y cc nL ret Ts rm) (hd : decode cc pc = .ok (.imul, 1)) (hj : P j = pc + 1) : ab_ok p l e R s m args below meth c Q b D cl cA nL o P pc (ab_nx j (ab_bin (fun x y => x * y))) := ab_bin_ok hj fun _ _ _ _ _ _ _ _ k => lv_imul C.1 C.2.1 hd k
theorem ok_iand (C : ab_cx p l e R s m args below meth c D cl cA E y cc nL ret Ts rm) (hd : decode cc pc = .ok (.iand, 1)) (hj : P j = pc + 1) : ab_ok p l e R s m args below meth c Q b D cl cA nL o P pc (ab_nx j (ab_bin (fun x y => x &&& y))) := ab_bin_ok hj fun _ _ _ _ _ _ _ _ k => lv_iand C.1 C.2.1 hd k
theorem ok_ior (C : ab_cx p l e R s m args below meth c D cl cA E y cc nL ret Ts rm) (hd : decode cc pc = .ok (.ior, 1)) (hj : P j = pc + 1) : ab_ok p l e R s m args below meth c Q b D cl cA nL o P pc (ab_nx j (ab_bin (fun x y => x ||| y))) := ab_bin_ok hj fun _ _ _ _ _ _ _ _ k => lv_ior C.1 C.2.1 hd k
theorem ok_ixor (C : ab_cx p l e R s m args below meth c D cl cA E y cc nL ret Ts rm) (hd : decode cc pc = .ok (.ixor, 1)) (hj : P j = pc + 1) : ab_ok p l e R s m args below meth c Q b D cl cA nL o P pc (ab_nx j (ab_bin (fun x y => x ^^^ y))) := ab_bin_ok hj fun _ _ _ _ _ _ _ _ k => lv_ixor C.1 C.2.1 hd k
theorem ok_ishl (C : ab_cx p l e R s m args below meth c D cl cA E y cc nL ret Ts rm) (hd : decode cc pc = .ok (.ishl, 1)) (hj : P j = pc + 1) : ab_ok p l e R s m args below meth c Q b D cl cA nL o P pc (ab_nx j (ab_bin (fun x y => x <<< (y &&& 31)))) := ab_bin_ok hj fun _ _ _ _ _ _ _ _ k => lv_ishl C.1 C.2.1 hd k
theorem ok_ishr (C : ab_cx p l e R s m args below meth c D cl cA E y cc nL ret Ts rm) (hd : decode cc pc = .ok (.ishr, 1)) (hj : P j = pc + 1) : ab_ok p l e R s m args below meth c Q b D cl cA nL o P pc (ab_nx j (ab_bin (fun x y => x >>> (y &&& 31)))) := ab_bin_ok hj fun _ _ _ _ _ _ _ _ k => lv_ishr C.1 C.2.1 hd k
theorem ok_iushr (C : ab_cx p l e R s m args below meth c D cl cA E y cc nL ret Ts rm) (hd : decode cc pc = .ok (.iushr, 1)) (hj : P j = pc + 1) : ab_ok p l e R s m args below meth c Q b D cl cA nL o P pc (ab_nx j (ab_bin (fun x y => (x.toUInt32 >>> (y.toUInt32 &&& Int32.toUInt32 31)).toInt32))) := ab_bin_ok hj fun _ _ _ _ _ _ _ _ k => lv_iushr C.1 C.2.1 hd rfl k
theorem ok_irem (C : ab_cx p l e R s m args below meth c D cl cA E y cc nL ret Ts rm) (hd : decode cc pc = .ok (.irem, 1)) (hj : P j = pc + 1) : ab_ok p l e R s m args below meth c Q b D cl cA nL o P pc (ab_nx j ab_irem) := ab_irem_ok C.1 C.2.1 hd hj
theorem ok_ineg (C : ab_cx p l e R s m args below meth c D cl cA E y cc nL ret Ts rm) (hd : decode cc pc = .ok (.ineg, 1)) (hj : P j = pc + 1) : ab_ok p l e R s m args below meth c Q b D cl cA nL o P pc (ab_nx j (ab_un (fun x => -x))) := ab_un_ok hj fun _ _ _ _ _ _ _ k => lv_ineg C.1 C.2.1 hd k
theorem ok_i2b (C : ab_cx p l e R s m args below meth c D cl cA E y cc nL ret Ts rm) (hd : decode cc pc = .ok (.i2b, 1)) (hj : P j = pc + 1) : ab_ok p l e R s m args below meth c Q b D cl cA nL o P pc (ab_nx j (ab_un (fun x => x.toInt8.toInt32))) := ab_un_ok hj fun _ _ _ _ _ _ _ k => lv_i2b C.1 C.2.1 hd rfl k
theorem ok_ladd (C : ab_cx p l e R s m args below meth c D cl cA E y cc nL ret Ts rm) (hd : decode cc pc = .ok (.ladd, 1)) (hj : P j = pc + 1) : ab_ok p l e R s m args below meth c Q b D cl cA nL o P pc (ab_nx j (ab_lbin (fun x y => x + y))) := ab_lbin_ok hj fun _ _ _ _ _ _ _ _ k => lv_ladd C.1 C.2.1 hd k
theorem ok_lsub (C : ab_cx p l e R s m args below meth c D cl cA E y cc nL ret Ts rm) (hd : decode cc pc = .ok (.lsub, 1)) (hj : P j = pc + 1) : ab_ok p l e R s m args below meth c Q b D cl cA nL o P pc (ab_nx j (ab_lbin (fun x y => x - y))) := ab_lbin_ok hj fun _ _ _ _ _ _ _ _ k => lv_lsub C.1 C.2.1 hd k
theorem ok_lmul (C : ab_cx p l e R s m args below meth c D cl cA E y cc nL ret Ts rm) (hd : decode cc pc = .ok (.lmul, 1)) (hj : P j = pc + 1) : ab_ok p l e R s m args below meth c Q b D cl cA nL o P pc (ab_nx j (ab_lbin (fun x y => x * y))) := ab_lbin_ok hj fun _ _ _ _ _ _ _ _ k => lv_lmul C.1 C.2.1 hd k
theorem ok_land (C : ab_cx p l e R s m args below meth c D cl cA E y cc nL ret Ts rm) (hd : decode cc pc = .ok (.land, 1)) (hj : P j = pc + 1) : ab_ok p l e R s m args below meth c Q b D cl cA nL o P pc (ab_nx j (ab_lbin (fun x y => x &&& y))) := ab_lbin_ok hj fun _ _ _ _ _ _ _ _ k => lv_land C.1 C.2.1 hd k
theorem ok_lor (C : ab_cx p l e R s m args below meth c D cl cA E y cc nL ret Ts rm) (hd : decode cc pc = .ok (.lor, 1)) (hj : P j = pc + 1) : ab_ok p l e R s m args below meth c Q b D cl cA nL o P pc (ab_nx j (ab_lbin (fun x y => x ||| y))) := ab_lbin_ok hj fun _ _ _ _ _ _ _ _ k => lv_lor C.1 C.2.1 hd k
theorem ok_lshl (C : ab_cx p l e R s m args below meth c D cl cA E y cc nL ret Ts rm) (hd : decode cc pc = .ok (.lshl, 1)) (hj : P j = pc + 1) : ab_ok p l e R s m args below meth c Q b D cl cA nL o P pc (ab_nx j (ab_lsh (fun x y => x <<< (y.toInt64 &&& 63)))) := ab_lsh_ok hj fun _ _ _ _ _ _ _ _ k => lv_lshl C.1 C.2.1 hd rfl k
theorem ok_lcmp (C : ab_cx p l e R s m args below meth c D cl cA E y cc nL ret Ts rm) (hd : decode cc pc = .ok (.lcmp, 1)) (hj : P j = pc + 1) : ab_ok p l e R s m args below meth c Q b D cl cA nL o P pc (ab_nx j ab_lcmp) := ab_lcmp_ok C.1 C.2.1 hd hj
theorem ok_i2l (C : ab_cx p l e R s m args below meth c D cl cA E y cc nL ret Ts rm) (hd : decode cc pc = .ok (.i2l, 1)) (hj : P j = pc + 1) : ab_ok p l e R s m args below meth c Q b D cl cA nL o P pc (ab_nx j ab_i2l) := ab_i2l_ok C.1 C.2.1 hd hj
theorem ok_l2i (C : ab_cx p l e R s m args below meth c D cl cA E y cc nL ret Ts rm) (hd : decode cc pc = .ok (.l2i, 1)) (hj : P j = pc + 1) : ab_ok p l e R s m args below meth c Q b D cl cA nL o P pc (ab_nx j ab_l2i) := ab_l2i_ok C.1 C.2.1 hd hj
theorem ok_dup (C : ab_cx p l e R s m args below meth c D cl cA E y cc nL ret Ts rm) (hd : decode cc pc = .ok (.dup, 1)) (hj : P j = pc + 1) : ab_ok p l e R s m args below meth c Q b D cl cA nL o P pc (ab_nx j ab_dup) := ab_dup_ok C.1 C.2.1 hd hj
theorem ok_dup2 (C : ab_cx p l e R s m args below meth c D cl cA E y cc nL ret Ts rm) (hd : decode cc pc = .ok (.dup2, 1)) (hj : P j = pc + 1) : ab_ok p l e R s m args below meth c Q b D cl cA nL o P pc (ab_nx j ab_dup2) := ab_dup2_ok C.1 C.2.1 hd hj
theorem ok_pop (C : ab_cx p l e R s m args below meth c D cl cA E y cc nL ret Ts rm) (hd : decode cc pc = .ok (.pop, 1)) (hj : P j = pc + 1) : ab_ok p l e R s m args below meth c Q b D cl cA nL o P pc (ab_nx j ab_pop) := ab_pop_ok C.1 C.2.1 hd hj
theorem ok_goto (C : ab_cx p l e R s m args below meth c D cl cA E y cc nL ret Ts rm) {off : Int} {tg : Nat} (hd : decode cc pc = .ok (.goto off, 3)) (ho : (pc : Int) + off = (tg : Int)) (ht : P t = tg) : ab_ok p l e R s m args below meth c Q b D cl cA nL o P pc (ab_goto t) := ab_goto_ok C.1 C.2.1 hd ho ht
theorem ok_nonnull (C : ab_cx p l e R s m args below meth c D cl cA E y cc nL ret Ts rm) {off : Int} {tg : Nat} (hd : decode cc pc = .ok (.ifnonnull off, 3)) (ho : (pc : Int) + off = (tg : Int)) (ht : P t = tg) (hj : P j = pc + 3) : ab_ok p l e R s m args below meth c Q b D cl cA nL o P pc (ab_nonnull j t) := ab_nonnull_ok C.1 C.2.1 hd ho hj ht
theorem ok_ifeq (C : ab_cx p l e R s m args below meth c D cl cA E y cc nL ret Ts rm) {off : Int} {tg : Nat} (hd : decode cc pc = .ok (.ifCond .eq off, 3)) (ho : (pc : Int) + off = (tg : Int)) (ht : P t = tg) (hj : P j = pc + 3) : ab_ok p l e R s m args below meth c Q b D cl cA nL o P pc (ab_if j t (fun x => decide (x = 0))) := ab_if_ok hj ht fun _ _ _ _ _ _ _ h1 h2 => lv_if_eq C.1 C.2.1 hd ho (fun q => h1 (decide_eq_true q)) (fun q => h2 (decide_eq_false q))
theorem ok_ifne (C : ab_cx p l e R s m args below meth c D cl cA E y cc nL ret Ts rm) {off : Int} {tg : Nat} (hd : decode cc pc = .ok (.ifCond .ne off, 3)) (ho : (pc : Int) + off = (tg : Int)) (ht : P t = tg) (hj : P j = pc + 3) : ab_ok p l e R s m args below meth c Q b D cl cA nL o P pc (ab_if j t (fun x => !decide (x = 0))) := ab_if_ok hj ht fun _ _ _ _ _ _ _ h1 h2 => lv_if_ne C.1 C.2.1 hd ho (fun q => h1 (by simpa using q)) (fun q => h2 (by simpa using q))
theorem ok_iflt (C : ab_cx p l e R s m args below meth c D cl cA E y cc nL ret Ts rm) {off : Int} {tg : Nat} (hd : decode cc pc = .ok (.ifCond .lt off, 3)) (ho : (pc : Int) + off = (tg : Int)) (ht : P t = tg) (hj : P j = pc + 3) : ab_ok p l e R s m args below meth c Q b D cl cA nL o P pc (ab_if j t (fun x => decide (x < 0))) := ab_if_ok hj ht fun _ _ _ _ _ _ _ h1 h2 => lv_if_lt C.1 C.2.1 hd ho (fun q => h1 (decide_eq_true q)) (fun q => h2 (decide_eq_false q))
theorem ok_ifge (C : ab_cx p l e R s m args below meth c D cl cA E y cc nL ret Ts rm) {off : Int} {tg : Nat} (hd : decode cc pc = .ok (.ifCond .ge off, 3)) (ho : (pc : Int) + off = (tg : Int)) (ht : P t = tg) (hj : P j = pc + 3) : ab_ok p l e R s m args below meth c Q b D cl cA nL o P pc (ab_if j t (fun x => decide (0 ≤ x))) := ab_if_ok hj ht fun _ _ _ _ _ _ _ h1 h2 => lv_if_ge C.1 C.2.1 hd ho (fun q => h1 (decide_eq_true q)) (fun q => h2 (decide_eq_false q))
theorem ok_ifgt (C : ab_cx p l e R s m args below meth c D cl cA E y cc nL ret Ts rm) {off : Int} {tg : Nat} (hd : decode cc pc = .ok (.ifCond .gt off, 3)) (ho : (pc : Int) + off = (tg : Int)) (ht : P t = tg) (hj : P j = pc + 3) : ab_ok p l e R s m args below meth c Q b D cl cA nL o P pc (ab_if j t (fun x => decide (0 < x))) := ab_if_ok hj ht fun _ _ _ _ _ _ _ h1 h2 => lv_if_gt C.1 C.2.1 hd ho (fun q => h1 (decide_eq_true q)) (fun q => h2 (decide_eq_false q))
theorem ok_ifle (C : ab_cx p l e R s m args below meth c D cl cA E y cc nL ret Ts rm) {off : Int} {tg : Nat} (hd : decode cc pc = .ok (.ifCond .le off, 3)) (ho : (pc : Int) + off = (tg : Int)) (ht : P t = tg) (hj : P j = pc + 3) : ab_ok p l e R s m args below meth c Q b D cl cA nL o P pc (ab_if j t (fun x => decide (x ≤ 0))) := ab_if_ok hj ht fun _ _ _ _ _ _ _ h1 h2 => lv_if_le C.1 C.2.1 hd ho (fun q => h1 (decide_eq_true q)) (fun q => h2 (decide_eq_false q))
theorem ok_icmpeq (C : ab_cx p l e R s m args below meth c D cl cA E y cc nL ret Ts rm) {off : Int} {tg : Nat} (hd : decode cc pc = .ok (.if_icmp .eq off, 3)) (ho : (pc : Int) + off = (tg : Int)) (ht : P t = tg) (hj : P j = pc + 3) : ab_ok p l e R s m args below meth c Q b D cl cA nL o P pc (ab_icmp j t (fun x y => decide (x = y))) := ab_icmp_ok hj ht fun _ _ _ _ _ _ _ _ h1 h2 => lv_icmp_eq C.1 C.2.1 hd ho (fun q => h1 (decide_eq_true q)) (fun q => h2 (decide_eq_false q))
theorem ok_icmpne (C : ab_cx p l e R s m args below meth c D cl cA E y cc nL ret Ts rm) {off : Int} {tg : Nat} (hd : decode cc pc = .ok (.if_icmp .ne off, 3)) (ho : (pc : Int) + off = (tg : Int)) (ht : P t = tg) (hj : P j = pc + 3) : ab_ok p l e R s m args below meth c Q b D cl cA nL o P pc (ab_icmp j t (fun x y => !decide (x = y))) := ab_icmp_ok hj ht fun _ _ _ _ _ _ _ _ h1 h2 => lv_icmp_ne C.1 C.2.1 hd ho (fun q => h1 (by simpa using q)) (fun q => h2 (by simpa using q))
theorem ok_icmplt (C : ab_cx p l e R s m args below meth c D cl cA E y cc nL ret Ts rm) {off : Int} {tg : Nat} (hd : decode cc pc = .ok (.if_icmp .lt off, 3)) (ho : (pc : Int) + off = (tg : Int)) (ht : P t = tg) (hj : P j = pc + 3) : ab_ok p l e R s m args below meth c Q b D cl cA nL o P pc (ab_icmp j t (fun x y => decide (x < y))) := ab_icmp_ok hj ht fun _ _ _ _ _ _ _ _ h1 h2 => lv_icmp_lt C.1 C.2.1 hd ho (fun q => h1 (decide_eq_true q)) (fun q => h2 (decide_eq_false q))
theorem ok_icmpge (C : ab_cx p l e R s m args below meth c D cl cA E y cc nL ret Ts rm) {off : Int} {tg : Nat} (hd : decode cc pc = .ok (.if_icmp .ge off, 3)) (ho : (pc : Int) + off = (tg : Int)) (ht : P t = tg) (hj : P j = pc + 3) : ab_ok p l e R s m args below meth c Q b D cl cA nL o P pc (ab_icmp j t (fun x y => decide (y ≤ x))) := ab_icmp_ok hj ht fun _ _ _ _ _ _ _ _ h1 h2 => lv_icmp_ge C.1 C.2.1 hd ho (fun q => h1 (decide_eq_true q)) (fun q => h2 (decide_eq_false q))
theorem ok_icmpgt (C : ab_cx p l e R s m args below meth c D cl cA E y cc nL ret Ts rm) {off : Int} {tg : Nat} (hd : decode cc pc = .ok (.if_icmp .gt off, 3)) (ho : (pc : Int) + off = (tg : Int)) (ht : P t = tg) (hj : P j = pc + 3) : ab_ok p l e R s m args below meth c Q b D cl cA nL o P pc (ab_icmp j t (fun x y => decide (y < x))) := ab_icmp_ok hj ht fun _ _ _ _ _ _ _ _ h1 h2 => lv_icmp_gt C.1 C.2.1 hd ho (fun q => h1 (decide_eq_true q)) (fun q => h2 (decide_eq_false q))
theorem ok_icmple (C : ab_cx p l e R s m args below meth c D cl cA E y cc nL ret Ts rm) {off : Int} {tg : Nat} (hd : decode cc pc = .ok (.if_icmp .le off, 3)) (ho : (pc : Int) + off = (tg : Int)) (ht : P t = tg) (hj : P j = pc + 3) : ab_ok p l e R s m args below meth c Q b D cl cA nL o P pc (ab_icmp j t (fun x y => decide (x ≤ y))) := ab_icmp_ok hj ht fun _ _ _ _ _ _ _ _ h1 h2 => lv_icmp_le C.1 C.2.1 hd ho (fun q => h1 (decide_eq_true q)) (fun q => h2 (decide_eq_false q))
end AB
end
section

/-! ===== BEGIN exceptions that leave a method, and their catching by the caller (launches without stack traces) ===== -/
section VXA
/-! The laws vx_back, vx_callV, vx_callS, vx_callSW, vx_throw0, vx_throwS follow proofs of the library, with one case more: JvmDerived/Free/Laws.lean (Back.of_free), Shelf42/LK1.lean (callV, callS), Shelf/KitTraced.lean (throwNew0V, throwNewS). -/
/-- where a method has thrown q: the class by its name, the cell, what was written, the world -/
def vx_T (XC : String → State → State → Prop) (st : State) (q : Addr) (t : State) (mc ms : Nat) (free : Addr → Prop) : Prop :=
  ∃ (E : String) (ce : Cell) (L : List Loc), XC E st t ∧ t.heap[q]? = some ce ∧ ce.vm = .none ∧ st.vm.findClass E = some ce.cls ∧ st.WarmedH t.vm ∧ st.sameButNew ({ t with vm := st.vm } : State) L mc ms ∧ ∀ z ∈ L, free z.base
def vx_Q (Qc : Array Value → State → Outcome → State → Prop) (XC : String → State → State → Prop) (mc ms : Nat) (free : Addr → Prop) : Array Value → State → Outcome → State → Prop := fun a st o t =>
  (Qc a st o t ∧ ∃ L, FrameEnd st o t L mc ms ∧ ∀ q ∈ L, free q.base) ∨ ∃ q, o = .threw q ∧ vx_T XC st q t mc ms free
/-- a callee that returns or throws -/
def vx_Met (l : Launch) (y : MethodName) (ws : List Cond) (rm : Room) (Pc : Array Value → State → Prop) (Qc : Array Value → State → Outcome → State → Prop) (XC : String → State → State → Prop) (mc ms : Nat) (free : Addr → Prop) : Prop :=
  MetFree l y (headSpec ws rm) Pc (fun _ _ _ _ _ => True) (vx_Q Qc XC mc ms free)
def vx_Post (XC : String → State → State → Prop) (mc ms : Nat) (free : Addr → Prop) : Pt → Array Value → Addr → Pt → Prop := fun A a q B =>
  ∃ (g : JFrame) (mk : MethodId) (t : State) (L : List Loc) (E : String) (ce : Cell), B.U.heap = t.heap ∧ B.U.vm = t.vm ∧ XC E (A.U.calling g mk a) t ∧ t.heap[q]? = some ce ∧ ce.vm = .none ∧ A.U.vm.findClass E = some ce.cls ∧ B.locs = A.locs ++ L ∧ (∀ z ∈ L, free z.base) ∧ B.cells = A.cells + mc ∧ B.slots = A.slots + ms
def vx_Back (l : Launch) (R : Room) (p : Program) (e : Env) (below : List Frame) (s : State) (sargs : Array Value) (y : MethodName) (len W9 : Nat)
    (Pre : Pt → Array Value → Prop) (Post : Pt → Array Value → Option Value → Pt → Prop) (PostX : Pt → Array Value → Addr → Pt → Prop) : Prop :=
  ∀ (m : MethodId) (meth : Method) (c : Code) (A : Pt) (g : JFrame) (ig : Instr) (mk : MethodId) (a : Array Value),
    Stand p l e R s m sargs below meth c A.U A.locs A.cells A.slots → g.method = m → g.locals.size = c.maxLocals → decode c.code g.pc = .ok (ig, len) →
    2 * g.monitorRoom + (g.stack.map fun v => v.category).sum ≤ W9 → A.U.methodNamed? y = some mk → Pre A a →
    (∃ (v : Option Value) (B : Pt), Stand p l e R s m sargs below meth c B.U B.locs B.cells B.slots ∧ Post A a v B ∧
      Steps p.tables e below (doInvoke e (A.U.setTop g) [] mk a).1 (B.U.setTop { g with pc := g.pc + len, stack := v.toList ++ g.stack })) ∨
    (∃ (q : Addr) (B : Pt), Stand p l e R s m sargs below meth c B.U B.locs B.cells B.slots ∧ PostX A a q B ∧
      Steps p.tables e below (doInvoke e (A.U.setTop g) [] mk a).1 ((B.U.setTop g).pushFrame (.throwing q)))
section Payer
variable {l : Launch} {R : Room} {p : Program} {e : Env} {below : List Frame} {s : State} {sargs : Array Value} {y : MethodName} {len W9 : Nat}
theorem vx_back {ws : List Cond} {rm : Room} {Pc : Array Value → State → Prop} {Qc : Array Value → State → Outcome → State → Prop} {XC : String → State → State → Prop} {mc ms : Nat} {free : Addr → Prop} {bytes : ByteArray} {maxL : Nat} {ret : Option FieldType}
    (hM : vx_Met l y ws rm Pc Qc XC mc ms free) (hblind : FrameBlind Pc) (hrc : rm.cells = mc) (hrs : rm.slots = ms)
    (hframes : rm.frames + 1 ≤ R.frames) (hlocals : W9 + (maxL + 11) + rm.locals ≤ R.locals)
    (hws : ∀ w ∈ ws, ∀ a' U, s.WarmedH U.vm → w.before a' U = true) (hcode : Cond.code y bytes maxL ret ∈ ws) (hinit : ∀ a' U, s.WarmedH U.vm → (Cond.initialized y.cls).before a' U = true) :
    vx_Back l R p e below s sargs y len W9 (PreOf R mc ms Pc) (PostOf Qc mc ms free) (vx_Post XC mc ms free) := by
  intro m meth c A g ig mk a X hg hsize hdg hW hn hp
  have h1 : (headSpec ws rm).pre.before a A.U = true := atoms_intro fun w hw => hws w hw _ _ X.warmed
  have h2 : (Cond.code y bytes maxL ret).before a A.U = true := hws _ hcode _ _ X.warmed
  have h3 : (Cond.initialized y.cls).before a A.U = true := hinit _ _ X.warmed
  have h4 : A.cells + (headSpec ws rm).room.cells ≤ R.cells := by rw [show (headSpec ws rm).room.cells = mc from hrc]; exact hp.1
  have h5 : A.slots + (headSpec ws rm).room.slots ≤ R.slots := by rw [show (headSpec ws rm).room.slots = ms from hrs]; exact hp.2.1
  have hPc : Pc a (A.U.calling g mk a) := hblind _ _ _ _ hp.2.2
  obtain ⟨U, Ls, c0, s0⟩ := A
  dsimp only [Pt.U, Pt.locs, Pt.cells, Pt.slots] at h1 h2 h3 h4 h5 X hn hPc ⊢
  obtain ⟨methY, cY, hmY, hcY, -, hlY, -, -, -, -⟩ := Cond.code_spec hn h2
  obtain ⟨kY, hkY, -⟩ := className_of_methodNamed hn
  have hinitY : kY.init = .initialized := Cond.initialized_spec (findClass_of_methodNamed hn) hkY h3
  have h : At U g.method c below := by rw [hg]; exact X.here
  have hlocals9 : W9 + (maxL + 11) + (headSpec ws rm).room.locals ≤ R.locals := hlocals
  have happ : (headSpec ws rm).appliesLoose y e.platform (U.calling g mk a) = true :=
    Spec.appliesLoose_calling (g := g) h hdg hn hkY hinitY
      (X.room_calling (g := g) (R' := (headSpec ws rm).room) hsize hmY hcY hframes (by rw [hlY]; omega) h4 h5) h1
  obtain ⟨mid, hmid⟩ := h.above
  have hfr : (U.setTop g).frames = (.java g :: mid) ++ below := by rw [State.frames_setTop' g h.top, hmid]; rfl
  obtain ⟨o, s₂, hsteps, -, hend, hq⟩ := Steps.callFree hM p X.admits X.cas X.clock (acts := []) hfr happ hPc trivial
  have hq' : vx_Q Qc XC mc ms free a (U.calling g mk a) o s₂ := hq
  rw [State.frames_setTop' g h.top] at hend
  obtain ⟨g₀, hg0⟩ := Option.isSome_iff_exists.mp h.top
  obtain ⟨r, hr⟩ := State.topJava?_eq_some.mp hg0
  have hr' : (({ U with heap := s₂.heap, slotsUsed := s₂.slotsUsed } : State).setVm s₂.vm).frames = .java g₀ :: r := hr
  rcases hq' with ⟨hqc, L, hfe, hL⟩ | ⟨q, rfl, E, ce, L, hx, hce, hcv, hcl, hW₂, hsm, hL⟩
  · obtain ⟨⟨v, rfl⟩, hW₂, e2, q2, q3, q4, q5, q6⟩ := id hfe
    have e3 : s₂ = ({ (U.calling g mk a).setFrames s₂.frames with heap := s₂.heap, slotsUsed := s₂.slotsUsed } : State).setVm s₂.vm := by
      have : s₂ = ({ s₂ with vm := (U.calling g mk a).vm } : State).setVm s₂.vm := rfl
      rw [e2] at this
      exact this
    obtain ⟨c₂, i₂, len₂, hc₂, hd₂, hf₂⟩ := hend
    have hW' : U.WarmedH s₂.vm := hW₂
    have hcc : c₂ = c := by
      have h1 : s₂.code? g.method = U.code? g.method := by
        rw [State.code?_eq, State.code?_eq, hW'.alike.method?]
      exact Option.some.inj (hc₂.symm.trans (h1.trans h.code))
    subst hcc
    have hlen : len₂ = len := by rw [hdg] at hd₂; cases hd₂; rfl
    subst hlen
    have hs₂ : s₂ = (({ U with heap := s₂.heap, slotsUsed := s₂.slotsUsed } : State).setVm s₂.vm).setTop { g with pc := g.pc + len₂, stack := v.toList ++ g.stack } := by
      refine e3.trans ?_
      rw [hf₂, State.calling_eq h.top, State.setFrames_setFrames, State.setTop_of_frames _ hr', hr]
      rfl
    have hsame : U.sameButNew ({ U with heap := s₂.heap, slotsUsed := s₂.slotsUsed } : State) L mc ms := by
      refine ⟨?_, q2, q3, q4, q5, q6⟩
      obtain ⟨t, ht, -⟩ := State.frames_cons hr
      show ({ U with heap := s₂.heap, slotsUsed := s₂.slotsUsed } : State) = { U.setFrames U.frames with heap := s₂.heap, slotsUsed := s₂.slotsUsed }
      rw [State.setFrames_self ht]
    subst hg
    refine Or.inl ⟨v, ⟨(({ U with heap := s₂.heap, slotsUsed := s₂.slotsUsed } : State).setVm s₂.vm), Ls ++ L, c0 + mc, s0 + ms⟩,
      ⟨X.admits, X.cas, X.clock, X.frames, X.room, X.hears, X.method, X.code, (X.here.setHeapUsed s₂.heap s₂.slotsUsed).setVm hW'.alike, X.tail, State.WarmedH.trans X.warmed hW', X.limits, X.bytes, X.same.trans (hsame.setVm s.vm)⟩,
      ⟨g, mk, s₂, L, rfl, rfl, hqc, rfl, hL, rfl, rfl⟩, ?_⟩
    show Steps p.tables e below _ ((({ U with heap := s₂.heap, slotsUsed := s₂.slotsUsed } : State).setVm s₂.vm).setTop { g with pc := g.pc + len₂, stack := v.toList ++ g.stack })
    rw [← hs₂]
    exact hsteps
  · obtain ⟨e2, q2, q3, q4, q5, q6⟩ := id hsm
    have e3 : s₂ = ({ (U.calling g mk a).setFrames s₂.frames with heap := s₂.heap, slotsUsed := s₂.slotsUsed } : State).setVm s₂.vm := by
      have : s₂ = ({ s₂ with vm := (U.calling g mk a).vm } : State).setVm s₂.vm := rfl
      rw [e2] at this
      exact this
    have hf₂ : s₂.frames = .throwing q :: .java g :: U.frames.tail := hend
    have hW' : U.WarmedH s₂.vm := hW₂
    have hs₂ : s₂ = ((({ U with heap := s₂.heap, slotsUsed := s₂.slotsUsed } : State).setVm s₂.vm).setTop g).pushFrame (.throwing q) := by
      refine e3.trans ?_
      rw [hf₂, State.calling_eq h.top, State.setFrames_setFrames, State.pushFrame, State.frames_setTop _ hr', State.setTop_of_frames _ hr', State.setFrames_setFrames, hr]
      rfl
    have hsame : U.sameButNew ({ U with heap := s₂.heap, slotsUsed := s₂.slotsUsed } : State) L mc ms := by
      refine ⟨?_, q2, q3, q4, q5, q6⟩
      obtain ⟨t, ht, -⟩ := State.frames_cons hr
      show ({ U with heap := s₂.heap, slotsUsed := s₂.slotsUsed } : State) = { U.setFrames U.frames with heap := s₂.heap, slotsUsed := s₂.slotsUsed }
      rw [State.setFrames_self ht]
    subst hg
    refine Or.inr ⟨q, ⟨(({ U with heap := s₂.heap, slotsUsed := s₂.slotsUsed } : State).setVm s₂.vm), Ls ++ L, c0 + mc, s0 + ms⟩,
      ⟨X.admits, X.cas, X.clock, X.frames, X.room, X.hears, X.method, X.code, (X.here.setHeapUsed s₂.heap s₂.slotsUsed).setVm hW'.alike, X.tail, State.WarmedH.trans X.warmed hW', X.limits, X.bytes, X.same.trans (hsame.setVm s.vm)⟩,
      ⟨g, mk, s₂, L, E, ce, rfl, rfl, hx, hce, hcv, hcl, rfl, hL, rfl, rfl⟩, ?_⟩
    show Steps p.tables e below _ (((({ U with heap := s₂.heap, slotsUsed := s₂.slotsUsed } : State).setVm s₂.vm).setTop g).pushFrame (.throwing q))
    rw [← hs₂]
    exact hsteps
end Payer
section Calls
variable {p : Program} {l : Launch} {e : Env} {R : Room} {s : State} {m : MethodId} {args : Array Value} {below : List Frame} {meth : Method} {c : Code} {T : State} {locs : List Loc} {cells slots : Nat}
theorem vx_callV (X : Stand p l e R s m args below meth c T locs cells slots) (hexec : p.tables.exec = Jvm.exec) {own C : String} {index : Nat} {y : MethodName} {bytes : ByteArray} {maxL : Nat} {ret : Option FieldType}
    (hown : s.vm.findClass own = some m.cls) (hlink : (Cond.methodLink own index y).before args s = true) (hinst : (Cond.instanceMethod y).before args s = true) (hsel : (Cond.selects C y y).before args s = true)
    (hcode : (Cond.code y bytes maxL ret).before args s = true) (hy : y.cls ≠ "java/lang/invoke/MethodHandle" ∧ y.cls ≠ "java/lang/invoke/VarHandle")
    {W9 : Nat} {Pre : Pt → Array Value → Prop} {Post : Pt → Array Value → Option Value → Pt → Prop} {PostX : Pt → Array Value → Addr → Pt → Prop} (hK : vx_Back l R p e below s args y 3 W9 Pre Post PostX)
    {b : Addr} {cellB : Cell} (hcell : T.heap[b]? = some cellB) (hobj : cellB.vm.isStatics = false) (hcls : s.vm.findClass C = some cellB.cls)
    {g : JFrame} (hg : g.method = m) (hsize : g.locals.size = c.maxLocals) {argsL rest : List Value} (hlen : ∀ sig, parseMethodDescriptor y.desc = some sig → argsL.length = sig.parameters.length)
    (hstack : g.stack = argsL.reverse ++ .ref b :: rest) (hW : 2 * g.monitorRoom + (rest.map fun v => v.category).sum ≤ W9) (hdg : decode c.code g.pc = .ok (.invokevirtual index, 3))
    (hpre : ∀ vm₁, s.WarmedH vm₁ → Pre ⟨T.setVm vm₁, locs, cells, slots⟩ (Value.ref b :: argsL).toArray) :
    (∃ (v : Option Value) (vm₁ : Vm) (B : Pt), s.WarmedH vm₁ ∧ Stand p l e R s m args below meth c B.U B.locs B.cells B.slots ∧ Post ⟨T.setVm vm₁, locs, cells, slots⟩ (Value.ref b :: argsL).toArray v B ∧
      ∀ target, Steps p.tables e below (B.U.setTop { g with pc := g.pc + 3, stack := v.toList ++ rest }) target → Steps p.tables e below (T.setTop g) target) ∨
    (∃ (q : Addr) (vm₁ : Vm) (B : Pt), s.WarmedH vm₁ ∧ Stand p l e R s m args below meth c B.U B.locs B.cells B.slots ∧ PostX ⟨T.setVm vm₁, locs, cells, slots⟩ (Value.ref b :: argsL).toArray q B ∧
      Steps p.tables e below (T.setTop g) ((B.U.setTop { g with stack := rest }).pushFrame (.throwing q))) := by
  obtain ⟨mk, methM, hnamed, hmethM, hstM, habM⟩ := Cond.instanceMethod_spec hinst
  obtain ⟨methM', cM, hmethM', -, -, -, -, -, -, hsigM⟩ := Cond.code_spec hnamed hcode
  cases hmethM.symm.trans hmethM'
  obtain ⟨c2, r2, m2, q1, q2, q3, q4, kP, hkP, hkPi⟩ := Cond.selects_spec hsel
  cases hcls.symm.trans q1
  cases (State.methodFound?_of_named hnamed hy).symm.trans q2
  cases hnamed.symm.trans q3
  have hselP : selectMethod e.platform s.vm cellB.cls mk = .method mk := by rw [Launch.admits_selectMethod X.admits]; exact q4
  obtain ⟨vm₁, X₁, hstep₁⟩ := X.invokevirtual hexec hown hlink hnamed hmethM hstM hkP hkPi hy (a := b) (cell := cellB) hcell
    (fun z h => by rw [h] at hobj; cases hobj) hselP hmethM habM hkP hkPi (g := g) hg (argsL := argsL) (rest := rest) (hlen _ hsigM) hstack hdg
  rcases hK m meth c ⟨T.setVm vm₁, locs, cells, slots⟩ { g with stack := rest } (.invokevirtual index) mk (Value.ref b :: argsL).toArray X₁ hg hsize hdg hW (X₁.named hnamed) (hpre vm₁ X₁.warmed) with ⟨v, B, X', hpost, hsteps⟩ | ⟨q, B, X', hpost, hsteps⟩
  · exact Or.inl ⟨v, vm₁, B, X₁.warmed, X', hpost, fun target h => hstep₁ _ fun acts => by rw [doInvoke_state]; exact hsteps.trans h⟩
  · exact Or.inr ⟨q, vm₁, B, X₁.warmed, X', hpost, hstep₁ _ fun acts => by rw [doInvoke_state]; exact hsteps⟩
theorem vx_callS (X : Stand p l e R s m args below meth c T locs cells slots) (hexec : p.tables.exec = Jvm.exec) {own : String} {index : Nat} {y : MethodName} {bytes : ByteArray} {maxL : Nat} {ret : Option FieldType}
    (hown : s.vm.findClass own = some m.cls) (hlink : (Cond.methodLink own index y).before args s = true) (hstat : (Cond.static y).before args s = true) (hinit : (Cond.initialized y.cls).before args s = true)
    (hcode : (Cond.code y bytes maxL ret).before args s = true) (hy : y.cls ≠ "java/lang/invoke/MethodHandle" ∧ y.cls ≠ "java/lang/invoke/VarHandle")
    {W9 : Nat} {Pre : Pt → Array Value → Prop} {Post : Pt → Array Value → Option Value → Pt → Prop} {PostX : Pt → Array Value → Addr → Pt → Prop} (hK : vx_Back l R p e below s args y 3 W9 Pre Post PostX)
    {g : JFrame} (hg : g.method = m) (hsize : g.locals.size = c.maxLocals) {argsL rest : List Value} (hlen : ∀ sig, parseMethodDescriptor y.desc = some sig → argsL.length = sig.parameters.length)
    (hstack : g.stack = argsL.reverse ++ rest) (hW : 2 * g.monitorRoom + (rest.map fun v => v.category).sum ≤ W9) (hdg : decode c.code g.pc = .ok (.invokestatic index, 3))
    (hpre : ∀ vm₁, s.WarmedH vm₁ → Pre ⟨T.setVm vm₁, locs, cells, slots⟩ argsL.toArray) :
    (∃ (v : Option Value) (vm₁ : Vm) (B : Pt), s.WarmedH vm₁ ∧ Stand p l e R s m args below meth c B.U B.locs B.cells B.slots ∧ Post ⟨T.setVm vm₁, locs, cells, slots⟩ argsL.toArray v B ∧
      ∀ target, Steps p.tables e below (B.U.setTop { g with pc := g.pc + 3, stack := v.toList ++ rest }) target → Steps p.tables e below (T.setTop g) target) ∨
    (∃ (q : Addr) (vm₁ : Vm) (B : Pt), s.WarmedH vm₁ ∧ Stand p l e R s m args below meth c B.U B.locs B.cells B.slots ∧ PostX ⟨T.setVm vm₁, locs, cells, slots⟩ argsL.toArray q B ∧
      Steps p.tables e below (T.setTop g) ((B.U.setTop { g with stack := rest }).pushFrame (.throwing q))) := by
  obtain ⟨mk, hnamed⟩ := Cond.code_named hcode
  obtain ⟨methM, cM, hmethM, -, -, -, -, -, -, hsigM⟩ := Cond.code_spec hnamed hcode
  have hstatic : methM.isStatic = true := Cond.static_spec hnamed hmethM hstat
  obtain ⟨kP, hkP, -⟩ := className_of_methodNamed hnamed
  have hinitP : kP.init = .initialized := Cond.initialized_spec (findClass_of_methodNamed hnamed) hkP hinit
  obtain ⟨vm₁, X₁, hstep₁⟩ := X.invokestatic hexec hown hlink hnamed hmethM hstatic hkP hinitP hy (g := g) hg (argsL := argsL) (rest := rest) (hlen _ hsigM) hstack hdg
  rcases hK m meth c ⟨T.setVm vm₁, locs, cells, slots⟩ { g with stack := rest } (.invokestatic index) mk argsL.toArray X₁ hg hsize hdg hW (X₁.named hnamed) (hpre vm₁ X₁.warmed) with ⟨v, B, X', hpost, hsteps⟩ | ⟨q, B, X', hpost, hsteps⟩
  · exact Or.inl ⟨v, vm₁, B, X₁.warmed, X', hpost, fun target h => hstep₁ _ fun acts => by rw [doInvoke_state]; exact hsteps.trans h⟩
  · exact Or.inr ⟨q, vm₁, B, X₁.warmed, X', hpost, hstep₁ _ fun acts => by rw [doInvoke_state]; exact hsteps⟩
end Calls
theorem vx_cls {s : State} {T : State} {vm₁ : Vm} {E : String} {k : ClassId} (hW : s.WarmedH vm₁) (h : (T.setVm vm₁).vm.findClass E = some k) : s.vm.findClass E = some k := by
  have h1 : vm₁.findClass E = some k := h
  rw [hW.alike.findClass] at h1
  exact h1
/-- the method's frame g, with q thrown over it -/
def vx_W (p : Program) (l : Launch) (e : Env) (R : Room) (s : State) (m : MethodId) (args : Array Value) (below : List Frame) (meth : Method) (c : Code) (H : Heap) (locs : List Loc) (cells slots : Nat) (Q : State → Prop) (g : JFrame) (q : Addr) : Prop :=
  ∀ T : State, T.heap = H → Stand p l e R s m args below meth c T locs cells slots → ∃ t, Steps p.tables e below ((T.setTop g).pushFrame (.throwing q)) t ∧ Q t
def vx_Run (p : Program) (l : Launch) (e : Env) (R : Room) (s : State) (m : MethodId) (args : Array Value) (below : List Frame) (meth : Method) (c : Code) (H : Heap) (locs : List Loc) (cells slots mc ms : Nat) (g : JFrame) (rest : List Value) (Qa : State → Outcome → State → Prop) (XC : String → State → State → Prop) (free : Addr → Prop) : Prop :=
  ∀ T : State, T.heap = H → Stand p l e R s m args below meth c T locs cells slots →
    (∃ (v : Option Value) (st₀ t T' : State) (L : List Loc), st₀.heap = H ∧ Stand p l e R s m args below meth c T' (locs ++ L) (cells + mc) (slots + ms) ∧ (∀ q ∈ L, free q.base) ∧ T'.heap = t.heap ∧ T'.vm = t.vm ∧ Qa st₀ (.returned v) t ∧
      Goes p e below T g T' { g with pc := g.pc + 3, stack := v.toList ++ rest }) ∨
    (∃ (q : Addr) (st₀ t T' : State) (L : List Loc) (E : String) (ce : Cell), st₀.heap = H ∧ Stand p l e R s m args below meth c T' (locs ++ L) (cells + mc) (slots + ms) ∧ (∀ z ∈ L, free z.base) ∧ T'.heap = t.heap ∧ T'.vm = t.vm ∧ XC E st₀ t ∧ t.heap[q]? = some ce ∧ ce.vm = .none ∧ s.vm.findClass E = some ce.cls ∧
      Steps p.tables e below (T.setTop g) ((T'.setTop { g with stack := rest }).pushFrame (.throwing q)))
def vx_X {S : Type} (px : S → Prop) (B : String → S → State → Prop) (A : Nat → Prop) : String → State → State → Prop := fun E st t => ∃ u : S, px u ∧ B E u t ∧ va_F A st t
section Runs
variable {p : Program} {l : Launch} {e : Env} {R : Room} {s : State} {m : MethodId} {args : Array Value} {below : List Frame} {meth : Method} {c : Code} {H : Heap} {locs : List Loc} {cells slots : Nat}
variable {y : MethodName} {bytes cc : ByteArray} {maxL nL mc ms n index : Nat} {ret : Option FieldType} {ws : List Cond} {rm : Room} {Pc : Array Value → State → Prop} {Qc : Array Value → State → Outcome → State → Prop} {XC : String → State → State → Prop} {free : Addr → Prop} {Ts : List Cond} {own C : String} {b : Addr} {As rest : List Value} {g : JFrame}
theorem vx_callBack (cb : CallB R s args own index y bytes maxL ret ws rm mc ms n) (hM : vx_Met l y ws rm Pc Qc XC mc ms free) (hbl : FrameBlind Pc) : vx_Back l R p e below s args y 3 8 (PreOf R mc ms Pc) (PostOf Qc mc ms free) (vx_Post XC mc ms free) := by
  obtain ⟨hrc, hrs, hfr, hlo, hws, hcw, -, hini, -⟩ := cb
  exact vx_back (bytes := bytes) (maxL := maxL) (ret := ret) hM hbl hrc hrs hfr hlo hws hcw (fun a' U hW => word_at hW (Or.inl (by first | rfl | simp [Cond.onTables, Cond.keeps, Cond.steady])) hini)
theorem vx_runV (S : CallFix p m c cc nL s args Ts own) (hM : vx_Met l y ws rm Pc Qc XC mc ms free) (cw : CallW R s args own C index y bytes maxL ret ws rm mc ms n) (hp : PreV s H C b Pc As)
    (hg : g.method = m) (hn : As.length = n) (hsize : g.locals.size = nL) (hstack : g.stack = As.reverse ++ .ref b :: rest) (hW : 2 * g.monitorRoom + (rest.map fun v => v.category).sum ≤ 8) (hdg : decode cc g.pc = .ok (.invokevirtual index, 3)) (hf : cells + mc ≤ R.cells ∧ slots + ms ≤ R.slots) :
    vx_Run p l e R s m args below meth c H locs cells slots mc ms g rest (Qc (Value.ref b :: As).toArray) XC free := by
  have hK : vx_Back l R p e below s args y 3 8 (PreOf R mc ms Pc) (PostOf Qc mc ms free) (vx_Post XC mc ms free) := vx_callBack cw.1 hM hp.1
  obtain ⟨⟨-, -, -, -, -, -, hcode, -, hy, hlen, hl⟩, hin, hse⟩ := cw
  obtain ⟨hx, hb, hml, ho, -⟩ := S
  obtain ⟨-, ⟨cellB, hcB, hoB, hclB⟩, hPc⟩ := hp
  intro T hT X
  rcases vx_callV X hx (C := C) (bytes := bytes) (maxL := maxL) (ret := ret) ho hl hin hse hcode hy hK (by rw [hT]; exact hcB) hoB hclB hg (hsize.trans hml.symm) (argsL := As) (rest := rest) (fun sig h => hn.trans (hlen sig h)) hstack hW (by rw [hb]; exact hdg)
    (fun vm₁ hW₁ => ⟨hf.1, hf.2, hPc (T.setVm vm₁) hT hW₁⟩) with ⟨v, vm₁, ⟨U', l2, c2, s2⟩, hW₁, X', ⟨g', mk, t, L, e1, e2, hq, h1, hL, h2, h3⟩, st⟩ | ⟨q, vm₁, ⟨U', l2, c2, s2⟩, hW₁, X', ⟨g', mk, t, L, E, ce, e1, e2, hq, hce, hcv, hcl, h1, hL, h2, h3⟩, st⟩
  · dsimp only [Pt.U, Pt.locs, Pt.cells, Pt.slots] at X' e1 e2 h1 h2 h3 st
    subst h1; subst h2; subst h3
    exact Or.inl ⟨v, (T.setVm vm₁).calling g' mk (Value.ref b :: As).toArray, t, U', L, hT, X', hL, e1, e2, hq, st⟩
  · dsimp only [Pt.U, Pt.locs, Pt.cells, Pt.slots] at X' e1 e2 h1 h2 h3 st hcl
    subst h1; subst h2; subst h3
    exact Or.inr ⟨q, (T.setVm vm₁).calling g' mk (Value.ref b :: As).toArray, t, U', L, E, ce, hT, X', hL, e1, e2, hq, hce, hcv, vx_cls hW₁ hcl, st⟩
theorem vx_runS (S : CallFix p m c cc nL s args Ts own) (hM : vx_Met l y ws rm Pc Qc XC mc ms free) (cw : CallB R s args own index y bytes maxL ret ws rm mc ms n ∧ (Cond.static y).before args s = true) (hp : PreS s H Pc As)
    (hg : g.method = m) (hn : As.length = n) (hsize : g.locals.size = nL) (hstack : g.stack = As.reverse ++ rest) (hW : 2 * g.monitorRoom + (rest.map fun v => v.category).sum ≤ 8) (hdg : decode cc g.pc = .ok (.invokestatic index, 3)) (hf : cells + mc ≤ R.cells ∧ slots + ms ≤ R.slots) :
    vx_Run p l e R s m args below meth c H locs cells slots mc ms g rest (Qc As.toArray) XC free := by
  have hK : vx_Back l R p e below s args y 3 8 (PreOf R mc ms Pc) (PostOf Qc mc ms free) (vx_Post XC mc ms free) := vx_callBack cw.1 hM hp.1
  obtain ⟨⟨-, -, -, -, -, -, hcode, hini, hy, hlen, hl⟩, hstt⟩ := cw
  obtain ⟨hx, hb, hml, ho, -⟩ := S
  intro T hT X
  rcases vx_callS X hx (bytes := bytes) (maxL := maxL) (ret := ret) ho hl hstt hini hcode hy hK hg (hsize.trans hml.symm) (argsL := As) (rest := rest) (fun sig h => hn.trans (hlen sig h)) hstack hW (by rw [hb]; exact hdg)
    (fun vm₁ hW₁ => ⟨hf.1, hf.2, hp.2 (T.setVm vm₁) hT hW₁⟩) with ⟨v, vm₁, ⟨U', l2, c2, s2⟩, hW₁, X', ⟨g', mk, t, L, e1, e2, hq, h1, hL, h2, h3⟩, st⟩ | ⟨q, vm₁, ⟨U', l2, c2, s2⟩, hW₁, X', ⟨g', mk, t, L, E, ce, e1, e2, hq, hce, hcv, hcl, h1, hL, h2, h3⟩, st⟩
  · dsimp only [Pt.U, Pt.locs, Pt.cells, Pt.slots] at X' e1 e2 h1 h2 h3 st
    subst h1; subst h2; subst h3
    exact Or.inl ⟨v, (T.setVm vm₁).calling g' mk As.toArray, t, U', L, hT, X', hL, e1, e2, hq, st⟩
  · dsimp only [Pt.U, Pt.locs, Pt.cells, Pt.slots] at X' e1 e2 h1 h2 h3 st hcl
    subst h1; subst h2; subst h3
    exact Or.inr ⟨q, (T.setVm vm₁).calling g' mk As.toArray, t, U', L, E, ce, hT, X', hL, e1, e2, hq, hce, hcv, vx_cls hW₁ hcl, st⟩
end Runs
section Rows
variable {p : Program} {l : Launch} {e : Env} {R : Room} {s : State} {m : MethodId} {args : Array Value} {below : List Frame} {meth : Method} {c : Code} {H : Heap} {locs : List Loc} {cells slots : Nat} {Q : State → Prop}
variable {mc ms : Nat} {free : Addr → Prop} {A0 A1 : Nat → Prop} {H0 : Heap} {a : Array Value} {pc : Nat} {ls : Array Slot} {st0 rest : List Value}
theorem vx_keep {st₀ t T' : State} {L : List Loc} (h0 : st₀.heap = H) (e1 : T'.heap = t.heap) (hS : va_S A0 H0 H locs) (hA : ∀ q, q < H.size → A1 q → A0 q) (hf : ∀ q, free q → A0 q) (hL : ∀ q ∈ L, free q.base) (hF : va_F A1 st₀ t) :
    H.size ≤ T'.heap.size ∧ (∀ q : Nat, q < H.size → ¬ A1 q → T'.heap[q]? = H[q]?) ∧ va_S A0 H0 T'.heap (locs ++ L) := by
  obtain ⟨hz, hk⟩ := hF
  rw [h0] at hz hk
  exact ⟨by rw [e1]; exact hz, fun q h1 h2 => by rw [e1]; exact hk q h1 h2,
    ⟨Nat.le_trans hS.1 (by rw [e1]; exact hz), fun q h1 h2 => by rw [e1, hk q (Nat.lt_of_lt_of_le h1 hS.1) (fun z => h2 (hA q (Nat.lt_of_lt_of_le h1 hS.1) z))]; exact hS.2.1 q h1 h2, fun q hq => by
      rcases List.mem_append.mp hq with h | h
      · exact hS.2.2 q h
      · exact hf _ (hL q h)⟩⟩
theorem vx_calli {S SX : Type} {post : Int32 → S → Prop} {px : SX → Prop} {B : S → State → Prop} {BX : String → SX → State → Prop} {AX : Nat → Prop} (hr : vx_Run p l e R s m args below meth c H locs cells slots mc ms (F0 m pc ls st0) rest (va_Qi post B A1 a) (vx_X px BX AX) free) (hS : va_S A0 H0 H locs) (hA : ∀ q, q < H.size → A1 q → A0 q) (hf : ∀ q, free q → A0 q) (hAX : ∀ q, q < H.size → AX q → A0 q)
    (kx : ∀ (E : String) (ce : Cell) (q9 : Addr) (u : SX) (t : State) (H1 : Heap) (locs1 : List Loc), t.heap = H1 → s.vm.Alike t.vm → px u → BX E u t → H.size ≤ H1.size → (∀ q : Nat, q < H.size → ¬ AX q → H1[q]? = H[q]?) → va_S A0 H0 H1 locs1 → H1[q9]? = some ce → ce.vm = .none → s.vm.findClass E = some ce.cls → vx_W p l e R s m args below meth c H1 locs1 (cells + mc) (slots + ms) Q (F0 m pc ls rest) q9)
    (kk : ∀ (r : Int32) (u : S) (t : State) (H1 : Heap) (locs1 : List Loc), t.heap = H1 → s.vm.Alike t.vm → post r u → B u t → H.size ≤ H1.size → (∀ q : Nat, q < H.size → ¬ A1 q → H1[q]? = H[q]?) → va_S A0 H0 H1 locs1 → W p l e R s m args below meth c H1 locs1 (cells + mc) (slots + ms) Q (F0 m (pc + 3) ls (.int r :: rest))) : W p l e R s m args below meth c H locs cells slots Q (F0 m pc ls st0) := by
  intro T hT X
  rcases hr T hT X with ⟨v, st₀, t, T', L, h0, X', hL, e1, e2, ⟨⟨r, u, hv, hp, hb⟩, hF⟩, st⟩ | ⟨q, st₀, t, T', L, E, ce, h0, X', hL, e1, e2, ⟨u, hp, hb, hF⟩, hce, hcv, hcl, st⟩
  · cases hv
    obtain ⟨k1, k2, k3⟩ := vx_keep h0 e1 hS hA hf hL hF
    obtain ⟨t2, a1, b1⟩ := kk r u t T'.heap (locs ++ L) e1.symm (by rw [← e2]; exact X'.warmed.alike) hp hb k1 k2 k3 T' rfl X'
    exact ⟨t2, st t2 a1, b1⟩
  · obtain ⟨k1, k2, k3⟩ := vx_keep h0 e1 hS hAX hf hL hF
    obtain ⟨t2, a1, b1⟩ := kx E ce q u t T'.heap (locs ++ L) e1.symm (by rw [← e2]; exact X'.warmed.alike) hp hb k1 k2 k3 (by rw [e1]; exact hce) hcv hcl T' rfl X'
    exact ⟨t2, st.trans a1, b1⟩
theorem vx_calll {S SX : Type} {post : Int64 → S → Prop} {px : SX → Prop} {B : S → State → Prop} {BX : String → SX → State → Prop} {AX : Nat → Prop} (hr : vx_Run p l e R s m args below meth c H locs cells slots mc ms (F0 m pc ls st0) rest (va_Ql post B A1 a) (vx_X px BX AX) free) (hS : va_S A0 H0 H locs) (hA : ∀ q, q < H.size → A1 q → A0 q) (hf : ∀ q, free q → A0 q) (hAX : ∀ q, q < H.size → AX q → A0 q)
    (kx : ∀ (E : String) (ce : Cell) (q9 : Addr) (u : SX) (t : State) (H1 : Heap) (locs1 : List Loc), t.heap = H1 → s.vm.Alike t.vm → px u → BX E u t → H.size ≤ H1.size → (∀ q : Nat, q < H.size → ¬ AX q → H1[q]? = H[q]?) → va_S A0 H0 H1 locs1 → H1[q9]? = some ce → ce.vm = .none → s.vm.findClass E = some ce.cls → vx_W p l e R s m args below meth c H1 locs1 (cells + mc) (slots + ms) Q (F0 m pc ls rest) q9)
    (kk : ∀ (r : Int64) (u : S) (t : State) (H1 : Heap) (locs1 : List Loc), t.heap = H1 → s.vm.Alike t.vm → post r u → B u t → H.size ≤ H1.size → (∀ q : Nat, q < H.size → ¬ A1 q → H1[q]? = H[q]?) → va_S A0 H0 H1 locs1 → W p l e R s m args below meth c H1 locs1 (cells + mc) (slots + ms) Q (F0 m (pc + 3) ls (.long r :: rest))) : W p l e R s m args below meth c H locs cells slots Q (F0 m pc ls st0) := by
  intro T hT X
  rcases hr T hT X with ⟨v, st₀, t, T', L, h0, X', hL, e1, e2, ⟨⟨r, u, hv, hp, hb⟩, hF⟩, st⟩ | ⟨q, st₀, t, T', L, E, ce, h0, X', hL, e1, e2, ⟨u, hp, hb, hF⟩, hce, hcv, hcl, st⟩
  · cases hv
    obtain ⟨k1, k2, k3⟩ := vx_keep h0 e1 hS hA hf hL hF
    obtain ⟨t2, a1, b1⟩ := kk r u t T'.heap (locs ++ L) e1.symm (by rw [← e2]; exact X'.warmed.alike) hp hb k1 k2 k3 T' rfl X'
    exact ⟨t2, st t2 a1, b1⟩
  · obtain ⟨k1, k2, k3⟩ := vx_keep h0 e1 hS hAX hf hL hF
    obtain ⟨t2, a1, b1⟩ := kx E ce q u t T'.heap (locs ++ L) e1.symm (by rw [← e2]; exact X'.warmed.alike) hp hb k1 k2 k3 (by rw [e1]; exact hce) hcv hcl T' rfl X'
    exact ⟨t2, st.trans a1, b1⟩
theorem vx_callf {S SX : Type} {post : UInt32 → S → Prop} {px : SX → Prop} {B : S → State → Prop} {BX : String → SX → State → Prop} {AX : Nat → Prop} (hr : vx_Run p l e R s m args below meth c H locs cells slots mc ms (F0 m pc ls st0) rest (va_Qf post B A1 a) (vx_X px BX AX) free) (hS : va_S A0 H0 H locs) (hA : ∀ q, q < H.size → A1 q → A0 q) (hf : ∀ q, free q → A0 q) (hAX : ∀ q, q < H.size → AX q → A0 q)
    (kx : ∀ (E : String) (ce : Cell) (q9 : Addr) (u : SX) (t : State) (H1 : Heap) (locs1 : List Loc), t.heap = H1 → s.vm.Alike t.vm → px u → BX E u t → H.size ≤ H1.size → (∀ q : Nat, q < H.size → ¬ AX q → H1[q]? = H[q]?) → va_S A0 H0 H1 locs1 → H1[q9]? = some ce → ce.vm = .none → s.vm.findClass E = some ce.cls → vx_W p l e R s m args below meth c H1 locs1 (cells + mc) (slots + ms) Q (F0 m pc ls rest) q9)
    (kk : ∀ (r : UInt32) (u : S) (t : State) (H1 : Heap) (locs1 : List Loc), t.heap = H1 → s.vm.Alike t.vm → post r u → B u t → H.size ≤ H1.size → (∀ q : Nat, q < H.size → ¬ A1 q → H1[q]? = H[q]?) → va_S A0 H0 H1 locs1 → W p l e R s m args below meth c H1 locs1 (cells + mc) (slots + ms) Q (F0 m (pc + 3) ls (.float r :: rest))) : W p l e R s m args below meth c H locs cells slots Q (F0 m pc ls st0) := by
  intro T hT X
  rcases hr T hT X with ⟨v, st₀, t, T', L, h0, X', hL, e1, e2, ⟨⟨r, u, hv, hp, hb⟩, hF⟩, st⟩ | ⟨q, st₀, t, T', L, E, ce, h0, X', hL, e1, e2, ⟨u, hp, hb, hF⟩, hce, hcv, hcl, st⟩
  · cases hv
    obtain ⟨k1, k2, k3⟩ := vx_keep h0 e1 hS hA hf hL hF
    obtain ⟨t2, a1, b1⟩ := kk r u t T'.heap (locs ++ L) e1.symm (by rw [← e2]; exact X'.warmed.alike) hp hb k1 k2 k3 T' rfl X'
    exact ⟨t2, st t2 a1, b1⟩
  · obtain ⟨k1, k2, k3⟩ := vx_keep h0 e1 hS hAX hf hL hF
    obtain ⟨t2, a1, b1⟩ := kx E ce q u t T'.heap (locs ++ L) e1.symm (by rw [← e2]; exact X'.warmed.alike) hp hb k1 k2 k3 (by rw [e1]; exact hce) hcv hcl T' rfl X'
    exact ⟨t2, st.trans a1, b1⟩
theorem vx_calld {S SX : Type} {post : UInt64 → S → Prop} {px : SX → Prop} {B : S → State → Prop} {BX : String → SX → State → Prop} {AX : Nat → Prop} (hr : vx_Run p l e R s m args below meth c H locs cells slots mc ms (F0 m pc ls st0) rest (va_Qd post B A1 a) (vx_X px BX AX) free) (hS : va_S A0 H0 H locs) (hA : ∀ q, q < H.size → A1 q → A0 q) (hf : ∀ q, free q → A0 q) (hAX : ∀ q, q < H.size → AX q → A0 q)
    (kx : ∀ (E : String) (ce : Cell) (q9 : Addr) (u : SX) (t : State) (H1 : Heap) (locs1 : List Loc), t.heap = H1 → s.vm.Alike t.vm → px u → BX E u t → H.size ≤ H1.size → (∀ q : Nat, q < H.size → ¬ AX q → H1[q]? = H[q]?) → va_S A0 H0 H1 locs1 → H1[q9]? = some ce → ce.vm = .none → s.vm.findClass E = some ce.cls → vx_W p l e R s m args below meth c H1 locs1 (cells + mc) (slots + ms) Q (F0 m pc ls rest) q9)
    (kk : ∀ (r : UInt64) (u : S) (t : State) (H1 : Heap) (locs1 : List Loc), t.heap = H1 → s.vm.Alike t.vm → post r u → B u t → H.size ≤ H1.size → (∀ q : Nat, q < H.size → ¬ A1 q → H1[q]? = H[q]?) → va_S A0 H0 H1 locs1 → W p l e R s m args below meth c H1 locs1 (cells + mc) (slots + ms) Q (F0 m (pc + 3) ls (.double r :: rest))) : W p l e R s m args below meth c H locs cells slots Q (F0 m pc ls st0) := by
  intro T hT X
  rcases hr T hT X with ⟨v, st₀, t, T', L, h0, X', hL, e1, e2, ⟨⟨r, u, hv, hp, hb⟩, hF⟩, st⟩ | ⟨q, st₀, t, T', L, E, ce, h0, X', hL, e1, e2, ⟨u, hp, hb, hF⟩, hce, hcv, hcl, st⟩
  · cases hv
    obtain ⟨k1, k2, k3⟩ := vx_keep h0 e1 hS hA hf hL hF
    obtain ⟨t2, a1, b1⟩ := kk r u t T'.heap (locs ++ L) e1.symm (by rw [← e2]; exact X'.warmed.alike) hp hb k1 k2 k3 T' rfl X'
    exact ⟨t2, st t2 a1, b1⟩
  · obtain ⟨k1, k2, k3⟩ := vx_keep h0 e1 hS hAX hf hL hF
    obtain ⟨t2, a1, b1⟩ := kx E ce q u t T'.heap (locs ++ L) e1.symm (by rw [← e2]; exact X'.warmed.alike) hp hb k1 k2 k3 (by rw [e1]; exact hce) hcv hcl T' rfl X'
    exact ⟨t2, st.trans a1, b1⟩
theorem vx_callv {S SX : Type} {post : S → Prop} {px : SX → Prop} {B : S → State → Prop} {BX : String → SX → State → Prop} {AX : Nat → Prop} (hr : vx_Run p l e R s m args below meth c H locs cells slots mc ms (F0 m pc ls st0) rest (va_Qv post B A1 a) (vx_X px BX AX) free) (hS : va_S A0 H0 H locs) (hA : ∀ q, q < H.size → A1 q → A0 q) (hf : ∀ q, free q → A0 q) (hAX : ∀ q, q < H.size → AX q → A0 q)
    (kx : ∀ (E : String) (ce : Cell) (q9 : Addr) (u : SX) (t : State) (H1 : Heap) (locs1 : List Loc), t.heap = H1 → s.vm.Alike t.vm → px u → BX E u t → H.size ≤ H1.size → (∀ q : Nat, q < H.size → ¬ AX q → H1[q]? = H[q]?) → va_S A0 H0 H1 locs1 → H1[q9]? = some ce → ce.vm = .none → s.vm.findClass E = some ce.cls → vx_W p l e R s m args below meth c H1 locs1 (cells + mc) (slots + ms) Q (F0 m pc ls rest) q9)
    (kk : ∀ (u : S) (t : State) (H1 : Heap) (locs1 : List Loc), t.heap = H1 → s.vm.Alike t.vm → post u → B u t → H.size ≤ H1.size → (∀ q : Nat, q < H.size → ¬ A1 q → H1[q]? = H[q]?) → va_S A0 H0 H1 locs1 → W p l e R s m args below meth c H1 locs1 (cells + mc) (slots + ms) Q (F0 m (pc + 3) ls (rest))) : W p l e R s m args below meth c H locs cells slots Q (F0 m pc ls st0) := by
  intro T hT X
  rcases hr T hT X with ⟨v, st₀, t, T', L, h0, X', hL, e1, e2, ⟨⟨u, hv, hp, hb⟩, hF⟩, st⟩ | ⟨q, st₀, t, T', L, E, ce, h0, X', hL, e1, e2, ⟨u, hp, hb, hF⟩, hce, hcv, hcl, st⟩
  · cases hv
    obtain ⟨k1, k2, k3⟩ := vx_keep h0 e1 hS hA hf hL hF
    obtain ⟨t2, a1, b1⟩ := kk u t T'.heap (locs ++ L) e1.symm (by rw [← e2]; exact X'.warmed.alike) hp hb k1 k2 k3 T' rfl X'
    exact ⟨t2, st t2 a1, b1⟩
  · obtain ⟨k1, k2, k3⟩ := vx_keep h0 e1 hS hAX hf hL hF
    obtain ⟨t2, a1, b1⟩ := kx E ce q u t T'.heap (locs ++ L) e1.symm (by rw [← e2]; exact X'.warmed.alike) hp hb k1 k2 k3 (by rw [e1]; exact hce) hcv hcl T' rfl X'
    exact ⟨t2, st.trans a1, b1⟩
end Rows
section Ends
variable {p : Program} {l : Launch} {e : Env} {R : Room} {s : State} {m : MethodId} {args : Array Value} {below : List Frame} {meth : Method} {c : Code} {H : Heap} {locs : List Loc} {cells slots : Nat} {Q : State → Prop}
variable {mc ms : Nat} {free : Addr → Prop} {A0 A1 : Nat → Prop} {H0 : Heap} {a : Array Value} {ls : Array Slot} {st0 rest : List Value}
variable {Qc : Array Value → State → Outcome → State → Prop} {XC : String → State → State → Prop}
/-- what a body that may throw owes at its end -/
def vx_MQ (below : List Frame) (Qc : Array Value → State → Outcome → State → Prop) (XC : String → State → State → Prop) (a : Array Value) (s : State) (mc ms : Nat) (free : Addr → Prop) : State → Prop := fun t =>
  ∃ o, t.status = .running ∧ Ended t below o ∧ vx_Q Qc XC mc ms free a s o t
theorem vx_ret {g : JFrame} {mc ms : Nat} (k : W p l e R s m args below meth c H locs cells slots (MQ below Qc args s mc ms free) g) : W p l e R s m args below meth c H locs cells slots (vx_MQ below Qc XC args s mc ms free) g := by
  intro T hT X
  obtain ⟨t, a1, o, b1, b2, b3, b4⟩ := k T hT X
  exact ⟨t, a1, o, b1, b2, Or.inl ⟨b3, b4⟩⟩
/-- not caught here: it goes on to the caller -/
theorem vx_widen {g : JFrame} {q : Addr} {k n : Nat} (h1 : cells ≤ k) (h2 : slots ≤ n) (kk : vx_W p l e R s m args below meth c H locs k n Q g q) : vx_W p l e R s m args below meth c H locs cells slots Q g q := fun T hT X => kk T hT (stand_widen X h1 h2)
theorem vx_out {pc : Nat} {E : String} {ce : Cell} {q : Addr} {mc ms : Nat} (hout : ∀ x ∈ c.exceptionTable.toList, covers x pc = false) (hlocks : meth.locks = false) (hcell : H[q]? = some ce) (hv : ce.vm = .none) (hcl : s.vm.findClass E = some ce.cls)
    (hx : ∀ t : State, t.heap = H → s.vm.Alike t.vm → XC E s t) (hf : ∀ z ∈ locs, free z.base) (hc : cells ≤ mc) (hs : slots ≤ ms) :
    vx_W p l e R s m args below meth c H locs cells slots (vx_MQ below Qc XC args s mc ms free) (F0 m pc ls rest) q := by
  intro T hT X
  obtain ⟨st1, hrun, hend, hW, hsm⟩ := X.leaveThrown q (g := F0 m pc ls rest) rfl rfl rfl hout hlocks
  have hcell9 : (T.setFrames (.throwing q :: below)).heap[q]? = some ce := by
    show T.heap[q]? = some ce
    rw [hT]; exact hcell
  exact ⟨_, st1, .threw q, hrun, hend, Or.inr ⟨q, rfl, E, ce, locs, hx _ hT hW.alike, hcell9, hv, hcl, hW, hsm.mono hc hs, hf⟩⟩
theorem vx_frame {U : State} {k n : Nat} (h : s.sameButNew ({ U with vm := s.vm } : State) locs k n) : s.heap.size ≤ U.heap.size ∧ ∀ q : Nat, q < s.heap.size → (∀ z ∈ locs, z.base ≠ q) → U.heap[q]? = s.heap[q]? := by
  obtain ⟨-, h2, -, -, -, h6⟩ := h
  refine ⟨h2, fun q hq hz => ?_⟩
  obtain ⟨c9, e1, e2, e3, e4⟩ := h6 q _ (Array.getElem?_eq_getElem hq)
  have hs : c9.slots = (s.heap[q]).slots := Array.ext_getElem? fun i => e4 i fun hm => hz _ hm rfl
  have h9 : c9 = s.heap[q] := by
    rw [hs] at e2
    exact e2
  have e5 : U.heap[q]? = some c9 := e1
  rw [e5, h9, Array.getElem?_eq_getElem hq]
/-- the words of a throw but the four that speak of the heap -/
def vx_no (w : Cond) : Bool := decide (w ≠ .isRef (.static Bundle.tN "UNASSIGNED_STACK" Bundle.steD)) && decide (w ≠ .isRef (.static Bundle.tN "SUPPRESSED_SENTINEL" Bundle.listD)) && decide (w ≠ .laysStatic Bundle.tN "UNASSIGNED_STACK" Bundle.steD) && decide (w ≠ .laysStatic Bundle.tN "SUPPRESSED_SENTINEL" Bundle.listD)
def vx_at0 (own : String) (ic : Nat) (X : String) (names : List String) : List Cond := (Bundle.ownAtoms0 own ic X names).filter vx_no
def vx_atS (own : String) (ic : Nat) (X : String) (names : List String) : List Cond := (Bundle.ownAtoms own ic X names).filter vx_no
/-- a word that the tables alone decide, or a good one -/
def vx_ot (w : Cond) : Bool := w.onTables || goodWord w
theorem vx_ot_at {args a' : Array Value} {s U : State} {w : Cond} (hW : s.WarmedH U.vm) (hvm : s.vm = U.vm) (hg : vx_ot w = true) (h : w.before args s = true) : w.before a' U = true := by
  simp only [vx_ot, Bool.or_eq_true] at hg
  rcases hg with hg | hg
  · exact va_tabs hg hvm h
  · exact word_at hW (good_of_word hg) h
/-- a list's words: the good ones out of the method's own list, the others by premises of their own -/
theorem vx_hat {args : Array Value} {s : State} {L B : List Cond} (h1 : ∀ w ∈ L.filter goodWord, w.before args s = true) (h2 : ∀ w ∈ L.filter (fun w => !goodWord w), w ∈ B) (h3 : ∀ w ∈ B, w.before args s = true) : ∀ w ∈ L, w.before args s = true := by
  intro w hw
  by_cases g : goodWord w = true
  · exact h1 w (List.mem_filter.mpr ⟨hw, g⟩)
  · refine h3 w (h2 w (List.mem_filter.mpr ⟨hw, ?_⟩))
    show (!goodWord w) = true
    cases hgw : goodWord w
    · rfl
    · exact absurd hgw g
theorem vx_c {args : Array Value} {s : State} {w : Cond} {B : List Cond} (h : w.before args s = true) (t : ∀ w ∈ B, w.before args s = true) : ∀ w' ∈ w :: B, w'.before args s = true := fun w' h' => (List.mem_cons.mp h').elim (fun e => by rw [e]; exact h) (t w')
theorem vx_n {args : Array Value} {s : State} : ∀ w ∈ ([] : List Cond), w.before args s = true := fun _ h => nomatch h
theorem vx_own {args : Array Value} {s : State} {L : List Cond} (h1 : ∀ w ∈ L.filter vx_no, w.before args s = true)
    (hU : (Cond.isRef (.static Bundle.tN "UNASSIGNED_STACK" Bundle.steD)).before args s = true) (hN : (Cond.isRef (.static Bundle.tN "SUPPRESSED_SENTINEL" Bundle.listD)).before args s = true)
    (lU : (Cond.laysStatic Bundle.tN "UNASSIGNED_STACK" Bundle.steD).before args s = true) (lN : (Cond.laysStatic Bundle.tN "SUPPRESSED_SENTINEL" Bundle.listD).before args s = true) : ∀ w ∈ L, w.before args s = true := by
  intro w hw
  by_cases e1 : w = .isRef (.static Bundle.tN "UNASSIGNED_STACK" Bundle.steD)
  · rw [e1]; exact hU
  · by_cases e2 : w = .isRef (.static Bundle.tN "SUPPRESSED_SENTINEL" Bundle.listD)
    · rw [e2]; exact hN
    · by_cases e3 : w = .laysStatic Bundle.tN "UNASSIGNED_STACK" Bundle.steD
      · rw [e3]; exact lU
      · by_cases e4 : w = .laysStatic Bundle.tN "SUPPRESSED_SENTINEL" Bundle.listD
        · rw [e4]; exact lN
        · exact h1 w (List.mem_filter.mpr ⟨hw, by unfold vx_no; rw [decide_eq_true e1, decide_eq_true e2, decide_eq_true e3, decide_eq_true e4]; rfl⟩)
/-- where a static field lies, its class's statics cell in H -/
def vx_L (C n d : String) (A : Nat → Prop) (U : State) (H : Heap) : Prop := ∃ (c : ClassId) (k : Class) (i : Nat) (f : Field) (a : Nat) (cell : Cell), U.vm.findClass C = some c ∧ U.fieldFound? C n d = some (c, k, i, f) ∧ f.isStatic = true ∧ k.statics = some a ∧ H[a]? = some cell ∧ cell.vm.isStatics = true ∧ cell.cls = c ∧ f.slot < cell.slots.size ∧ k.staticTypes[f.slot]? = some f.type ∧ ¬ A a
theorem vx_L.moved {C n d : String} {A : Nat → Prop} {u U : State} {H : Heap} (hvm : u.vm.Alike U.vm) (h : vx_L C n d A u H) : vx_L C n d A U H := by
  obtain ⟨c, k, i, f, a, cell, h1, h2, h3, h4, h5, h6, h7, h8, h9, h10⟩ := h
  obtain ⟨k', hi', he⟩ := State.fieldFound?_setVm hvm h2
  exact ⟨c, k', i, f, a, cell, by rw [hvm.findClass]; exact h1, hi', h3, by rw [he]; exact h4, h5, h6, h7, h8, by rw [he]; exact h9, h10⟩
theorem vx_L.kept {C n d : String} {A : Nat → Prop} {U : State} {H H1 : Heap} (h : vx_L C n d A U H) (hq : ∀ a : Nat, a < H.size → ¬ A a → H1[a]? = H[a]?) : vx_L C n d A U H1 := by
  obtain ⟨c, k, i, f, a, cell, h1, h2, h3, h4, h5, h6, h7, h8, h9, h10⟩ := h
  exact ⟨c, k, i, f, a, cell, h1, h2, h3, h4, by rw [hq a (Array.getElem?_eq_some_iff.mp h5).1 h10]; exact h5, h6, h7, h8, h9, h10⟩
theorem vx_L.narrow {C n d : String} {A B : Nat → Prop} {U : State} {H : Heap} (h : vx_L C n d A U H) (hAB : ∀ q, B q → A q) : vx_L C n d B U H := by
  obtain ⟨c, k, i, f, a, cell, h1, h2, h3, h4, h5, h6, h7, h8, h9, h10⟩ := h
  exact ⟨c, k, i, f, a, cell, h1, h2, h3, h4, h5, h6, h7, h8, h9, fun z => h10 (hAB _ z)⟩
theorem vx_L.word {C n d : String} {A : Nat → Prop} {s : State} {args : Array Value} (h : vx_L C n d A s s.heap) : (Cond.laysStatic C n d).before args s = true := by
  obtain ⟨c, k, i, f, a, cell, h1, h2, h3, h4, h5, h6, h7, h8, h9, -⟩ := h
  show (Cond.laysStatic C n d).holds args s none s [] = true
  exact Cond.laysStatic_of h1 h2 h3 h4 h5 h6 h7 h8 h9
/-- .. and what it holds: null or some reference -/
def vx_Zq (C n d : String) (A : Nat → Prop) (U : State) (H : Heap) : Prop := va_Zq C n d A U H ∧ vx_L C n d A U H
theorem vx_Zq.moved {C n d : String} {A : Nat → Prop} {u U : State} {H : Heap} (hvm : u.vm.Alike U.vm) (h : vx_Zq C n d A u H) : vx_Zq C n d A U H := ⟨va_Zq.moved hvm h.1, vx_L.moved hvm h.2⟩
theorem vx_Zq.kept {C n d : String} {A : Nat → Prop} {U : State} {H H1 : Heap} (h : vx_Zq C n d A U H) (hq : ∀ a : Nat, a < H.size → ¬ A a → H1[a]? = H[a]?) : vx_Zq C n d A U H1 := ⟨va_Zq.kept h.1 hq, vx_L.kept h.2 hq⟩
theorem vx_Zq.narrow {C n d : String} {A B : Nat → Prop} {U : State} {H : Heap} (h : vx_Zq C n d A U H) (hAB : ∀ q, B q → A q) : vx_Zq C n d B U H := ⟨va_Zq.narrow h.1 hAB, vx_L.narrow h.2 hAB⟩
theorem vx_Zqof {args : Array Value} {s : State} {C n d : String} {A : Nat → Prop} (hl : (Cond.laysStatic C n d).before args s = true) (hini : (Cond.initialized C).before args s = true) (h : (Cond.isRef (.static C n d)).before args s = true) (hA : ∀ a : Nat, a < s.heap.size → ¬ A a) : vx_Zq C n d A s s.heap := by
  refine ⟨va_Zqof hl hini h hA, ?_⟩
  obtain ⟨c, k, i, f, a, cell, h1, h2, h3, h4, h5, h6, h7, h8, h9⟩ := Cond.laysStatic_spec hl
  exact ⟨c, k, i, f, a, cell, h1, h2, h3, h4, h5, h6, h7, h8, h9, hA a (Array.getElem?_eq_some_iff.mp h5).1⟩
theorem vx_isRef {C n d : String} {v : Value} {A : Nat → Prop} {s : State} {args : Array Value} (h : va_Z C n d v A s s.heap) (hv : v.isRef = true) : (Cond.isRef (.static C n d)).before args s = true := by
  obtain ⟨cf, kf, fi, f, a, cell, h1, h2, h3, h4, h5, h6, h7, -⟩ := h
  have he : (Term.static C n d).eval args s none [] s = some v := by
    simp [Term.eval, State.fieldNamed?, h1, h2, h4, h5, h6, h7]
  simp only [Cond.before, Cond.holds, Cond.value, he]
  cases v <;> simp_all [Value.isRef]
theorem vx_isRefq {C n d : String} {A : Nat → Prop} {s : State} {args : Array Value} (h : va_Zq C n d A s s.heap) : (Cond.isRef (.static C n d)).before args s = true := by
  rcases h with h | ⟨t, h⟩
  · exact vx_isRef h rfl
  · exact vx_isRef h rfl
/-- the same frame, seen from here: as if the method were called anew in this heap -/
theorem vx_rebase {T : State} (X : Stand p l e R s m args below meth c T locs cells slots) {R' : Room} (hf : R'.frames ≤ R.frames) (hl : R'.locals ≤ R.locals) (hc : cells + R'.cells ≤ R.cells) (hs : slots + R'.slots ≤ R.slots) :
    Stand p l e R' ((T.setVm s.vm).setFrames (.invoking m args :: below)) m args below meth c T [] 0 0 := by
  have htop : (T.setVm s.vm).topJava?.isSome := X.here.top
  have hF : ((T.setVm s.vm).setFrames (.invoking m args :: below)).frames = .invoking m args :: below := State.frames_setFrames _ (State.cur_lt_of_top htop)
  obtain ⟨g₀, hg0⟩ := Option.isSome_iff_exists.mp htop
  obtain ⟨r, hr⟩ := State.topJava?_eq_some.mp hg0
  have hl9 : e.platform.stackLimits (T.setVm s.vm).me = e.platform.stackLimits s.me := X.limits
  have hb9 : (T.setVm s.vm).me.stackBytes = s.me.stackBytes := X.bytes
  refine ⟨X.admits, X.cas, X.clock, hF, ?_, X.hears, X.method, X.code, X.here, X.tail, X.warmed, ?_, ?_, ?_⟩
  · have h := X.room
    have hU : ((T.setVm s.vm).setFrames (.invoking m args :: below)).localsInUse = s.localsInUse := by
      rw [State.localsInUse_invoking hF (meth := meth) (c := c) X.method X.code, State.localsInUse_invoking X.frames X.method X.code]
    simp only [State.hasRoom, Bool.and_eq_true, decide_eq_true_eq] at h ⊢
    obtain ⟨⟨⟨⟨h1, h2, h3, h4, h5, h6⟩, h7⟩, h8⟩, h9⟩ := h
    rw [X.frames, List.length_cons] at h2 h3
    have q1 := X.heapSize
    have q2 := X.used
    simp only [hF, hU, List.length_cons, State.stackLimits_setFrames, State.stackBytes_setFrames, hl9, hb9]
    refine ⟨⟨⟨⟨by omega, by omega, by omega, by omega, by omega, h6⟩, ?_⟩, ?_⟩, X.book⟩
    · show T.heap.size + R'.cells ≤ e.platform.maxCells
      omega
    · show T.slotsUsed + R'.slots ≤ e.platform.maxSlots
      omega
  · rw [State.stackLimits_setFrames]; rfl
  · rw [State.stackBytes_setFrames]; rfl
  · refine ⟨?_, Nat.le_refl _, Nat.le_refl _, ?_, ?_, fun a c9 h9 => ⟨c9, h9, rfl, rfl, fun _ _ => rfl⟩⟩
    · obtain ⟨t, ht, -⟩ := State.frames_cons hr
      show T.setVm s.vm = { ((T.setVm s.vm).setFrames (.invoking m args :: below)).setFrames (T.setVm s.vm).frames with heap := T.heap, slotsUsed := T.slotsUsed }
      rw [State.setFrames_setFrames, State.setFrames_self ht]
      rfl
    · show T.slotsUsed = T.slotsUsed + ((T.heap.toList.drop T.heap.size).map (·.slots.size)).sum
      rw [List.drop_eq_nil_of_le (Nat.le_of_eq Array.length_toList)]
      rfl
    · show ((T.heap.toList.drop T.heap.size).map (·.slots.size)).sum ≤ 0
      rw [List.drop_eq_nil_of_le (Nat.le_of_eq Array.length_toList)]
      exact Nat.le_refl _
end Ends
section Bodies
variable {l : Launch}
theorem vx_ofW {y : MethodName} {ws ws' : List Cond} {rm : Room} {Pc : Array Value → State → Prop} {Qc : Array Value → State → Outcome → State → Prop} {XC : String → State → State → Prop} {mc ms : Nat} {free : Addr → Prop} {cc : ByteArray} {maxL : Nat} {ret : Option FieldType}
    (hy : plainName y.cls = true) (hw : ws = Cond.code y cc maxL ret :: ws')
    (body : ∀ p e s m args below meth c s₁, BodyLoose p l y (headSpec ws rm) cc maxL ret e s m args below meth c s₁ → c.maxLocals = maxL → (∀ x ∈ c.exceptionTable.toList, False) → Pc args s →
      W p l e (headSpec ws rm).room s m args below meth c s.heap [] 0 0 (vx_MQ below Qc XC args s mc ms free) (entryFrame m args maxL)) : vx_Met l y ws rm Pc Qc XC mc ms free := by
  refine MetFree.of_bodyS (code := cc) (maxLocals := maxL) (ret := ret) hy ?_ ?_
  · intro args s m h hn
    obtain ⟨meth, c, h1, h2, h3, h4, h5, h6, -, -⟩ := Cond.code_spec hn (atoms_spec (ws := ws) h _ (by rw [hw]; exact List.mem_cons_self))
    exact ⟨meth, c, h1, h2, h3, h4, h5, h6⟩
  · intro p e s m args below meth c s₁ B hml hP _
    have hh0 : s₁.heap = s.heap := by rw [B.state]; rfl
    have ht : ∀ x ∈ c.exceptionTable.toList, False := by
      obtain ⟨meth9, c9, h1, h2, -, -, -, -, h7, -⟩ := Cond.code_spec B.named (atoms_spec (ws := ws) B.pre _ (by rw [hw]; exact List.mem_cons_self))
      cases Option.some.inj (h1.symm.trans B.method)
      cases Option.some.inj (h2.symm.trans (Stand.of_body B).code)
      intro x hx
      rw [Array.isEmpty_iff.mp h7] at hx
      cases hx
    obtain ⟨t, a1, o, b1, b2, b3⟩ := body p e s m args below meth c s₁ B hml ht hP s₁ hh0 (Stand.of_body B)
    exact ⟨t, o, a1, b1, b2, b3⟩
/-- the table of a body with handlers -/
theorem vx_table {p : Program} {x y : MethodName} {S : Spec} {cc bytes : ByteArray} {maxL maxL' : Nat} {ret ret' : Option FieldType} {e : Env} {s s₁ : State} {m : MethodId} {args : Array Value} {below : List Frame} {meth : Method} {c : Code} {hh : List (Nat × Nat × Nat × Nat)}
    (B : BodyLoose p l y S cc maxL ret e s m args below meth c s₁) (h : (Cond.codeWith y bytes maxL' ret' hh).before args s = true) : c.exceptionTable.toList = tableOf hh := by
  obtain ⟨m9, meth9, c9, hn9, h1, h2, -, -, h6, -⟩ := Cond.codeWith_spec h
  cases Option.some.inj (hn9.symm.trans B.named)
  cases Option.some.inj (h1.symm.trans B.method)
  cases Option.some.inj (h2.symm.trans (Stand.of_body B).code)
  rw [← h6, table_eq]
end Bodies
end VXA
/-! ===== END ===== -/
/-! ===== BEGIN a static call of a method with an exception table ===== -/
section VXS
variable {p : Program} {l : Launch} {e : Env} {R : Room} {s : State} {m : MethodId} {args : Array Value} {below : List Frame} {meth : Method} {c : Code} {T : State} {H : Heap} {locs : List Loc} {cells slots : Nat}
abbrev vx_CSW (R : Room) (s : State) (args : Array Value) (own : String) (index : Nat) (y : MethodName) (bytes : ByteArray) (maxL : Nat) (ret : Option FieldType) (hh : List (Nat × Nat × Nat × Nat)) (ws : List Cond) (rm : Room) (mc ms n : Nat) : Prop :=
  (rm.cells = mc ∧ rm.slots = ms ∧ rm.frames + 1 ≤ R.frames ∧ 8 + (maxL + 11) + rm.locals ≤ R.locals ∧ (∀ w ∈ ws, ∀ (a' : Array Value) (U : State), s.WarmedH U.vm → w.before a' U = true) ∧ Cond.codeWith y bytes maxL ret hh ∈ ws) ∧
  (Cond.codeWith y bytes maxL ret hh).before args s = true ∧ (Cond.initialized y.cls).before args s = true ∧ (y.cls ≠ "java/lang/invoke/MethodHandle" ∧ y.cls ≠ "java/lang/invoke/VarHandle") ∧
  (∀ sig, parseMethodDescriptor y.desc = some sig → n = sig.parameters.length) ∧ (Cond.methodLink own index y).before args s = true ∧ (Cond.static y).before args s = true
theorem vx_cwSW {own : String} {index maxL mc ms : Nat} {y : MethodName} {bytes : ByteArray} {ret : Option FieldType} {hh : List (Nat × Nat × Nat × Nat)} {Ts ws ws' : List Cond} {rm : Room} (n : Nat) (ht : ∀ w ∈ Ts, w.before args s = true) (hT : GoodIn Ts (va_wsS own index y ws)) (hw : ws = Cond.codeWith y bytes maxL ret hh :: ws') (hrc : rm.cells = mc) (hrs : rm.slots = ms)
    (hd : y.cls ≠ "java/lang/invoke/MethodHandle" ∧ y.cls ≠ "java/lang/invoke/VarHandle" ∧ (parseMethodDescriptor y.desc).map (fun d => d.parameters.length) = some n) (hR : rm.frames + 1 ≤ R.frames ∧ 8 + (maxL + 11) + rm.locals ≤ R.locals) :
    vx_CSW R s args own index y bytes maxL ret hh ws rm mc ms n := by
  have ok : ∀ w ∈ va_wsS own index y ws, w.before args s = true := fun w h => ht w (hT w h).1
  have hG : GoodIn Ts ws := fun w h => hT w (by unfold va_wsS; exact List.mem_append_right _ h)
  have hc : Cond.codeWith y bytes maxL ret hh ∈ ws := by rw [hw]; exact List.mem_cons_self
  refine ⟨⟨hrc, hrs, hR.1, hR.2, pay_in ht hG, hc⟩, ht _ (hG _ hc).1, ok _ (by simp [va_wsS]), ⟨hd.1, hd.2.1⟩, fun sig h => ?_, ok _ (by simp [va_wsS]), ok _ (by simp [va_wsS])⟩
  have h2 := hd.2.2
  rw [h] at h2
  exact (Option.some.inj h2).symm
theorem vx_callSW (X : Stand p l e R s m args below meth c T locs cells slots) (hexec : p.tables.exec = Jvm.exec) {own : String} {index : Nat} {y : MethodName} {bytes : ByteArray} {maxL : Nat} {ret : Option FieldType} {hh : List (Nat × Nat × Nat × Nat)}
    (hown : s.vm.findClass own = some m.cls) (hlink : (Cond.methodLink own index y).before args s = true) (hstat : (Cond.static y).before args s = true) (hinit : (Cond.initialized y.cls).before args s = true)
    (hcode : (Cond.codeWith y bytes maxL ret hh).before args s = true) (hy : y.cls ≠ "java/lang/invoke/MethodHandle" ∧ y.cls ≠ "java/lang/invoke/VarHandle")
    {W9 : Nat} {Pre : Pt → Array Value → Prop} {Post : Pt → Array Value → Option Value → Pt → Prop} (hK : Back l R p e below s args y 3 W9 Pre Post)
    {g : JFrame} (hg : g.method = m) (hsize : g.locals.size = c.maxLocals) {argsL rest : List Value} (hlen : ∀ sig, parseMethodDescriptor y.desc = some sig → argsL.length = sig.parameters.length)
    (hstack : g.stack = argsL.reverse ++ rest) (hW : 2 * g.monitorRoom + (rest.map fun v => v.category).sum ≤ W9) (hdg : decode c.code g.pc = .ok (.invokestatic index, 3))
    (hpre : ∀ vm₁, s.WarmedH vm₁ → Pre ⟨T.setVm vm₁, locs, cells, slots⟩ argsL.toArray) :
    ∃ (v : Option Value) (vm₁ : Vm) (B : Pt), s.WarmedH vm₁ ∧ Stand p l e R s m args below meth c B.U B.locs B.cells B.slots ∧ Post ⟨T.setVm vm₁, locs, cells, slots⟩ argsL.toArray v B ∧
      ∀ target, Steps p.tables e below (B.U.setTop { g with pc := g.pc + 3, stack := v.toList ++ rest }) target → Steps p.tables e below (T.setTop g) target := by
  obtain ⟨mk, methM, cM, hnamed, hmethM, -, -, -, -, -, -, hsigM⟩ := Cond.codeWith_spec hcode
  have hstatic : methM.isStatic = true := Cond.static_spec hnamed hmethM hstat
  obtain ⟨kP, hkP, -⟩ := className_of_methodNamed hnamed
  have hinitP : kP.init = .initialized := Cond.initialized_spec (findClass_of_methodNamed hnamed) hkP hinit
  obtain ⟨vm₁, X₁, hstep₁⟩ := X.invokestatic hexec hown hlink hnamed hmethM hstatic hkP hinitP hy (g := g) hg (argsL := argsL) (rest := rest) (hlen _ hsigM) hstack hdg
  obtain ⟨v, B, X', hpost, hsteps⟩ := hK m meth c ⟨T.setVm vm₁, locs, cells, slots⟩ { g with stack := rest } (.invokestatic index) mk argsL.toArray X₁ hg hsize hdg hW (X₁.named hnamed) (hpre vm₁ X₁.warmed)
  exact ⟨v, vm₁, B, X₁.warmed, X', hpost, fun target h => hstep₁ _ fun acts => by rw [doInvoke_state]; exact hsteps.trans h⟩
theorem vx_runSW {y : MethodName} {bytes cc : ByteArray} {maxL nL mc ms n index : Nat} {ret : Option FieldType} {hh : List (Nat × Nat × Nat × Nat)} {ws : List Cond} {rm : Room} {Pc : Array Value → State → Prop} {Qc : Array Value → State → Outcome → State → Prop} {free : Addr → Prop} {Ts : List Cond} {own : String} {As rest : List Value} {g : JFrame}
    (S : CallFix p m c cc nL s args Ts own) (hM : Met l y ws rm Pc Qc mc ms free) (cw : vx_CSW R s args own index y bytes maxL ret hh ws rm mc ms n) (hp : PreS s H Pc As)
    (hg : g.method = m) (hn : As.length = n) (hsize : g.locals.size = nL) (hstack : g.stack = As.reverse ++ rest) (hW : 2 * g.monitorRoom + (rest.map fun v => v.category).sum ≤ 8) (hdg : decode cc g.pc = .ok (.invokestatic index, 3)) (hf : cells + mc ≤ R.cells ∧ slots + ms ≤ R.slots) :
    va_Run p l e R s m args below meth c H locs cells slots mc ms g rest (Qc As.toArray) (free) := by
  obtain ⟨⟨hrc, hrs, hfr, hlo, hws, hcw⟩, hcode, hini, hy, hlen, hl, hstt⟩ := cw
  have hK : Back l R p e below s args y 3 8 (PreOf R mc ms Pc) (PostOf Qc mc ms free) := va_backW (hh := hh) (bytes := bytes) (maxL := maxL) (ret := ret) hM hp.1 hrc hrs hfr hlo hws hcw (fun a' U hW => word_at hW (Or.inl (by first | rfl | simp [Cond.onTables, Cond.keeps, Cond.steady])) hini)
  obtain ⟨hx, hb, hml, ho, -⟩ := S
  intro T hT X
  obtain ⟨v, vm₁, ⟨U', l2, c2, s2⟩, hW₁, X', ⟨g', mk, t, L, e1, e2, hq, h1, hL, h2, h3⟩, st⟩ := vx_callSW X hx (hh := hh) (bytes := bytes) (maxL := maxL) (ret := ret) ho hl hstt hini hcode hy hK hg (hsize.trans hml.symm) (argsL := As) (rest := rest) (fun sig h => hn.trans (hlen sig h)) hstack hW (by rw [hb]; exact hdg)
    (fun vm₁ hW₁ => ⟨hf.1, hf.2, hp.2 (T.setVm vm₁) hT hW₁⟩)
  dsimp only [Pt.U, Pt.locs, Pt.cells, Pt.slots] at X' e1 e2 h1 h2 h3 st
  subst h1; subst h2; subst h3
  exact ⟨v, (T.setVm vm₁).calling g' mk As.toArray, t, U', L, hT, X', hL, e1, e2, hq, st⟩
/-- a thing of a world lies in the heap -/
theorem vx_lt {D : va_G} {cl : List vw_C} {ws : va_W} {H1 : Heap} (h : va_P D cl ws H1) {k : Nat} {q : Nat × va_E} (hk : ws[k]? = some q) : q.1 < H1.size := (h k q hk).lt
end VXS
/-- the search at the one row of a table, her class's entry cold or warm -/
theorem ab_found {e : Env} {S : State} {f : JFrame} {a : Addr} {x : ExceptionTableEntry} {k : ClassId} {cell : Cell} (hx : covers x f.pc = true) (h0 : x.catchType ≠ 0) (hl : S.vm.ClassLinks e.platform f.method.cls x.catchType k) (hcell : S.heap[a]? = some cell) (hobj : ∀ j, cell.vm ≠ .statics j)
    (h1 : ∃ j, S.vm.classes[cell.cls]? = some j) (h2 : ∃ j, S.vm.classes[k]? = some j) (hfit : S.vm.assignable cell.cls k = true) (QQ : Handler → Pre) (E : CtlPost) (d : Bool) (acts : List Action) :
    wp (findHandler.go f a [x]) QQ E e d acts S ↔ QQ (.found x.handlerPc) d acts (S.setVm (S.vm.noted f.method.cls x.catchType (.cls k))) := by
  simp only [covers] at hx
  obtain ⟨g1, g2⟩ := (resolveClass_links e.toSetting hl).op (op := VmOp.resolveClass f.method.cls x.catchType) rfl
  have hal : S.vm.Alike (S.vm.noted f.method.cls x.catchType (.cls k)) := (Vm.Alike.refl S.vm).noted _ _ _
  obtain ⟨j1, hj1⟩ := h1
  obtain ⟨j2, hj2⟩ := h2
  obtain ⟨j1', hj1', -⟩ := hal.2.2 _ _ hj1
  obtain ⟨j2', hj2', -⟩ := hal.2.2 _ _ hj2
  have hfit' : (S.vm.noted f.method.cls x.catchType (.cls k)).assignable cell.cls k = true := by rw [hal.assignable]; exact hfit
  simp [findHandler.go, hx, h0, g1, g2, hcell, hobj, hj1', hj2', hfit', VmOp.dirties, VmOp.acts]
/-- caught by the one row of a table -/
theorem ab_caught {p : Program} {l : Launch} {e : Env} {R : Room} {s : State} {m : MethodId} {args : Array Value} {below : List Frame} {meth : Method} {c : Code} {H : Heap} {locs : List Loc} {cells slots : Nat} {Q : State → Prop} {pc : Nat} {ls : Array Slot} {rest : List Value}
    {own name E : String} {ce : Cell} {q : Addr} {x : ExceptionTableEntry} (hown : s.vm.findClass own = some m.cls) (htab : c.exceptionTable.toList = [x]) (hx : covers x pc = true) (h0 : x.catchType ≠ 0) (hlink : (Cond.classLink own x.catchType name).before args s = true) (hcast : (Cond.castable E name).before args s = true)
    (hcell : H[q]? = some ce) (hv : ce.vm = .none) (hcl : s.vm.findClass E = some ce.cls) (kk : W p l e R s m args below meth c H locs cells slots Q (F0 m x.handlerPc ls [.ref q])) : vx_W p l e R s m args below meth c H locs cells slots Q (F0 m pc ls rest) q := by
  intro T hT X
  have hpl : e.platform.magicAccessors = ({} : Platform).magicAccessors := by rw [X.admits.platform]
  obtain ⟨c3, cT, hc3, hc4, hasg⟩ := Cond.castable_spec hcast
  cases Option.some.inj (hc3.symm.trans hcl)
  obtain ⟨c5, hc5, hcl5⟩ := Cond.classLink_spec hown hlink e.platform hpl
  cases Option.some.inj (hc4.symm.trans hc5)
  obtain ⟨dk, _, _, kt, hd, _, _, _, _, hkt, _, hopen⟩ := hcl5.here
  have hlk := X.warmed.classLinks hcl5
  have hW' : s.WarmedH (T.vm.noted m.cls x.catchType (.cls cT)) := X.warmed.noted hd hopen (State.rightAt_cls hcl5)
  have hal := X.warmed.alike
  obtain ⟨kt', hkt', -⟩ := hal.2.2 _ _ hkt
  have hfit : T.vm.assignable ce.cls cT = true := by rw [hal.assignable]; exact hasg
  have hk1 := Vm.classAt_of_assignable hfit ⟨kt', hkt'⟩
  have X' := X.noted hW'
  obtain ⟨t, a1, b1⟩ := kk (T.setVm (T.vm.noted m.cls x.catchType (.cls cT))) hT X'
  refine ⟨t, ?_, b1⟩
  have hobj : ∀ k, ce.vm ≠ .statics k := fun k h => by rw [hv] at h; cases h
  have find : ∀ (QQ : Handler → Pre) (E : CtlPost) (d : Bool) (acts : List Action), wp (findHandler (F0 m pc ls rest) q) QQ E e d acts ((T.setTop (F0 m pc ls rest)).pushFrame (.throwing q)) ↔ QQ (.found x.handlerPc) d acts (((T.setTop (F0 m pc ls rest)).pushFrame (.throwing q)).setVm (T.vm.noted m.cls x.catchType (.cls cT))) := by
    intro QQ E d acts
    rw [W.findHandler_eq (meth := meth) (code := c) X.method' X.code, htab]
    exact ab_found (e := e) (f := F0 m pc ls rest) (a := q) (k := cT) (cell := ce) (S := (T.setTop (F0 m pc ls rest)).pushFrame (.throwing q)) hx h0 hlk (by show T.heap[q]? = some ce; rw [hT]; exact hcell) hobj hk1 ⟨kt', hkt'⟩ hfit QQ E d acts
  obtain ⟨hgo, hw⟩ := At.throwing (g := F0 m pc ls rest) X.here q
  refine Steps.head hgo hw ?_
  have hstep : (stepThrowing e ((T.setTop (F0 m pc ls rest)).pushFrame (.throwing q)) q (.java (F0 m pc ls rest) :: T.frames.tail)).Is ((((T.setTop (F0 m pc ls rest)).pushFrame (.throwing q)).setVm (T.vm.noted m.cls x.catchType (.cls cT))).setFrames (.java { F0 m pc ls rest with pc := x.handlerPc, stack := [.ref q] } :: T.frames.tail)) [] := by
    simp only [stepThrowing, searchFrame, vmDo]
    generalize hr : Sem.go _ e false [] _ = res
    obtain ⟨as, rfl, ha⟩ := Sem.eq_ok_of hr (a := Handler.found x.handlerPc) (s' := ((T.setTop (F0 m pc ls rest)).pushFrame (.throwing q)).setVm (T.vm.noted m.cls x.catchType (.cls cT))) (acts' := []) (by simp [find _ _ _ _])
    exact ⟨rfl, ha⟩
  rw [stepThread_throwing (frames_entered X.here.top _), hstep.1]
  obtain ⟨g₀, hg⟩ := Option.isSome_iff_exists.mp X.here.top
  obtain ⟨r, hr⟩ := State.topJava?_eq_some.mp hg
  have hr' : (T.setVm (T.vm.noted m.cls x.catchType (.cls cT))).frames = .java g₀ :: r := hr
  rw [State.setTop_of_frames _ hr'] at a1
  have e1 : ∀ (F G : List Frame) (vm' : Vm), ((T.setFrames F).setVm vm').setFrames G = (T.setVm vm').setFrames G := fun F G vm' => by
    rw [show (T.setFrames F).setVm vm' = (T.setVm vm').setFrames F from rfl, State.setFrames_setFrames]
  rw [hr, List.tail_cons, State.setTop_of_frames _ hr, State.pushFrame, State.setFrames_setFrames, e1]
  exact a1
end
section
/-! ===== 'throw new NoSuchElementException("text")' of this JDK: its constructor's call is entry 13, not 7: after the library's law for entry 7 (Stand.ctorThrowS) ===== -/
def ab_NS : String := "java/util/NoSuchElementException"
def ab_RE : String := "java/lang/RuntimeException"
def ab_own (own : String) (ic : Nat) : List Cond :=
  Bundle.throwableAtoms ++ Bundle.throwableSAtoms ++ Bundle.passSAtoms ab_NS ab_RE 13 prog_28_method_4_code ++ Bundle.chainSAtoms ab_RE ["java/lang/Exception"] ++
  [.methodLink own ic (Bundle.initS ab_NS), .instantiable ab_NS 6, .castable ab_NS ab_NS, .selects ab_NS Bundle.tFill0 Bundle.tFill0, .selects ab_NS Bundle.tFill Bundle.tFill,
   .lays ab_NS Bundle.tN "cause" "Ljava/lang/Throwable;", .lays ab_NS Bundle.tN "stackTrace" Bundle.steD, .lays ab_NS Bundle.tN "suppressedExceptions" Bundle.listD, .lays ab_NS Bundle.tN "detailMessage" "Ljava/lang/String;",
   .isRef (.static Bundle.tN "UNASSIGNED_STACK" Bundle.steD), .isRef (.static Bundle.tN "SUPPRESSED_SENTINEL" Bundle.listD),
   .fieldLink Bundle.tN 198 Bundle.tN "backtrace" "Ljava/lang/Object;", .lays Bundle.tN Bundle.tN "backtrace" "Ljava/lang/Object;", .lays ab_NS Bundle.tN "backtrace" "Ljava/lang/Object;"]
set_option maxHeartbeats 4000000 in
theorem ab_ctor {p : Program} {l : Launch} {e : Env} {R : Room} {s : State} {m₀ : MethodId} {args : Array Value} {below : List Frame} {meth : Method} {c : Code} {W : State} {locs : List Loc} {cells slots : Nat} (X : Stand p l e R s m₀ args below meth c W locs cells slots) (hexec : p.tables.exec = Jvm.exec) (htr : e.platform.stackTraces = false) {own : String} {ic : Nat}
    (hown : s.vm.findClass own = some m₀.cls) (h : ∀ a ∈ ab_own own ic, a.before args s = true) (hlocs : ∀ x ∈ locs, ∀ cell, s.heap[x.base]? = some cell → cell.vm.isStatics = false)
    {a : Addr} {cX : ClassId} {kX : Class} (hfoundX : s.vm.findClass ab_NS = some cX) (hkX : s.vm.classes[cX]? = some kX) (hcell : W.heap[a]? = some (freshCell cX kX)) (hnew : s.heap.size ≤ a) {msg : Value} (hmsg : msg.isRef = true)
    {g : JFrame} (hg : g.method = m₀) (hsize : g.locals.size = c.maxLocals) (hlocked : g.locked = none) (hentered : g.entered = []) {rest : List Value} (hstack : g.stack = msg :: .ref a :: .ref a :: rest)
    (hd6 : decode c.code g.pc = .ok (.invokespecial ic, 3)) (hd9 : decode c.code (g.pc + 3) = .ok (.athrow, 1)) (hout : ∀ x ∈ c.exceptionTable.toList, covers x (g.pc + 3) = false)
    (hRframes : 5 < R.frames) (hRlocals : 2 * g.monitorRoom + ((Value.ref a :: rest).map fun v => v.category).sum + 81 ≤ R.locals) (hlocks : meth.locks = false) :
    ∃ U : State, Steps p.tables e below (W.setTop g) U ∧ U.status = .running ∧ Ended U below (.threw a) ∧ s.WarmedH U.vm ∧ s.sameButNew ({ U with vm := s.vm } : State) locs cells slots ∧ ∃ ce, U.heap[a]? = some ce ∧ ce.vm = .none ∧ s.vm.findClass ab_NS = some ce.cls := by
  have howns : e.platform.frameOwnsMonitors = true := by rw [X.admits.platform]
  have hfin : e.platform.finalization = false := by rw [X.admits.platform]
  have hpl : e.platform.magicAccessors = ({} : Platform).magicAccessors := by rw [X.admits.platform]
  have a' : ∀ x, x ∈ ab_own own ic → x.holds args s none s [] = true := fun x hx => h x hx
  obtain ⟨T, Z0, L, -, Y⟩ := ThrowableC.of_atoms (args := args) howns hfin hpl (fun x hx => h x (by simp [ab_own, hx]))
  obtain ⟨Z, M, LZ, LM, hnZ⟩ := Init0T.ofS_atoms (args := args) hpl L Y (fun x hx => h x (by simp [ab_own, hx]))
  obtain ⟨P2, Ps, hlen, L2, hL, hP2m, hlink1, hlink⟩ := Bundle.chainS (args := args) hpl hnZ ["java/lang/Exception"] ab_RE (by decide +kernel) (by decide +kernel) (fun x hx => h x (by simp [ab_own, hx]))
  obtain ⟨P1, L1, hP1m, hP1s⟩ := PassC.ofS_atoms (args := args) (s := s) hpl (X := ab_NS) (Y := ab_RE) (index := 13) (bytes := prog_28_method_4_code) (by decide +kernel) (by decide +kernel) (by decide +kernel) (by decide +kernel) (by decide +kernel) (by decide +kernel) (fun x hx => h x (by simp [ab_own, hx]))
  have hfound : s.vm.findClass ab_NS = some P1.m.cls := findClass_of_methodNamed hP1m
  cases Option.some.inj (hfoundX.symm.trans hfound)
  obtain ⟨c1, kX', hc1, hk, hord, -, -, hn6⟩ := Cond.instantiable_spec (a' (.instantiable ab_NS 6) (by simp [ab_own]))
  cases Option.some.inj (hc1.symm.trans hfound)
  cases Option.some.inj (hkX.symm.trans hk)
  have hsel0 : selectMethod e.platform s.vm P1.m.cls T.fill0 = .method T.fill0 := by
    obtain ⟨c2, r2, m2, q1, q2, q3, q4, -⟩ := Cond.selects_spec (a' (.selects ab_NS Bundle.tFill0 Bundle.tFill0) (by simp [ab_own]))
    cases Option.some.inj (q1.symm.trans hfound)
    cases Option.some.inj (q2.symm.trans (State.methodFound?_of_named Y.fill0 (by decide)))
    cases Option.some.inj (q3.symm.trans Y.fill0)
    rw [Launch.admits_selectMethod X.admits]; exact q4
  have hselF : selectMethod e.platform s.vm P1.m.cls T.fill = .method T.fill := by
    obtain ⟨c2, r2, m2, q1, q2, q3, q4, -⟩ := Cond.selects_spec (a' (.selects ab_NS Bundle.tFill Bundle.tFill) (by simp [ab_own]))
    cases Option.some.inj (q1.symm.trans hfound)
    cases Option.some.inj (q2.symm.trans (State.methodFound?_of_named Y.fill (by decide)))
    cases Option.some.inj (q3.symm.trans Y.fill)
    rw [Launch.admits_selectMethod X.admits]; exact q4
  obtain ⟨cellS0, hcS0, hiss⟩ := Y.statics
  obtain ⟨u0, hu0⟩ := Cond.staticRefV Y.unassigned L.unassignedStatic L.statics hcS0 hiss (a' (.isRef (.static Bundle.tN "UNASSIGNED_STACK" Bundle.steD)) (by simp [ab_own]))
  obtain ⟨sen, hsen⟩ := Cond.staticRefV Y.sentinel L.sentinelStatic L.statics hcS0 hiss (a' (.isRef (.static Bundle.tN "SUPPRESSED_SENTINEL" Bundle.listD)) (by simp [ab_own]))
  obtain ⟨ci198, i198, fB, hk198, hg198, ha198, hsB, -, hnB, htB, hffB⟩ := Cond.ownField (t := .object "java/lang/Object") Y.found L.cls (by decide +kernel) (a' (.fieldLink Bundle.tN 198 Bundle.tN "backtrace" "Ljava/lang/Object;") (by simp [ab_own])) (a' (.lays Bundle.tN Bundle.tN "backtrace" "Ljava/lang/Object;") (by simp [ab_own])) e.platform hpl
  obtain ⟨cellS, hcS', heS, -, hkeep⟩ := X.same.2.2.2.2.2 T.aS cellS0 hcS0
  have hcellS : W.heap[T.aS]? = some cellS := hcS'
  have hout' : ∀ i, (⟨T.aS, i⟩ : Loc) ∉ locs := fun i hmem => by
    have := hlocs _ hmem cellS0 hcS0
    rw [hiss] at this; cases this
  have hknownS : cellS.vm ≠ .unknown := by
    rw [heS]; intro hu
    rw [show cellS0.vm = .unknown from hu] at hiss
    cases hiss
  have hneS : T.aS ≠ a := Nat.ne_of_lt (Nat.lt_of_lt_of_le (Array.getElem?_eq_some_iff.mp hcS0).1 hnew)
  obtain ⟨iM, hffM⟩ := Y.msg
  obtain ⟨tyC, dC, hdC, hdnC⟩ := Cond.laysAt hfound hk Y.cause (a' (.lays ab_NS Bundle.tN "cause" "Ljava/lang/Throwable;") (by simp [ab_own]))
  obtain ⟨tyS, dS, hdS, hdnS⟩ := Cond.laysAt hfound hk Y.stack (a' (.lays ab_NS Bundle.tN "stackTrace" Bundle.steD) (by simp [ab_own]))
  obtain ⟨tyP, dP, hdP, hdnP⟩ := Cond.laysAt hfound hk Y.supp (a' (.lays ab_NS Bundle.tN "suppressedExceptions" Bundle.listD) (by simp [ab_own]))
  obtain ⟨tyM, dM, hdM, hdnM⟩ := Cond.laysAt hfound hk hffM (a' (.lays ab_NS Bundle.tN "detailMessage" "Ljava/lang/String;") (by simp [ab_own]))
  obtain ⟨tyB, dB, hdB, hdnB⟩ := Cond.laysAt hfound hk hffB (a' (.lays ab_NS Bundle.tN "backtrace" "Ljava/lang/Object;") (by simp [ab_own]))
  have bC := Cond.laysApart hdB hdC hdnB hdnC (by rw [hnB, Y.causeName]; decide)
  have bS := Cond.laysApart hdB hdS hdnB hdnS (by rw [hnB, Y.stackName]; decide)
  have bP := Cond.laysApart hdB hdP hdnB hdnP (by rw [hnB, Y.suppName]; decide)
  have hskip : SkipFacts T e.platform s (fun u => u) u0 ((preparedCellV T.toThrowableT (freshCell P1.m.cls kX) a u0 sen).withEntry W.cur) :=
    ⟨{ ci198 := ci198, i198 := i198, fBack := fB }, ⟨hk198, hg198, ha198, hsB⟩, by
      have := fresh_default (c := P1.m.cls) tyB
      rw [htB] at this
      simpa [preparedCellV, Cell.setSlot, Cell.withEntry, Array.getElem?_setIfInBounds, bC, bS, bP, bC.symm, bS.symm, bP.symm, defaultValue] using this, fun _ _ => rfl⟩
  obtain ⟨tm, methC, cdC, kC, vm₁, hnC, -, -, -, -, -, -, -, hW₁, st1⟩ := Steps.initColdS (tb := p.tables) (e := e) (below := below) (s := s) (U := W) X.here hexec X.warmed hpl hown (t := Bundle.initS ab_NS) rfl rfl (by decide +kernel)
    (a' (.methodLink own ic (Bundle.initS ab_NS)) (by simp [ab_own])) (h (.instanceMethod (Bundle.initS ab_NS)) (by simp [ab_own, Bundle.passSAtoms])) (bytes := prog_28_method_4_code) (maxL := 2) (h (.code (Bundle.initS ab_NS) prog_28_method_4_code 2 none) (by simp [ab_own, Bundle.passSAtoms]))
    (f := g) hg (a := a) (msg := msg) (rest := .ref a :: rest) hstack hd6
  cases Option.some.inj (hnC.symm.trans hP1m)
  have X₁ := X.noted hW₁
  obtain ⟨vm₂, X₂, st2⟩ := X₁.ctorMessageOffV hexec (g := { g with stack := .ref a :: rest }) hg hsize T L Z LZ M LM (P1 :: P2 :: Ps)
    (fun P hP => by rcases List.mem_cons.mp hP with rfl | hP; exact L1; rcases List.mem_cons.mp hP with rfl | hP; exact L2; exact hL P hP) ⟨Option.some.inj (hP1s.symm.trans hP2m), hlink1, hlink⟩ (u0 := u0) (sen := sen) (self := a) hmsg (cell := freshCell P1.m.cls kX) (cellS := cellS)
    hcell (fun _ => by simp) (by simp) rfl rfl hsel0 hselF hcellS hneS hknownS (by rw [hkeep _ (hout' _)]; exact hu0) (by rw [hkeep _ (hout' _)]; exact hsen)
    (Takes.of_laid hk hord tyC (by rw [Y.causeType]; rfl)) (Takes.of_laid hk hord tyS (by rw [Y.stackType]; exact fits_refV_array _ u0)) (Takes.of_laid hk hord tyP (by rw [Y.suppType]; exact fits_refV_object _ sen))
    (Takes.of_laid hk hord tyM (by rw [Y.msgType]; exact fits_refV_object _ ⟨msg, hmsg⟩)) Y.objLocals hskip htr [] hd6
    (by simp only [List.length_cons, hlen, List.length_nil]; omega) (by simp only [List.length_cons, hlen, List.length_nil]; omega)
  obtain ⟨hwalk, hrun, hended, hWU, hsame⟩ := X₂.athrowLeaves hexec (g := { g with stack := .ref a :: rest, pc := g.pc + 3 }) hg hlocked hentered hout (a := a) (rest := rest) rfl hd9
  have hlt : a < ((W.setVm vm₁).setVm vm₂).heap.size := (Array.getElem?_eq_some_iff.mp hcell).1
  have hU := heapAt_setCell_self (s := (W.setVm vm₁).setVm vm₂) (plainBareV T.toThrowableT (freshCell P1.m.cls kX) a u0 sen msg) hlt
  refine ⟨_, st1 _ (fun acts => ?_), hrun, hended, hWU, hsame.weaken (fun y hy hlt' => ?_) (Nat.le_refl _) (Nat.le_refl _), _, hU, rfl, hfound⟩
  · rw [doInvoke_state]
    exact st2 _ hwalk
  · rcases List.mem_append.mp hy with h1 | h1
    · exact h1
    · exfalso
      have hb : y.base = a := by
        simp only [List.mem_cons, List.not_mem_nil, or_false] at h1
        rcases h1 with rfl | rfl | rfl | rfl | rfl <;> rfl
      rw [hb] at hlt'
      exact Nat.not_lt.mpr hnew hlt'
end
section
/-! ===== the throw itself, with the cell that it makes ===== -/
def ab_at (own : String) (ic : Nat) : List Cond := (ab_own own ic).filter vx_no
section AB
variable {p : Program} {l : Launch} {e : Env} {R : Room} {s : State} {m : MethodId} {args : Array Value} {below : List Frame} {meth : Method} {c : Code} {H : Heap} {locs : List Loc} {cells slots : Nat} {Q : State → Prop}
variable {mc ms : Nat} {free : Addr → Prop} {A0 A1 : Nat → Prop} {H0 : Heap} {a : Array Value} {ls : Array Slot} {st0 rest : List Value}
variable {Qc : Array Value → State → Outcome → State → Prop} {XC : String → State → State → Prop}
theorem ab_throwS {cc : ByteArray} {pc : Nat} (hexec : p.tables.exec = Jvm.exec) (hb : c.code = cc) (hl : l.stackTraces = false) {own text : String} {ik is ic mc ms sa : Nat} {A : Nat → Prop}
    (hown : s.vm.findClass own = some m.cls) 
    (hk : (Cond.classLink own ik ab_NS).before args s = true) (hini : (Cond.initialized ab_NS).before args s = true) (hstr : vk_R own is text sa s) (hat : ∀ w ∈ ab_at own ic, w.before args s = true)
    (hgood : ∀ w ∈ Cond.classLink own ik ab_NS :: Cond.initialized ab_NS :: ab_at own ic, vx_ot w = true)
    (hU : vx_Zq Bundle.tN "UNASSIGNED_STACK" Bundle.steD A s s.heap) (hN : vx_Zq Bundle.tN "SUPPRESSED_SENTINEL" Bundle.listD A s s.heap) (hS : va_S A s.heap H locs) (hsize : ls.size = c.maxLocals)
    (d0 : decode cc pc = .ok (.new ik, 3)) (d3 : decode cc (pc + 3) = .ok (.dup, 1)) (d4 : decode cc (pc + 4) = .ok (.ldc is, 2)) (d6 : decode cc (pc + 6) = .ok (.invokespecial ic, 3)) (d9 : decode cc (pc + 9) = .ok (.athrow, 1))
    (hout : ∀ x ∈ c.exceptionTable.toList, covers x (pc + 9) = false)
    (hRframes : 5 < R.frames) (hRlocals : (rest.map fun v => v.category).sum + 82 ≤ R.locals) (hRcells : cells + 1 ≤ R.cells) (hRslots : slots + 6 ≤ R.slots) (hlocks : meth.locks = false)
    (hx : ∀ (t : State) (ce : Cell), s.vm.Alike t.vm → t.heap.size = H.size + 1 → (∀ q : Nat, q < H.size → t.heap[q]? = H[q]?) → t.heap[H.size]? = some ce → ce.vm = .none → s.vm.findClass ab_NS = some ce.cls → XC ab_NS s t)
    (hf : ∀ z ∈ locs, free z.base) (hc : cells + 1 ≤ mc) (hs : slots + 6 ≤ ms) :
    W p l e R s m args below meth c H locs cells slots (vx_MQ below Qc XC args s mc ms free) (F0 m pc ls rest) := by
  intro T hT X
  have htr : e.platform.stackTraces = false := (show e.platform.stackTraces = l.stackTraces by rw [X.admits.platform]).trans hl
  have Y := vx_rebase X (R' := { frames := R.frames, locals := R.locals, cells := 1, slots := 6 }) (Nat.le_refl _) (Nat.le_refl _) hRcells hRslots
  obtain ⟨s', hA⟩ : ∃ z, z = (T.setVm s.vm).setFrames (.invoking m args :: below) := ⟨_, rfl⟩
  rw [← hA] at Y
  have hvm : s'.vm = s.vm := by rw [hA]; rfl
  have hhp : s'.heap = H := by rw [hA]; exact hT
  have hW0 : s.WarmedH s'.vm := by rw [hvm]; exact State.WarmedH.refl s
  have hat' : ∀ w ∈ ab_at own ic, w.before args s' = true := fun w hw => vx_ot_at hW0 hvm.symm (hgood w (List.mem_cons_of_mem _ (List.mem_cons_of_mem _ hw))) (hat w hw)
  have hk' : (Cond.classLink own ik ab_NS).before args s' = true := vx_ot_at hW0 hvm.symm (hgood _ List.mem_cons_self) hk
  have hini' : (Cond.initialized ab_NS).before args s' = true := vx_ot_at hW0 hvm.symm (hgood _ (List.mem_cons_of_mem _ List.mem_cons_self)) hini
  have hU' : vx_Zq Bundle.tN "UNASSIGNED_STACK" Bundle.steD A s' s'.heap := by rw [hhp]; exact vx_Zq.moved hW0.alike (hU.kept hS.2.1)
  have hN' : vx_Zq Bundle.tN "SUPPRESSED_SENTINEL" Bundle.listD A s' s'.heap := by rw [hhp]; exact vx_Zq.moved hW0.alike (hN.kept hS.2.1)
  have h : ∀ w ∈ ab_own own ic, w.before args s' = true := vx_own hat' (vx_isRefq hU'.1) (vx_isRefq hN'.1) hU'.2.word hN'.2.word
  have hown' : s'.vm.findClass own = some m.cls := by rw [hvm]; exact hown
  have hins : (Cond.instantiable ab_NS 6).before args s' = true := h _ (by simp [ab_own])
  obtain ⟨vm₁, cX, kX, hfX, hkX, -, -, X₁, st1⟩ := Y.newCold hexec (own := own) (C := ab_NS) (index := ik) (n := 6) hown' hk' hins hini'
    (g := F0 m pc ls rest) rfl (by rw [hb]; exact d0) (Nat.le_refl _) (Nat.le_refl _)
  generalize hT1 : (T.setVm vm₁).pushCell { cls := cX, slots := kX.instanceTypes.map defaultValue, vm := .none } = T1 at X₁ st1
  have hcat : (Value.ref T.heap.size).category = 1 := rfl
  have hcellA : T1.heap[T.heap.size]? = some (freshCell cX kX) := by rw [← hT1]; exact State.heap_pushCell_size _ _
  have d3' : decode c.code (pc + 3) = .ok (.dup, 1) := by rw [hb]; exact d3
  have d4' : decode c.code (pc + 4) = .ok (.ldc is, 2) := by rw [hb]; exact d4
  have hstr' : vk_R own is text sa s' := vk_R.warm hW0 hstr
  obtain ⟨U, hsteps, hrun, hend, hW, hsame, ce, hce, hOv, hOc⟩ := ab_ctor X₁ hexec htr (own := own) (ic := ic) hown' h (fun x hx => nomatch hx) hfX hkX hcellA (by rw [hhp, hT]; exact Nat.le_refl _) (msg := .ref sa) rfl
    (g := { method := m, pc := pc + 6, locals := ls, stack := .ref sa :: .ref T.heap.size :: .ref T.heap.size :: rest, locked := none }) rfl hsize rfl rfl (rest := rest) rfl
    (by rw [hb]; exact d6) (by rw [hb]; exact d9) hout hRframes (by simp only [List.map_cons, List.sum_cons, hcat]; omega) hlocks
  obtain ⟨f1, f2⟩ := vx_frame hsame
  rw [hhp] at f1 f2
  have hWs : s.WarmedH U.vm := State.WarmedH.trans hW0 hW
  have hcl : s.vm.findClass ab_NS = some ce.cls := by
    have h9 := hOc
    rw [hvm] at h9
    exact h9
  have hsz : U.heap.size = H.size + 1 := by
    have z1 : U.heap.size ≤ s'.heap.size + (0 + 1) := hsame.2.2.1
    have z2 : T.heap.size < U.heap.size := (Array.getElem?_eq_some_iff.mp hce).1
    rw [hhp] at z1
    rw [hT] at z2
    omega
  have hall : s.sameButNew ({ U with vm := s.vm } : State) locs mc ms := by
    subst hA
    obtain ⟨e1, e2⟩ := hsame
    rw [State.setFrames_setFrames] at e1
    have h2 : (T.setVm s.vm).sameButNew ({ U with vm := s.vm } : State) [] (0 + 1) (0 + 6) := ⟨e1, e2⟩
    have h3 := X.same.trans h2
    rw [List.append_nil] at h3
    exact h3.mono hc hs
  refine ⟨U, ?_, .threw T.heap.size, hrun, hend, Or.inr ⟨T.heap.size, rfl, ab_NS, ce, locs, hx U ce hWs.alike hsz (fun q hq => f2 q hq (fun z hz => nomatch hz)) (by rw [← hT]; exact hce) hOv hcl, hce, hOv, hcl, hWs, hall, hf⟩⟩
  refine st1 _ ?_
  show Steps p.tables e below (T1.setTop { method := m, pc := pc + 3, locals := ls, stack := .ref T.heap.size :: rest, locked := none }) _
  jvm_step X₁.here [X₁.here.top, hexec, d3', Value.category]
  exact X₁.ldcString hexec (own := own) (text := text) (index := is) (a := sa) hown' hstr'.1 hstr'.2
    (g := { method := m, pc := pc + 4, locals := ls, stack := .ref T.heap.size :: .ref T.heap.size :: rest, locked := none }) rfl d4' _ hsteps
end AB
end
section
/-! ===== a method that may throw, and one that catches ===== -/

/-- where the steps answer '.retAddr 99' the method has thrown; one cell more is there then -/
def ab_Qy (b : ab_B) (D : va_G) (cl : List vw_C) (cA : Nat → ClassId) (o : ab_O) : Array Value → State → Outcome → State → Prop := fun a st oc t => ab_Qx b D cl cA o a st oc t ∧ o.1 ≠ some (.retAddr 99)
def ab_Xc (b : ab_B) (D : va_G) (cl : List vw_C) (cA : Nat → ClassId) (o : ab_O) : String → State → State → Prop := fun E st t => E = ab_NS ∧ o.1 = some (.retAddr 99) ∧ t.heap.size = b.1 + (o.2.1 + 1) ∧ va_P D cl (ab_w b cA (ab_push o.2 (.inr (12, [])))) t.heap ∧ va_F (fun q => b.1 ≤ q) st t
def ab_thr : ab_A := fun s => match s.2.1 with
  | [] => cond (decide (s.2.2.1.1 = 0) && decide (s.2.2.1.2 = 0)) (some (.inr (some (.retAddr 99), s.2.2.2))) none
  | _ => none
/-- a call that may throw; thrown, it is caught at once and put into the local i, of which nothing is known then -/
def ab_callX (j hj i nA ci : Nat) (X : List Value → ab_H → Option ab_O) (mc ms MC MS : Nat) : ab_A := fun s =>
  cond (ab_rcv ci (s.2.1.take nA).reverse s.2.2.2 && decide (nA ≤ s.2.1.length) && decide (ab_cats (s.2.1.drop nA) ≤ 8) && decide (s.2.2.1.1 + mc ≤ MC) && decide (s.2.2.1.2 + ms ≤ MS) && ab_fr s.1 i)
    (match X (s.2.1.take nA).reverse s.2.2.2 with
    | none => none
    | some o => cond (decide (o.1 = some (.retAddr 99))) (some (.inl (hj, s.1.set i none, [], (s.2.2.1.1 + mc, s.2.2.1.2 + ms), ab_push o.2 (.inr (12, [])))))
        (some (.inl (j, s.1, o.1.toList ++ s.2.1.drop nA, (s.2.2.1.1 + mc, s.2.2.1.2 + ms), o.2)))) none
theorem ab_st0 {b : ab_B} {ls : Array Slot} {nL : Nat} {lo : List (Option Value)} {i : Nat} {w : Value} (hf : ab_fr lo i = true)
    (h : lv_has ls nL ((i, w) :: (ab_lp b 0 lo).filter (fun q => !(q.1 == i) && !(q.1 + 1 == i && q.2.category == 2)))) : lv_has ls nL (ab_lp b 0 (lo.set i none)) := by
  refine ⟨h.1, h.2.1, fun q hq => h.2.2 q ?_⟩
  obtain ⟨k, v, h1, rfl⟩ := (ab_lp_mem _ 0 q).mp hq
  rw [List.getElem?_set] at h1
  by_cases hk : i = k
  · subst hk
    rw [if_pos rfl] at h1
    split at h1 <;> cases h1
  · rw [if_neg hk] at h1
    refine List.mem_cons_of_mem _ (List.mem_filter.mpr ⟨(ab_lp_mem lo 0 _).mpr ⟨k, v, h1, rfl⟩, ?_⟩)
    have e1 : (0 + k == i) = false := by simp; omega
    have e2 : ((0 + k + 1 == i) && ((ab_v b v).category == 2)) = false := by
      rw [ab_vcat]
      by_cases hc : v.category = 2
      · have : ¬ (0 + k + 1 = i) := by
          intro he
          subst he
          rw [show 0 + k + 1 = k + 1 by omega] at hf
          simp only [ab_fr, h1] at hf
          rcases ab_cat2 hc with ⟨x, rfl⟩ | ⟨x, rfl⟩ <;> simp at hf
        have e3 : (0 + k + 1 == i) = false := by simpa using this
        rw [e3]; rfl
      · have e3 : (v.category == 2) = false := by simpa using hc
        rw [e3, Bool.and_false]
    show ((!(0 + k == i)) && !((0 + k + 1 == i) && ((ab_v b v).category == 2))) = true
    rw [e1, e2]; rfl
section AB
variable {p : Program} {l : Launch} {e : Env} {R : Room} {s : State} {m : MethodId} {args : Array Value} {below : List Frame} {meth : Method} {c : Code} {Q : State → Prop}
variable {b : ab_B} {D : va_G} {cl : List vw_C} {cA : Nat → ClassId} {nL : Nat} {cc : ByteArray} {P : Nat → Nat} {pc j t : Nat} {o : ab_O} {E : State → Prop}
variable {nA mc ms MC MS maxL index : Nat} {X : List Value → ab_H → Option ab_O} {y : MethodName} {bytes : ByteArray} {ret : Option FieldType} {Ts ws ws' : List Cond} {rm : Room} {own : String}
theorem ab_retx_ok (hx : p.tables.exec = Jvm.exec) (hb : c.code = cc) (hr : meth.sig.returnType = some .int) (hlocks : meth.locks = false) (hd : decode cc pc = .ok (.ireturn, 1)) : ab_ok p l e R s m args below meth c (vx_MQ below (ab_Qy b D cl cA o) (ab_Xc b D cl cA o) args s MC MS (fun q => b.1 ≤ q)) b D cl cA nL o P pc (ab_ret MC MS) := by
  intro σ
  obtain ⟨lo, st, u, hp⟩ := σ
  unfold ab_ret
  dsimp only
  refine ⟨fun j' σ' h1 h2 => ?_, fun h1 => ?_⟩
  · split at h1
    · obtain ⟨-, h1⟩ := ab_cond h1
      cases h1
    · cases h1
  · split at h1
    · rename_i x
      obtain ⟨h2, h1⟩ := ab_cond h1
      obtain rfl := Sum.inr.inj h1
      simp only [Bool.and_eq_true, decide_eq_true_eq] at h2
      intro H locs ls hP hz hS hl
      refine W.widen h2.1 h2.2 (vx_ret ?_)
      exact W.iret (v := x) hx hb hr (fun t ht hW => ⟨⟨⟨rfl, by rw [ht]; exact hz, by rw [ht]; exact hP⟩, hS.F ht⟩, fun h => by cases h⟩) hS.2.2 hd hlocks
    · cases h1
theorem ab_thr_ok {T : u_T} {text : String} {ik is ic : Nat} (hx : p.tables.exec = Jvm.exec) (hb : c.code = cc) (hml : c.maxLocals = nL) (hlocks : meth.locks = false) (htr : l.stackTraces = false) (hown : s.vm.findClass own = some m.cls) (hK : va_K D cl (ab_tys cA) s) (hc12 : cl[12]? = some (ab_NS, T, 0))
    (hk : (Cond.classLink own ik ab_NS).before args s = true) (hini : (Cond.initialized ab_NS).before args s = true) (hstr : vk_R own is text (b.2 t) s) (hat : ∀ w ∈ ab_at own ic, w.before args s = true)
    (hgood : ∀ w ∈ Cond.classLink own ik ab_NS :: Cond.initialized ab_NS :: ab_at own ic, vx_ot w = true)
    (hU : vx_Zq Bundle.tN "UNASSIGNED_STACK" Bundle.steD (fun q => b.1 ≤ q) s s.heap) (hN : vx_Zq Bundle.tN "SUPPRESSED_SENTINEL" Bundle.listD (fun q => b.1 ≤ q) s s.heap)
    (d0 : decode cc pc = .ok (.new ik, 3)) (d3 : decode cc (pc + 3) = .ok (.dup, 1)) (d4 : decode cc (pc + 4) = .ok (.ldc is, 2)) (d6 : decode cc (pc + 6) = .ok (.invokespecial ic, 3)) (d9 : decode cc (pc + 9) = .ok (.athrow, 1))
    (hout : ∀ x ∈ c.exceptionTable.toList, False) (hR : 5 < R.frames ∧ 82 ≤ R.locals ∧ 1 ≤ R.cells ∧ 6 ≤ R.slots) (hM : 1 ≤ MC ∧ 6 ≤ MS) : ab_ok p l e R s m args below meth c (vx_MQ below (ab_Qy b D cl cA o) (ab_Xc b D cl cA o) args s MC MS (fun q => b.1 ≤ q)) b D cl cA nL o P pc ab_thr := by
  intro σ
  obtain ⟨lo, st, u, hp⟩ := σ
  unfold ab_thr
  dsimp only
  refine ⟨fun j' σ' h1 h2 => ?_, fun h1 => ?_⟩
  · split at h1
    · obtain ⟨-, h1⟩ := ab_cond h1
      cases h1
    · cases h1
  · split at h1
    · obtain ⟨h2, h1⟩ := ab_cond h1
      obtain rfl := Sum.inr.inj h1
      simp only [Bool.and_eq_true, decide_eq_true_eq] at h2
      obtain ⟨u1, u2⟩ := u
      obtain ⟨rfl, rfl⟩ := h2
      intro H locs ls hP hz hS hl
      have hKn := (hK.1 12 _ hc12).2
      refine ab_throwS hx hb htr hown hk hini hstr hat hgood hU hN hS (by rw [hml]; exact hl.1) d0 d3 d4 d6 d9 (fun x hx => (hout x hx).elim) hR.1 (by show 0 + _ ≤ _; have := hR.2.1; omega) (by have := hR.2.2.1; omega) (by have := hR.2.2.2; omega) hlocks ?_ hS.2.2 (by have := hM.1; omega) (by have := hM.2; omega)
      intro t ce _ hsz hold hce hcv hcl
      have hcls : ce.cls = D.1 12 := Option.some.inj (hcl.symm.trans hKn.1)
      obtain ⟨a1, a2, a3⟩ := ab_pushed (s := s) (x := .inr (12, [])) (H1 := t.heap) hP hz hS rfl ⟨_, hc12, ⟨ce, by show t.heap[b.1 + hp.1]? = _; rw [← hz]; exact hce, hcls, hcv, fun k hk => by cases hk⟩⟩ hsz hold
      exact ⟨rfl, rfl, a2, a1, ⟨a3.1, a3.2.1⟩⟩
    · cases h1
theorem ab_callX_ok {C : String} {T : u_T} {N ci n i hj : Nat} {x : ExceptionTableEntry} (hx : p.tables.exec = Jvm.exec) (hb : c.code = cc) (hml : c.maxLocals = nL) (hts : ∀ w ∈ Ts, w.before args s = true) (hown : s.vm.findClass own = some m.cls) (hK : va_K D cl (ab_tys cA) s) (hR : R.cells = MC ∧ R.slots = MS) (hE : E s) (hEk : ab_Ek b E) (hEb : ab_Eb E)
    (hM : ∀ (as : List Value) (hp : ab_H) (o : ab_O), X as hp = some o → vx_Met l y ws rm (ab_Px b D cl cA E as hp) (ab_Qy b D cl cA o) (ab_Xc b D cl cA o) rm.cells rm.slots (fun q => b.1 ≤ q)) (hm : rm.cells = mc ∧ rm.slots = ms) (hc : cl[ci]? = some (C, T, N)) (hG : GoodIn Ts ws) (hw : ws = Cond.code y bytes maxL ret :: ws') (hlink : Cond.methodLink own index y ∈ Ts) (hinst : Cond.instanceMethod y ∈ Ts) (hsel : Cond.selects C y y ∈ Ts) (hini : Cond.initialized y.cls ∈ Ts)
    (hn : nA = n + 1) (hds : y.cls ≠ "java/lang/invoke/MethodHandle" ∧ y.cls ≠ "java/lang/invoke/VarHandle" ∧ (parseMethodDescriptor y.desc).map (fun d => d.parameters.length) = some n) (hrm : rm.frames + 1 ≤ R.frames ∧ 8 + (maxL + 11) + rm.locals ≤ R.locals)
    (htab : c.exceptionTable.toList = [x]) (hcov : covers x pc = true) (h0 : x.catchType ≠ 0) (hcl : (Cond.classLink own x.catchType ab_NS).before args s = true) (hcast : (Cond.castable ab_NS ab_NS).before args s = true) (hi : i < nL) (hd2 : decode cc x.handlerPc = .ok (.astore i, 2)) (hhj : P hj = x.handlerPc + 2)
    (hd : decode cc pc = .ok (.invokevirtual index, 3)) (hjj : P j = pc + 3) : ab_ok p l e R s m args below meth c Q b D cl cA nL o P pc (ab_callX j hj i nA ci X mc ms MC MS) := by
  intro σ
  obtain ⟨lo, st, u, hp⟩ := σ
  unfold ab_callX
  dsimp only
  refine ⟨fun j' σ' h kk => ?_, fun h => ?_⟩
  · obtain ⟨h1, h⟩ := ab_condN h
    simp only [Bool.and_eq_true, decide_eq_true_eq] at h1
    obtain ⟨⟨⟨⟨⟨hr0, h1⟩, h2⟩, h3⟩, h4⟩, hfr⟩ := h1
    split at h
    · cases h
    · rename_i o2 hX
      intro H locs ls hP hz hS hl
      obtain ⟨a, As, fs, has, ha, hq⟩ := ab_rcv_ok hr0
      have hlen : As.length = n := by
        have h9 : ((st.take nA).reverse).length = nA := by rw [List.length_reverse, List.length_take]; omega
        rw [has] at h9
        simp at h9
        omega
      have hst := ab_split (b := b) has
      rw [has] at hX
      have hstk : st.map (ab_v b) = (As.map (ab_v b)).reverse ++ .ref (b.1 + a) :: (st.drop nA).map (ab_v b) := by
        rw [hst]
        simp [ab_v]
      have he : (ab_w b cA hp)[a]? = some (b.1 + a, .inr (ci, fs.map (ab_v b))) := by rw [ab_w_at ha, hq]; rfl
      have hrun : vx_Run p l e R s m args below meth c H locs u.1 u.2 mc ms (F0 m pc ls (st.map (ab_v b))) ((st.drop nA).map (ab_v b)) (ab_Qy b D cl cA o2 (Value.ref (b.1 + a) :: As.map (ab_v b)).toArray) (ab_Xc b D cl cA o2) (fun q => b.1 ≤ q) := by
        have hM2 := hM _ hp o2 hX
        rw [hm.1, hm.2] at hM2
        exact vx_runV (C := C) (b := b.1 + a) (As := As.map (ab_v b)) (n := n) ⟨hx, hb, hml, hown, hts⟩ hM2 ⟨callB_of n hts hG hw hm.1 hm.2 (hts _ hini) (hts _ hlink) hds hrm, hts _ hinst, hts _ hsel⟩ ⟨ab_blind hEb _ _, va_recv hK hP hc he, fun U hU hW => ⟨rfl, by rw [hU]; exact hz, by rw [hU]; exact hP, va_K.moved hW.alike hK, hEk s U hW (fun q h1 h2 => by rw [hU]; exact hS.2.1 q h1 h2) hE⟩⟩ rfl (by simpa using hlen) hl.1 hstk (lv_room (by rw [ab_cats_v]; exact h2)) hd (by rw [hR.1, hR.2]; exact ⟨h3, h4⟩)
      intro TT hT XX
      rcases hrun TT hT XX with ⟨v, st₀, t', T', L, g0, X', hL, e1, e2, ⟨⟨⟨hv, hz1, hP1⟩, hF⟩, hne⟩, stp⟩ | ⟨q, st₀, t', T', L, E', ce, g0, X', hL, e1, e2, ⟨rfl, hth, hz1, hP1, hF⟩, hce, hcv, hcl2, stp⟩
      · rw [decide_eq_false hne] at h
        have h' := Option.some.inj h
        simp only [cond_false, Sum.inl.injEq, Prod.mk.injEq] at h'
        obtain ⟨rfl, rfl⟩ := h'
        cases hv
        rw [hjj] at kk
        have hk := kk T'.heap (locs ++ L) ls (by rw [e1]; exact hP1) (by rw [e1]; exact hz1) ⟨Nat.le_trans hS.1 (by rw [e1]; have := hF.1; rw [g0] at this; exact this), fun q h1 h2 => by
            have := hF.2 q (by rw [g0]; exact Nat.lt_of_lt_of_le h1 hS.1) h2
            rw [e1, this, g0]; exact hS.2.1 q h1 h2, fun q hq => by
            rcases List.mem_append.mp hq with h | h
            · exact hS.2.2 q h
            · exact hL q h⟩ hl
        have e3 : (o2.1.toList ++ st.drop nA).map (ab_v b) = (o2.1.map (ab_v b)).toList ++ (st.drop nA).map (ab_v b) := by
          rw [List.map_append]
          cases o2.1 <;> rfl
        simp only [e3] at hk
        obtain ⟨t2, a1, b1⟩ := hk T' rfl X'
        exact ⟨t2, stp t2 a1, b1⟩
      · rw [decide_eq_true hth] at h
        have h' := Option.some.inj h
        simp only [cond_true, Sum.inl.injEq, Prod.mk.injEq] at h'
        obtain ⟨rfl, rfl⟩ := h'
        rw [hhj] at kk
        have hW : vx_W p l e R s m args below meth c T'.heap (locs ++ L) (u.1 + mc) (u.2 + ms) Q (F0 m pc ls ((st.drop nA).map (ab_v b))) q := by
          refine ab_caught hown htab hcov h0 hcl hcast (by rw [e1]; exact hce) hcv hcl2 ?_
          refine lv_astore hx hb hd2 hl hi rfl fun ls' hl' => ?_
          exact kk T'.heap (locs ++ L) ls' (by rw [e1]; exact hP1) (by rw [e1]; exact hz1) ⟨Nat.le_trans hS.1 (by rw [e1]; have := hF.1; rw [g0] at this; exact this), fun q h1 h2 => by
            have := hF.2 q (by rw [g0]; exact Nat.lt_of_lt_of_le h1 hS.1) h2
            rw [e1, this, g0]; exact hS.2.1 q h1 h2, fun q hq => by
            rcases List.mem_append.mp hq with h | h
            · exact hS.2.2 q h
            · exact hL q h⟩ (ab_st0 hfr hl')
        obtain ⟨t2, a1, b1⟩ := hW T' rfl X'
        exact ⟨t2, stp.trans a1, b1⟩
  · obtain ⟨-, h⟩ := ab_condN h
    split at h
    · cases h
    · rename_i o2 hX
      cases hd9 : decide (o2.1 = some (.retAddr 99)) <;> rw [hd9] at h <;> cases h
end AB
theorem ab_methx {l : Launch} {b : ab_B} {D : va_G} {cl : List vw_C} {cA : Nat → ClassId} {E : State → Prop} {y : MethodName} {ws ws' : List Cond} {rm : Room} {cc : ByteArray} {nL : Nat} {ret : Option FieldType} (L : List (Nat × ab_A)) (hy : plainName y.cls = true) (hw : ws = Cond.code y cc nL ret :: ws')
    (hT : ∀ (p : Program) (e : Env) (R : Room) (s : State) (m : MethodId) (args : Array Value) (below : List Frame) (meth : Method) (c : Code) (o : ab_O), ab_cx p l e R s m args below meth c D cl cA E y cc nL ret ws rm → (∀ x ∈ c.exceptionTable.toList, False) → ∀ q ∈ L, ab_ok p l e R s m args below meth c (vx_MQ below (ab_Qy b D cl cA o) (ab_Xc b D cl cA o) args s rm.cells rm.slots (fun q => b.1 ≤ q)) b D cl cA nL o (fun i => i) q.1 q.2) :
    ∀ (as : List Value) (hp : ab_H) (o : ab_O), ab_X (ab_T L) nL as hp = some o → vx_Met l y ws rm (ab_Px b D cl cA E as hp) (ab_Qy b D cl cA o) (ab_Xc b D cl cA o) rm.cells rm.slots (fun q => b.1 ≤ q) := by
  intro as hp o hX
  obtain ⟨hlen, f, hrun⟩ := ab_X_run hX
  refine vx_ofW (cc := cc) (maxL := nL) (ret := ret) hy hw ?_
  intro p e s m args below meth c s₁ B hml htab hv
  obtain ⟨rfl, hz, hPw, hK, hE⟩ := hv
  have C : ab_cx p l e (headSpec ws rm).room s m (as.map (ab_v b)).toArray below meth c D cl cA E y cc nL ret ws rm := ⟨B.exec, B.bytes, hml, B.returns, B.notSynchronized, atoms_spec (ws := ws) B.pre, findClass_of_methodNamed B.named, hK, hE, (name_of_methodNamed B.named B.method).1, rfl⟩
  have hl := lv_entry (as.map (ab_v b)) (n := nL) (by rw [ab_ent_len]; exact hlen)
  rw [lg_entry_eq]
  generalize (lg_sl (as.map (ab_v b)) ++ List.replicate (nL - (lg_sl (as.map (ab_v b))).length) Slot.unset).toArray = ls at hl ⊢
  have hW := ab_run_ok (p := p) (l := l) (e := e) (R := (headSpec ws rm).room) (s := s) (m := m) (args := (as.map (ab_v b)).toArray) (below := below) (meth := meth) (c := c) (Q := vx_MQ below (ab_Qy b D cl cA o) (ab_Xc b D cl cA o) (as.map (ab_v b)).toArray s rm.cells rm.slots (fun q => b.1 ≤ q)) (b := b) (D := D) (cl := cl) (cA := cA) (nL := nL) (P := fun i => i) (o := o) (T := ab_T L) (fun i a ha => hT p e _ s m _ below meth c o C htab (i, a) (ab_T_mem L i a ha)) f 0 _ hrun
  exact hW s.heap [] ls hPw hz va_S.rf (ab_en_has hl)
theorem ab_methW {l : Launch} {b : ab_B} {D : va_G} {cl : List vw_C} {cA : Nat → ClassId} {E : State → Prop} {y : MethodName} {ws ws' : List Cond} {rm : Room} {cc : ByteArray} {nL : Nat} {ret : Option FieldType} {hh : List (Nat × Nat × Nat × Nat)} (L : List (Nat × ab_A)) (hy : plainName y.cls = true) (hw : ws = Cond.codeWith y cc nL ret hh :: ws')
    (hT : ∀ (p : Program) (e : Env) (R : Room) (s : State) (m : MethodId) (args : Array Value) (below : List Frame) (meth : Method) (c : Code) (o : ab_O), ab_cx p l e R s m args below meth c D cl cA E y cc nL ret ws rm → c.exceptionTable.toList = tableOf hh → ∀ q ∈ L, ab_ok p l e R s m args below meth c (MQ below (ab_Qx b D cl cA o) args s rm.cells rm.slots (fun q => b.1 ≤ q)) b D cl cA nL o (fun i => i) q.1 q.2) :
    ab_M l b D cl cA E y ws rm (ab_X (ab_T L) nL) := by
  intro as hp o hX
  obtain ⟨hlen, f, hrun⟩ := ab_X_run hX
  refine va_MetW (cc := cc) (maxL := nL) (ret := ret) hy hw ?_
  intro p e s m args below meth c s₁ B hml hv
  obtain ⟨rfl, hz, hPw, hK, hE⟩ := hv
  have hts := atoms_spec (ws := ws) B.pre
  have htab : c.exceptionTable.toList = tableOf hh := vx_table (l := l) (x := y) B (hts _ (by rw [hw]; exact List.mem_cons_self))
  have C : ab_cx p l e (headSpec ws rm).room s m (as.map (ab_v b)).toArray below meth c D cl cA E y cc nL ret ws rm := ⟨B.exec, B.bytes, hml, B.returns, B.notSynchronized, hts, findClass_of_methodNamed B.named, hK, hE, (name_of_methodNamed B.named B.method).1, rfl⟩
  have hl := lv_entry (as.map (ab_v b)) (n := nL) (by rw [ab_ent_len]; exact hlen)
  rw [lg_entry_eq]
  generalize (lg_sl (as.map (ab_v b)) ++ List.replicate (nL - (lg_sl (as.map (ab_v b))).length) Slot.unset).toArray = ls at hl ⊢
  have hW := ab_run_ok (p := p) (l := l) (e := e) (R := (headSpec ws rm).room) (s := s) (m := m) (args := (as.map (ab_v b)).toArray) (below := below) (meth := meth) (c := c) (Q := MQ below (ab_Qx b D cl cA o) (as.map (ab_v b)).toArray s rm.cells rm.slots (fun q => b.1 ≤ q)) (b := b) (D := D) (cl := cl) (cA := cA) (nL := nL) (P := fun i => i) (o := o) (T := ab_T L) (fun i a ha => hT p e _ s m _ below meth c o C htab (i, a) (ab_T_mem L i a ha)) f 0 _ hrun
  exact hW s.heap [] ls hPw hz va_S.rf (ab_en_has hl)
end
section
-- ===== PART A: goes FIRST, ahead of the names: the tables' words, and 'selects' of the private methods out of them =====
/-- a private method of a class that the tables say can be made, by its rows of tables_1 -/
def lw_okq (q : MethodName × Nat) : Prop := (q.1.cls ≠ "java/lang/invoke/MethodHandle" ∧ q.1.cls ≠ "java/lang/invoke/VarHandle") ∧ Cond.instantiable q.1.cls q.2 ∈ tables_1 ∧ Cond.privateMethod q.1 ∈ tables_1 ∧ Cond.instanceMethod q.1 ∈ tables_1
theorem lw_p0 : lw_okq (⟨"LackFerry$Tape", "skipBlanks", "()V"⟩, 3) := ⟨⟨by decide +kernel, by decide +kernel⟩, List.mem_of_getElem? (i := 33) (by decide +kernel), List.mem_of_getElem? (i := 398) (by decide +kernel), List.mem_of_getElem? (i := 399) (by decide +kernel)⟩
theorem lw_p1 : lw_okq (⟨"LackFerry$Tape", "cutToken", "(LLackFerry$Tokens;)I"⟩, 3) := ⟨⟨by decide +kernel, by decide +kernel⟩, List.mem_of_getElem? (i := 33) (by decide +kernel), List.mem_of_getElem? (i := 406) (by decide +kernel), List.mem_of_getElem? (i := 407) (by decide +kernel)⟩
theorem lw_p2 : lw_okq (⟨"LackFerry$Tape", "cutRun", "(LLackFerry$Tokens;)I"⟩, 3) := ⟨⟨by decide +kernel, by decide +kernel⟩, List.mem_of_getElem? (i := 33) (by decide +kernel), List.mem_of_getElem? (i := 416) (by decide +kernel), List.mem_of_getElem? (i := 417) (by decide +kernel)⟩
theorem lw_p3 : lw_okq (⟨"LackFerry$Tape", "kindOfWord", "(II)I"⟩, 3) := ⟨⟨by decide +kernel, by decide +kernel⟩, List.mem_of_getElem? (i := 33) (by decide +kernel), List.mem_of_getElem? (i := 422) (by decide +kernel), List.mem_of_getElem? (i := 423) (by decide +kernel)⟩
theorem lw_p4 : lw_okq (⟨"LackFerry$Tape", "isToldWord", "(III)Z"⟩, 3) := ⟨⟨by decide +kernel, by decide +kernel⟩, List.mem_of_getElem? (i := 33) (by decide +kernel), List.mem_of_getElem? (i := 426) (by decide +kernel), List.mem_of_getElem? (i := 427) (by decide +kernel)⟩
theorem lw_p5 : lw_okq (⟨"LackFerry$Strait", "clear", "()V"⟩, 13) := ⟨⟨by decide +kernel, by decide +kernel⟩, List.mem_of_getElem? (i := 229) (by decide +kernel), List.mem_of_getElem? (i := 493) (by decide +kernel), List.mem_of_getElem? (i := 494) (by decide +kernel)⟩
theorem lw_p6 : lw_okq (⟨"LackFerry$Strait", "readLine", "(LLackFerry$Tokens;)Z"⟩, 13) := ⟨⟨by decide +kernel, by decide +kernel⟩, List.mem_of_getElem? (i := 229) (by decide +kernel), List.mem_of_getElem? (i := 501) (by decide +kernel), List.mem_of_getElem? (i := 502) (by decide +kernel)⟩
theorem lw_p7 : lw_okq (⟨"LackFerry$Strait", "readAmount", "(LLackFerry$Tokens;I)Z"⟩, 13) := ⟨⟨by decide +kernel, by decide +kernel⟩, List.mem_of_getElem? (i := 229) (by decide +kernel), List.mem_of_getElem? (i := 505) (by decide +kernel), List.mem_of_getElem? (i := 506) (by decide +kernel)⟩
theorem lw_p8 : lw_okq (⟨"LackFerry$Strait", "readLoad", "(LLackFerry$Tokens;)Z"⟩, 13) := ⟨⟨by decide +kernel, by decide +kernel⟩, List.mem_of_getElem? (i := 229) (by decide +kernel), List.mem_of_getElem? (i := 534) (by decide +kernel), List.mem_of_getElem? (i := 535) (by decide +kernel)⟩
theorem lw_p9 : lw_okq (⟨"LackFerry$Strait", "readGood", "(LLackFerry$Tokens;)Z"⟩, 13) := ⟨⟨by decide +kernel, by decide +kernel⟩, List.mem_of_getElem? (i := 229) (by decide +kernel), List.mem_of_getElem? (i := 538) (by decide +kernel), List.mem_of_getElem? (i := 539) (by decide +kernel)⟩
theorem lw_p10 : lw_okq (⟨"LackFerry$Strait", "takeNewName", "(LLackFerry$Tokens;)Z"⟩, 13) := ⟨⟨by decide +kernel, by decide +kernel⟩, List.mem_of_getElem? (i := 229) (by decide +kernel), List.mem_of_getElem? (i := 542) (by decide +kernel), List.mem_of_getElem? (i := 543) (by decide +kernel)⟩
theorem lw_p11 : lw_okq (⟨"LackFerry$Strait", "readMan", "(LLackFerry$Tokens;)Z"⟩, 13) := ⟨⟨by decide +kernel, by decide +kernel⟩, List.mem_of_getElem? (i := 229) (by decide +kernel), List.mem_of_getElem? (i := 550) (by decide +kernel), List.mem_of_getElem? (i := 551) (by decide +kernel)⟩
theorem lw_p12 : lw_okq (⟨"LackFerry$Strait", "readMisses", "(LLackFerry$Tokens;)Z"⟩, 13) := ⟨⟨by decide +kernel, by decide +kernel⟩, List.mem_of_getElem? (i := 229) (by decide +kernel), List.mem_of_getElem? (i := 554) (by decide +kernel), List.mem_of_getElem? (i := 555) (by decide +kernel)⟩
theorem lw_p13 : lw_okq (⟨"LackFerry$Strait", "takeMan", "(LLackFerry$Tokens;)I"⟩, 13) := ⟨⟨by decide +kernel, by decide +kernel⟩, List.mem_of_getElem? (i := 229) (by decide +kernel), List.mem_of_getElem? (i := 558) (by decide +kernel), List.mem_of_getElem? (i := 559) (by decide +kernel)⟩
theorem lw_p14 : lw_okq (⟨"LackFerry$Strait", "isMissTold", "(II)Z"⟩, 13) := ⟨⟨by decide +kernel, by decide +kernel⟩, List.mem_of_getElem? (i := 229) (by decide +kernel), List.mem_of_getElem? (i := 562) (by decide +kernel), List.mem_of_getElem? (i := 563) (by decide +kernel)⟩
theorem lw_p15 : lw_okq (⟨"LackFerry", "isSlot", "(II)Z"⟩, 19) := ⟨⟨by decide +kernel, by decide +kernel⟩, List.mem_of_getElem? (i := 25) (by decide +kernel), List.mem_of_getElem? (i := 590) (by decide +kernel), List.mem_of_getElem? (i := 591) (by decide +kernel)⟩
def lw_privs_1 : List (MethodName × Nat) := [(⟨"LackFerry$Tape", "skipBlanks", "()V"⟩, 3), (⟨"LackFerry$Tape", "cutToken", "(LLackFerry$Tokens;)I"⟩, 3), (⟨"LackFerry$Tape", "cutRun", "(LLackFerry$Tokens;)I"⟩, 3), (⟨"LackFerry$Tape", "kindOfWord", "(II)I"⟩, 3), (⟨"LackFerry$Tape", "isToldWord", "(III)Z"⟩, 3), (⟨"LackFerry$Strait", "clear", "()V"⟩, 13), (⟨"LackFerry$Strait", "readLine", "(LLackFerry$Tokens;)Z"⟩, 13), (⟨"LackFerry$Strait", "readAmount", "(LLackFerry$Tokens;I)Z"⟩, 13), (⟨"LackFerry$Strait", "readLoad", "(LLackFerry$Tokens;)Z"⟩, 13), (⟨"LackFerry$Strait", "readGood", "(LLackFerry$Tokens;)Z"⟩, 13), (⟨"LackFerry$Strait", "takeNewName", "(LLackFerry$Tokens;)Z"⟩, 13), (⟨"LackFerry$Strait", "readMan", "(LLackFerry$Tokens;)Z"⟩, 13), (⟨"LackFerry$Strait", "readMisses", "(LLackFerry$Tokens;)Z"⟩, 13), (⟨"LackFerry$Strait", "takeMan", "(LLackFerry$Tokens;)I"⟩, 13), (⟨"LackFerry$Strait", "isMissTold", "(II)Z"⟩, 13), (⟨"LackFerry", "isSlot", "(II)Z"⟩, 19)]
theorem lw_r1 : ∀ q ∈ lw_privs_1, lw_okq q := List.forall_mem_cons.mpr ⟨lw_p0, List.forall_mem_cons.mpr ⟨lw_p1, List.forall_mem_cons.mpr ⟨lw_p2, List.forall_mem_cons.mpr ⟨lw_p3, List.forall_mem_cons.mpr ⟨lw_p4, List.forall_mem_cons.mpr ⟨lw_p5, List.forall_mem_cons.mpr ⟨lw_p6, List.forall_mem_cons.mpr ⟨lw_p7, List.forall_mem_cons.mpr ⟨lw_p8, List.forall_mem_cons.mpr ⟨lw_p9, List.forall_mem_cons.mpr ⟨lw_p10, List.forall_mem_cons.mpr ⟨lw_p11, List.forall_mem_cons.mpr ⟨lw_p12, List.forall_mem_cons.mpr ⟨lw_p13, List.forall_mem_cons.mpr ⟨lw_p14, List.forall_mem_cons.mpr ⟨lw_p15, fun _ h => absurd h List.not_mem_nil⟩⟩⟩⟩⟩⟩⟩⟩⟩⟩⟩⟩⟩⟩⟩⟩
theorem lw_p16 : lw_okq (⟨"LackFerry", "isGood", "(I)Z"⟩, 19) := ⟨⟨by decide +kernel, by decide +kernel⟩, List.mem_of_getElem? (i := 25) (by decide +kernel), List.mem_of_getElem? (i := 594) (by decide +kernel), List.mem_of_getElem? (i := 595) (by decide +kernel)⟩
theorem lw_p17 : lw_okq (⟨"LackFerry", "areLivingTwo", "(II)Z"⟩, 19) := ⟨⟨by decide +kernel, by decide +kernel⟩, List.mem_of_getElem? (i := 25) (by decide +kernel), List.mem_of_getElem? (i := 622) (by decide +kernel), List.mem_of_getElem? (i := 623) (by decide +kernel)⟩
theorem lw_p18 : lw_okq (⟨"LackFerry", "isMan", "(I)Z"⟩, 19) := ⟨⟨by decide +kernel, by decide +kernel⟩, List.mem_of_getElem? (i := 25) (by decide +kernel), List.mem_of_getElem? (i := 626) (by decide +kernel), List.mem_of_getElem? (i := 627) (by decide +kernel)⟩
theorem lw_p19 : lw_okq (⟨"LackFerry$Shores", "isFelt", "(LLackFerry$Strait;I)Z"⟩, 10) := ⟨⟨by decide +kernel, by decide +kernel⟩, List.mem_of_getElem? (i := 137) (by decide +kernel), List.mem_of_getElem? (i := 670) (by decide +kernel), List.mem_of_getElem? (i := 671) (by decide +kernel)⟩
theorem lw_p20 : lw_okq (⟨"LackFerry", "act", "(IIII)I"⟩, 19) := ⟨⟨by decide +kernel, by decide +kernel⟩, List.mem_of_getElem? (i := 25) (by decide +kernel), List.mem_of_getElem? (i := 702) (by decide +kernel), List.mem_of_getElem? (i := 703) (by decide +kernel)⟩
theorem lw_p21 : lw_okq (⟨"LackFerry$History", "dropOldest", "()V"⟩, 2) := ⟨⟨by decide +kernel, by decide +kernel⟩, List.mem_of_getElem? (i := 122) (by decide +kernel), List.mem_of_getElem? (i := 717) (by decide +kernel), List.mem_of_getElem? (i := 718) (by decide +kernel)⟩
theorem lw_p22 : lw_okq (⟨"LackFerry$Ferry", "carry", "(LLackFerry$Strait;LLackFerry$Shores;)V"⟩, 4) := ⟨⟨by decide +kernel, by decide +kernel⟩, List.mem_of_getElem? (i := 100) (by decide +kernel), List.mem_of_getElem? (i := 769) (by decide +kernel), List.mem_of_getElem? (i := 770) (by decide +kernel)⟩
theorem lw_p23 : lw_okq (⟨"LackFerry", "foreseeRoom", "(II)I"⟩, 19) := ⟨⟨by decide +kernel, by decide +kernel⟩, List.mem_of_getElem? (i := 25) (by decide +kernel), List.mem_of_getElem? (i := 816) (by decide +kernel), List.mem_of_getElem? (i := 817) (by decide +kernel)⟩
theorem lw_p24 : lw_okq (⟨"LackFerry", "roomTowards", "(II)I"⟩, 19) := ⟨⟨by decide +kernel, by decide +kernel⟩, List.mem_of_getElem? (i := 25) (by decide +kernel), List.mem_of_getElem? (i := 820) (by decide +kernel), List.mem_of_getElem? (i := 821) (by decide +kernel)⟩
theorem lw_p25 : lw_okq (⟨"LackFerry", "wouldCome", "(IIII)I"⟩, 19) := ⟨⟨by decide +kernel, by decide +kernel⟩, List.mem_of_getElem? (i := 25) (by decide +kernel), List.mem_of_getElem? (i := 824) (by decide +kernel), List.mem_of_getElem? (i := 825) (by decide +kernel)⟩
theorem lw_p26 : lw_okq (⟨"LackFerry", "couldGoSo", "(II)Z"⟩, 19) := ⟨⟨by decide +kernel, by decide +kernel⟩, List.mem_of_getElem? (i := 25) (by decide +kernel), List.mem_of_getElem? (i := 860) (by decide +kernel), List.mem_of_getElem? (i := 861) (by decide +kernel)⟩
theorem lw_p27 : lw_okq (⟨"LackFerry", "movePrices", "()Z"⟩, 19) := ⟨⟨by decide +kernel, by decide +kernel⟩, List.mem_of_getElem? (i := 25) (by decide +kernel), List.mem_of_getElem? (i := 868) (by decide +kernel), List.mem_of_getElem? (i := 869) (by decide +kernel)⟩
theorem lw_p28 : lw_okq (⟨"LackFerry", "drawDays", "(LLackFerry$Shores;II)I"⟩, 19) := ⟨⟨by decide +kernel, by decide +kernel⟩, List.mem_of_getElem? (i := 25) (by decide +kernel), List.mem_of_getElem? (i := 880) (by decide +kernel), List.mem_of_getElem? (i := 881) (by decide +kernel)⟩
theorem lw_p29 : lw_okq (⟨"LackFerry", "drawDeed", "(LLackFerry$Shores;)V"⟩, 19) := ⟨⟨by decide +kernel, by decide +kernel⟩, List.mem_of_getElem? (i := 25) (by decide +kernel), List.mem_of_getElem? (i := 884) (by decide +kernel), List.mem_of_getElem? (i := 885) (by decide +kernel)⟩
theorem lw_p30 : lw_okq (⟨"LackFerry", "drawDeath", "(LLackFerry$Shores;)V"⟩, 19) := ⟨⟨by decide +kernel, by decide +kernel⟩, List.mem_of_getElem? (i := 25) (by decide +kernel), List.mem_of_getElem? (i := 899) (by decide +kernel), List.mem_of_getElem? (i := 900) (by decide +kernel)⟩
theorem lw_p31 : lw_okq (⟨"LackFerry$LogText", "readLine", "(LLackFerry$Tokens;LLackFerry$Strait;)Z"⟩, 4) := ⟨⟨by decide +kernel, by decide +kernel⟩, List.mem_of_getElem? (i := 193) (by decide +kernel), List.mem_of_getElem? (i := 916) (by decide +kernel), List.mem_of_getElem? (i := 917) (by decide +kernel)⟩
def lw_privs_2 : List (MethodName × Nat) := [(⟨"LackFerry", "isGood", "(I)Z"⟩, 19), (⟨"LackFerry", "areLivingTwo", "(II)Z"⟩, 19), (⟨"LackFerry", "isMan", "(I)Z"⟩, 19), (⟨"LackFerry$Shores", "isFelt", "(LLackFerry$Strait;I)Z"⟩, 10), (⟨"LackFerry", "act", "(IIII)I"⟩, 19), (⟨"LackFerry$History", "dropOldest", "()V"⟩, 2), (⟨"LackFerry$Ferry", "carry", "(LLackFerry$Strait;LLackFerry$Shores;)V"⟩, 4), (⟨"LackFerry", "foreseeRoom", "(II)I"⟩, 19), (⟨"LackFerry", "roomTowards", "(II)I"⟩, 19), (⟨"LackFerry", "wouldCome", "(IIII)I"⟩, 19), (⟨"LackFerry", "couldGoSo", "(II)Z"⟩, 19), (⟨"LackFerry", "movePrices", "()Z"⟩, 19), (⟨"LackFerry", "drawDays", "(LLackFerry$Shores;II)I"⟩, 19), (⟨"LackFerry", "drawDeed", "(LLackFerry$Shores;)V"⟩, 19), (⟨"LackFerry", "drawDeath", "(LLackFerry$Shores;)V"⟩, 19), (⟨"LackFerry$LogText", "readLine", "(LLackFerry$Tokens;LLackFerry$Strait;)Z"⟩, 4)]
theorem lw_r2 : ∀ q ∈ lw_privs_2, lw_okq q := List.forall_mem_cons.mpr ⟨lw_p16, List.forall_mem_cons.mpr ⟨lw_p17, List.forall_mem_cons.mpr ⟨lw_p18, List.forall_mem_cons.mpr ⟨lw_p19, List.forall_mem_cons.mpr ⟨lw_p20, List.forall_mem_cons.mpr ⟨lw_p21, List.forall_mem_cons.mpr ⟨lw_p22, List.forall_mem_cons.mpr ⟨lw_p23, List.forall_mem_cons.mpr ⟨lw_p24, List.forall_mem_cons.mpr ⟨lw_p25, List.forall_mem_cons.mpr ⟨lw_p26, List.forall_mem_cons.mpr ⟨lw_p27, List.forall_mem_cons.mpr ⟨lw_p28, List.forall_mem_cons.mpr ⟨lw_p29, List.forall_mem_cons.mpr ⟨lw_p30, List.forall_mem_cons.mpr ⟨lw_p31, fun _ h => absurd h List.not_mem_nil⟩⟩⟩⟩⟩⟩⟩⟩⟩⟩⟩⟩⟩⟩⟩⟩
theorem lw_p32 : lw_okq (⟨"LackFerry$LogText", "readDeed", "(LLackFerry$Tokens;LLackFerry$Strait;I)Z"⟩, 4) := ⟨⟨by decide +kernel, by decide +kernel⟩, List.mem_of_getElem? (i := 193) (by decide +kernel), List.mem_of_getElem? (i := 922) (by decide +kernel), List.mem_of_getElem? (i := 923) (by decide +kernel)⟩
theorem lw_p33 : lw_okq (⟨"LackFerry$LogText", "addLine", "(III)Z"⟩, 4) := ⟨⟨by decide +kernel, by decide +kernel⟩, List.mem_of_getElem? (i := 193) (by decide +kernel), List.mem_of_getElem? (i := 929) (by decide +kernel), List.mem_of_getElem? (i := 930) (by decide +kernel)⟩
theorem lw_p34 : lw_okq (⟨"LackFerry$LogText", "readDays", "(LLackFerry$Tokens;)Z"⟩, 4) := ⟨⟨by decide +kernel, by decide +kernel⟩, List.mem_of_getElem? (i := 193) (by decide +kernel), List.mem_of_getElem? (i := 933) (by decide +kernel), List.mem_of_getElem? (i := 934) (by decide +kernel)⟩
theorem lw_p35 : lw_okq (⟨"LackFerry$LogText", "readDeath", "(LLackFerry$Tokens;I)Z"⟩, 4) := ⟨⟨by decide +kernel, by decide +kernel⟩, List.mem_of_getElem? (i := 193) (by decide +kernel), List.mem_of_getElem? (i := 937) (by decide +kernel), List.mem_of_getElem? (i := 938) (by decide +kernel)⟩
theorem lw_p36 : lw_okq (⟨"LackFerry", "judgeLog", "()I"⟩, 19) := ⟨⟨by decide +kernel, by decide +kernel⟩, List.mem_of_getElem? (i := 25) (by decide +kernel), List.mem_of_getElem? (i := 942) (by decide +kernel), List.mem_of_getElem? (i := 943) (by decide +kernel)⟩
theorem lw_p37 : lw_okq (⟨"LackFerry", "liveLine", "(III)I"⟩, 19) := ⟨⟨by decide +kernel, by decide +kernel⟩, List.mem_of_getElem? (i := 25) (by decide +kernel), List.mem_of_getElem? (i := 946) (by decide +kernel), List.mem_of_getElem? (i := 947) (by decide +kernel)⟩
theorem lw_p38 : lw_okq (⟨"LackFerry$Sentence", "readCond", "(LLackFerry$Tokens;I)Z"⟩, 6) := ⟨⟨by decide +kernel, by decide +kernel⟩, List.mem_of_getElem? (i := 289) (by decide +kernel), List.mem_of_getElem? (i := 963) (by decide +kernel), List.mem_of_getElem? (i := 964) (by decide +kernel)⟩
theorem lw_p39 : lw_okq (⟨"LackFerry$Sentence", "readAll", "(LLackFerry$Tokens;I)Z"⟩, 6) := ⟨⟨by decide +kernel, by decide +kernel⟩, List.mem_of_getElem? (i := 289) (by decide +kernel), List.mem_of_getElem? (i := 967) (by decide +kernel), List.mem_of_getElem? (i := 968) (by decide +kernel)⟩
theorem lw_p40 : lw_okq (⟨"LackFerry$Sentence", "readOne", "(LLackFerry$Tokens;I)Z"⟩, 6) := ⟨⟨by decide +kernel, by decide +kernel⟩, List.mem_of_getElem? (i := 289) (by decide +kernel), List.mem_of_getElem? (i := 971) (by decide +kernel), List.mem_of_getElem? (i := 972) (by decide +kernel)⟩
theorem lw_p41 : lw_okq (⟨"LackFerry$Sentence", "readBracket", "(LLackFerry$Tokens;I)Z"⟩, 6) := ⟨⟨by decide +kernel, by decide +kernel⟩, List.mem_of_getElem? (i := 289) (by decide +kernel), List.mem_of_getElem? (i := 976) (by decide +kernel), List.mem_of_getElem? (i := 977) (by decide +kernel)⟩
theorem lw_p42 : lw_okq (⟨"LackFerry$Sentence", "addOp", "(III)Z"⟩, 6) := ⟨⟨by decide +kernel, by decide +kernel⟩, List.mem_of_getElem? (i := 289) (by decide +kernel), List.mem_of_getElem? (i := 980) (by decide +kernel), List.mem_of_getElem? (i := 981) (by decide +kernel)⟩
theorem lw_p43 : lw_okq (⟨"LackFerry$Sentence", "readOnShore", "(LLackFerry$Tokens;I)Z"⟩, 6) := ⟨⟨by decide +kernel, by decide +kernel⟩, List.mem_of_getElem? (i := 289) (by decide +kernel), List.mem_of_getElem? (i := 984) (by decide +kernel), List.mem_of_getElem? (i := 985) (by decide +kernel)⟩
theorem lw_p44 : lw_okq (⟨"LackFerry$Sentence", "readCompared", "(LLackFerry$Tokens;I)Z"⟩, 6) := ⟨⟨by decide +kernel, by decide +kernel⟩, List.mem_of_getElem? (i := 289) (by decide +kernel), List.mem_of_getElem? (i := 989) (by decide +kernel), List.mem_of_getElem? (i := 990) (by decide +kernel)⟩
theorem lw_p45 : lw_okq (⟨"LackFerry$Sentence", "isSo", "(IILLackFerry$Strait;LLackFerry$Shores;)Z"⟩, 6) := ⟨⟨by decide +kernel, by decide +kernel⟩, List.mem_of_getElem? (i := 289) (by decide +kernel), List.mem_of_getElem? (i := 1001) (by decide +kernel), List.mem_of_getElem? (i := 1002) (by decide +kernel)⟩
theorem lw_p46 : lw_okq (⟨"java/lang/Throwable", "fillInStackTrace", "(I)Ljava/lang/Throwable;"⟩, 6) := ⟨⟨by decide +kernel, by decide +kernel⟩, List.mem_of_getElem? (i := 1104) (by decide +kernel), List.mem_of_getElem? (i := 1102) (by decide +kernel), List.mem_of_getElem? (i := 1103) (by decide +kernel)⟩
theorem lw_p47 : lw_okq (⟨"LackFerryModel", "four", "(I)V"⟩, 43) := ⟨⟨by decide +kernel, by decide +kernel⟩, List.mem_of_getElem? (i := 1148) (by decide +kernel), List.mem_of_getElem? (i := 1146) (by decide +kernel), List.mem_of_getElem? (i := 1147) (by decide +kernel)⟩
def lw_privs_3 : List (MethodName × Nat) := [(⟨"LackFerry$LogText", "readDeed", "(LLackFerry$Tokens;LLackFerry$Strait;I)Z"⟩, 4), (⟨"LackFerry$LogText", "addLine", "(III)Z"⟩, 4), (⟨"LackFerry$LogText", "readDays", "(LLackFerry$Tokens;)Z"⟩, 4), (⟨"LackFerry$LogText", "readDeath", "(LLackFerry$Tokens;I)Z"⟩, 4), (⟨"LackFerry", "judgeLog", "()I"⟩, 19), (⟨"LackFerry", "liveLine", "(III)I"⟩, 19), (⟨"LackFerry$Sentence", "readCond", "(LLackFerry$Tokens;I)Z"⟩, 6), (⟨"LackFerry$Sentence", "readAll", "(LLackFerry$Tokens;I)Z"⟩, 6), (⟨"LackFerry$Sentence", "readOne", "(LLackFerry$Tokens;I)Z"⟩, 6), (⟨"LackFerry$Sentence", "readBracket", "(LLackFerry$Tokens;I)Z"⟩, 6), (⟨"LackFerry$Sentence", "addOp", "(III)Z"⟩, 6), (⟨"LackFerry$Sentence", "readOnShore", "(LLackFerry$Tokens;I)Z"⟩, 6), (⟨"LackFerry$Sentence", "readCompared", "(LLackFerry$Tokens;I)Z"⟩, 6), (⟨"LackFerry$Sentence", "isSo", "(IILLackFerry$Strait;LLackFerry$Shores;)Z"⟩, 6), (⟨"java/lang/Throwable", "fillInStackTrace", "(I)Ljava/lang/Throwable;"⟩, 6), (⟨"LackFerryModel", "four", "(I)V"⟩, 43)]
theorem lw_r3 : ∀ q ∈ lw_privs_3, lw_okq q := List.forall_mem_cons.mpr ⟨lw_p32, List.forall_mem_cons.mpr ⟨lw_p33, List.forall_mem_cons.mpr ⟨lw_p34, List.forall_mem_cons.mpr ⟨lw_p35, List.forall_mem_cons.mpr ⟨lw_p36, List.forall_mem_cons.mpr ⟨lw_p37, List.forall_mem_cons.mpr ⟨lw_p38, List.forall_mem_cons.mpr ⟨lw_p39, List.forall_mem_cons.mpr ⟨lw_p40, List.forall_mem_cons.mpr ⟨lw_p41, List.forall_mem_cons.mpr ⟨lw_p42, List.forall_mem_cons.mpr ⟨lw_p43, List.forall_mem_cons.mpr ⟨lw_p44, List.forall_mem_cons.mpr ⟨lw_p45, List.forall_mem_cons.mpr ⟨lw_p46, List.forall_mem_cons.mpr ⟨lw_p47, fun _ h => absurd h List.not_mem_nil⟩⟩⟩⟩⟩⟩⟩⟩⟩⟩⟩⟩⟩⟩⟩⟩
theorem lw_p48 : lw_okq (⟨"LackFerryModel", "taken", "(I)V"⟩, 43) := ⟨⟨by decide +kernel, by decide +kernel⟩, List.mem_of_getElem? (i := 1148) (by decide +kernel), List.mem_of_getElem? (i := 1320) (by decide +kernel), List.mem_of_getElem? (i := 1321) (by decide +kernel)⟩
theorem lw_p49 : lw_okq (⟨"LackFerryModel", "next", "()V"⟩, 43) := ⟨⟨by decide +kernel, by decide +kernel⟩, List.mem_of_getElem? (i := 1148) (by decide +kernel), List.mem_of_getElem? (i := 1324) (by decide +kernel), List.mem_of_getElem? (i := 1325) (by decide +kernel)⟩
theorem lw_p50 : lw_okq (⟨"LackFerryModel", "peek", "()I"⟩, 43) := ⟨⟨by decide +kernel, by decide +kernel⟩, List.mem_of_getElem? (i := 1148) (by decide +kernel), List.mem_of_getElem? (i := 1328) (by decide +kernel), List.mem_of_getElem? (i := 1329) (by decide +kernel)⟩
theorem lw_p51 : lw_okq (⟨"LackFerryModel", "line", "()Z"⟩, 43) := ⟨⟨by decide +kernel, by decide +kernel⟩, List.mem_of_getElem? (i := 1148) (by decide +kernel), List.mem_of_getElem? (i := 1338) (by decide +kernel), List.mem_of_getElem? (i := 1339) (by decide +kernel)⟩
theorem lw_p52 : lw_okq (⟨"LackFerryModel", "isWord", "(J)Z"⟩, 43) := ⟨⟨by decide +kernel, by decide +kernel⟩, List.mem_of_getElem? (i := 1148) (by decide +kernel), List.mem_of_getElem? (i := 1342) (by decide +kernel), List.mem_of_getElem? (i := 1343) (by decide +kernel)⟩
theorem lw_p53 : lw_okq (⟨"LackFerryModel", "bad", "(I)Z"⟩, 43) := ⟨⟨by decide +kernel, by decide +kernel⟩, List.mem_of_getElem? (i := 1148) (by decide +kernel), List.mem_of_getElem? (i := 1346) (by decide +kernel), List.mem_of_getElem? (i := 1347) (by decide +kernel)⟩
theorem lw_p54 : lw_okq (⟨"LackFerryModel", "puts", "(III)Z"⟩, 43) := ⟨⟨by decide +kernel, by decide +kernel⟩, List.mem_of_getElem? (i := 1148) (by decide +kernel), List.mem_of_getElem? (i := 1350) (by decide +kernel), List.mem_of_getElem? (i := 1351) (by decide +kernel)⟩
theorem lw_p55 : lw_okq (⟨"LackFerryModel", "takes", "(II)Z"⟩, 43) := ⟨⟨by decide +kernel, by decide +kernel⟩, List.mem_of_getElem? (i := 1148) (by decide +kernel), List.mem_of_getElem? (i := 1354) (by decide +kernel), List.mem_of_getElem? (i := 1355) (by decide +kernel)⟩
theorem lw_p56 : lw_okq (⟨"LackFerryModel", "fresh", "(I)Z"⟩, 43) := ⟨⟨by decide +kernel, by decide +kernel⟩, List.mem_of_getElem? (i := 1148) (by decide +kernel), List.mem_of_getElem? (i := 1361) (by decide +kernel), List.mem_of_getElem? (i := 1362) (by decide +kernel)⟩
theorem lw_p57 : lw_okq (⟨"LackFerryModel", "isName", "()Z"⟩, 43) := ⟨⟨by decide +kernel, by decide +kernel⟩, List.mem_of_getElem? (i := 1148) (by decide +kernel), List.mem_of_getElem? (i := 1365) (by decide +kernel), List.mem_of_getElem? (i := 1366) (by decide +kernel)⟩
theorem lw_p58 : lw_okq (⟨"LackFerryModel", "find", "(II)I"⟩, 43) := ⟨⟨by decide +kernel, by decide +kernel⟩, List.mem_of_getElem? (i := 1148) (by decide +kernel), List.mem_of_getElem? (i := 1369) (by decide +kernel), List.mem_of_getElem? (i := 1370) (by decide +kernel)⟩
theorem lw_p59 : lw_okq (⟨"LackFerryModel", "readMisses", "()Z"⟩, 43) := ⟨⟨by decide +kernel, by decide +kernel⟩, List.mem_of_getElem? (i := 1148) (by decide +kernel), List.mem_of_getElem? (i := 1373) (by decide +kernel), List.mem_of_getElem? (i := 1374) (by decide +kernel)⟩
theorem lw_p60 : lw_okq (⟨"LackFerryModel", "takesName", "(II)Z"⟩, 43) := ⟨⟨by decide +kernel, by decide +kernel⟩, List.mem_of_getElem? (i := 1148) (by decide +kernel), List.mem_of_getElem? (i := 1377) (by decide +kernel), List.mem_of_getElem? (i := 1378) (by decide +kernel)⟩
theorem lw_p61 : lw_okq (⟨"LackFerryModel", "looksAt", "(II)Z"⟩, 43) := ⟨⟨by decide +kernel, by decide +kernel⟩, List.mem_of_getElem? (i := 1148) (by decide +kernel), List.mem_of_getElem? (i := 1381) (by decide +kernel), List.mem_of_getElem? (i := 1382) (by decide +kernel)⟩
theorem lw_p62 : lw_okq (⟨"LackFerryModel", "sign", "(I)Z"⟩, 43) := ⟨⟨by decide +kernel, by decide +kernel⟩, List.mem_of_getElem? (i := 1148) (by decide +kernel), List.mem_of_getElem? (i := 1388) (by decide +kernel), List.mem_of_getElem? (i := 1389) (by decide +kernel)⟩
theorem lw_p63 : lw_okq (⟨"LackFerryModel", "isSign", "(I)Z"⟩, 43) := ⟨⟨by decide +kernel, by decide +kernel⟩, List.mem_of_getElem? (i := 1148) (by decide +kernel), List.mem_of_getElem? (i := 1392) (by decide +kernel), List.mem_of_getElem? (i := 1393) (by decide +kernel)⟩
def lw_privs_4 : List (MethodName × Nat) := [(⟨"LackFerryModel", "taken", "(I)V"⟩, 43), (⟨"LackFerryModel", "next", "()V"⟩, 43), (⟨"LackFerryModel", "peek", "()I"⟩, 43), (⟨"LackFerryModel", "line", "()Z"⟩, 43), (⟨"LackFerryModel", "isWord", "(J)Z"⟩, 43), (⟨"LackFerryModel", "bad", "(I)Z"⟩, 43), (⟨"LackFerryModel", "puts", "(III)Z"⟩, 43), (⟨"LackFerryModel", "takes", "(II)Z"⟩, 43), (⟨"LackFerryModel", "fresh", "(I)Z"⟩, 43), (⟨"LackFerryModel", "isName", "()Z"⟩, 43), (⟨"LackFerryModel", "find", "(II)I"⟩, 43), (⟨"LackFerryModel", "readMisses", "()Z"⟩, 43), (⟨"LackFerryModel", "takesName", "(II)Z"⟩, 43), (⟨"LackFerryModel", "looksAt", "(II)Z"⟩, 43), (⟨"LackFerryModel", "sign", "(I)Z"⟩, 43), (⟨"LackFerryModel", "isSign", "(I)Z"⟩, 43)]
theorem lw_r4 : ∀ q ∈ lw_privs_4, lw_okq q := List.forall_mem_cons.mpr ⟨lw_p48, List.forall_mem_cons.mpr ⟨lw_p49, List.forall_mem_cons.mpr ⟨lw_p50, List.forall_mem_cons.mpr ⟨lw_p51, List.forall_mem_cons.mpr ⟨lw_p52, List.forall_mem_cons.mpr ⟨lw_p53, List.forall_mem_cons.mpr ⟨lw_p54, List.forall_mem_cons.mpr ⟨lw_p55, List.forall_mem_cons.mpr ⟨lw_p56, List.forall_mem_cons.mpr ⟨lw_p57, List.forall_mem_cons.mpr ⟨lw_p58, List.forall_mem_cons.mpr ⟨lw_p59, List.forall_mem_cons.mpr ⟨lw_p60, List.forall_mem_cons.mpr ⟨lw_p61, List.forall_mem_cons.mpr ⟨lw_p62, List.forall_mem_cons.mpr ⟨lw_p63, fun _ h => absurd h List.not_mem_nil⟩⟩⟩⟩⟩⟩⟩⟩⟩⟩⟩⟩⟩⟩⟩⟩
theorem lw_p64 : lw_okq (⟨"LackFerryModel", "isPlace", "(II)Z"⟩, 43) := ⟨⟨by decide +kernel, by decide +kernel⟩, List.mem_of_getElem? (i := 1148) (by decide +kernel), List.mem_of_getElem? (i := 1404) (by decide +kernel), List.mem_of_getElem? (i := 1405) (by decide +kernel)⟩
theorem lw_p65 : lw_okq (⟨"LackFerryModel", "isGood", "(I)Z"⟩, 43) := ⟨⟨by decide +kernel, by decide +kernel⟩, List.mem_of_getElem? (i := 1148) (by decide +kernel), List.mem_of_getElem? (i := 1408) (by decide +kernel), List.mem_of_getElem? (i := 1409) (by decide +kernel)⟩
theorem lw_p66 : lw_okq (⟨"LackFerryModel", "isShore", "(I)Z"⟩, 43) := ⟨⟨by decide +kernel, by decide +kernel⟩, List.mem_of_getElem? (i := 1148) (by decide +kernel), List.mem_of_getElem? (i := 1412) (by decide +kernel), List.mem_of_getElem? (i := 1413) (by decide +kernel)⟩
theorem lw_p67 : lw_okq (⟨"LackFerryModel", "lackOf", "(II)I"⟩, 43) := ⟨⟨by decide +kernel, by decide +kernel⟩, List.mem_of_getElem? (i := 1148) (by decide +kernel), List.mem_of_getElem? (i := 1419) (by decide +kernel), List.mem_of_getElem? (i := 1420) (by decide +kernel)⟩
theorem lw_p68 : lw_okq (⟨"LackFerryModel", "isFalse", "(II)Z"⟩, 43) := ⟨⟨by decide +kernel, by decide +kernel⟩, List.mem_of_getElem? (i := 1148) (by decide +kernel), List.mem_of_getElem? (i := 1423) (by decide +kernel), List.mem_of_getElem? (i := 1424) (by decide +kernel)⟩
theorem lw_p69 : lw_okq (⟨"LackFerryModel", "isMan", "(I)Z"⟩, 43) := ⟨⟨by decide +kernel, by decide +kernel⟩, List.mem_of_getElem? (i := 1148) (by decide +kernel), List.mem_of_getElem? (i := 1435) (by decide +kernel), List.mem_of_getElem? (i := 1436) (by decide +kernel)⟩
theorem lw_p70 : lw_okq (⟨"LackFerryModel", "throwsIf", "(Z)Z"⟩, 43) := ⟨⟨by decide +kernel, by decide +kernel⟩, List.mem_of_getElem? (i := 1148) (by decide +kernel), List.mem_of_getElem? (i := 1439) (by decide +kernel), List.mem_of_getElem? (i := 1440) (by decide +kernel)⟩
theorem lw_p71 : lw_okq (⟨"LackFerryModel", "isDead", "(I)Z"⟩, 43) := ⟨⟨by decide +kernel, by decide +kernel⟩, List.mem_of_getElem? (i := 1148) (by decide +kernel), List.mem_of_getElem? (i := 1443) (by decide +kernel), List.mem_of_getElem? (i := 1444) (by decide +kernel)⟩
theorem lw_p72 : lw_okq (⟨"LackFerryModel", "missedBy", "(I)I"⟩, 43) := ⟨⟨by decide +kernel, by decide +kernel⟩, List.mem_of_getElem? (i := 1148) (by decide +kernel), List.mem_of_getElem? (i := 1447) (by decide +kernel), List.mem_of_getElem? (i := 1448) (by decide +kernel)⟩
theorem lw_p73 : lw_okq (⟨"LackFerryModel", "doesMiss", "(II)Z"⟩, 43) := ⟨⟨by decide +kernel, by decide +kernel⟩, List.mem_of_getElem? (i := 1148) (by decide +kernel), List.mem_of_getElem? (i := 1451) (by decide +kernel), List.mem_of_getElem? (i := 1452) (by decide +kernel)⟩
theorem lw_p74 : lw_okq (⟨"LackFerryModel", "areUnlike", "(II)Z"⟩, 43) := ⟨⟨by decide +kernel, by decide +kernel⟩, List.mem_of_getElem? (i := 1148) (by decide +kernel), List.mem_of_getElem? (i := 1455) (by decide +kernel), List.mem_of_getElem? (i := 1456) (by decide +kernel)⟩
theorem lw_p75 : lw_okq (⟨"LackFerryModel", "missesOf", "(I)I"⟩, 43) := ⟨⟨by decide +kernel, by decide +kernel⟩, List.mem_of_getElem? (i := 1148) (by decide +kernel), List.mem_of_getElem? (i := 1459) (by decide +kernel), List.mem_of_getElem? (i := 1460) (by decide +kernel)⟩
theorem lw_p76 : lw_okq (⟨"LackFerryModel", "menOn", "(I)I"⟩, 43) := ⟨⟨by decide +kernel, by decide +kernel⟩, List.mem_of_getElem? (i := 1148) (by decide +kernel), List.mem_of_getElem? (i := 1471) (by decide +kernel), List.mem_of_getElem? (i := 1472) (by decide +kernel)⟩
theorem lw_p77 : lw_okq (⟨"LackFerryModel", "whyHoard", "(II)I"⟩, 43) := ⟨⟨by decide +kernel, by decide +kernel⟩, List.mem_of_getElem? (i := 1148) (by decide +kernel), List.mem_of_getElem? (i := 1479) (by decide +kernel), List.mem_of_getElem? (i := 1480) (by decide +kernel)⟩
theorem lw_p78 : lw_okq (⟨"LackFerryModel", "keep", "()V"⟩, 43) := ⟨⟨by decide +kernel, by decide +kernel⟩, List.mem_of_getElem? (i := 1148) (by decide +kernel), List.mem_of_getElem? (i := 1483) (by decide +kernel), List.mem_of_getElem? (i := 1484) (by decide +kernel)⟩
theorem lw_p79 : lw_okq (⟨"LackFerryModel", "hoards", "(II)V"⟩, 43) := ⟨⟨by decide +kernel, by decide +kernel⟩, List.mem_of_getElem? (i := 1148) (by decide +kernel), List.mem_of_getElem? (i := 1487) (by decide +kernel), List.mem_of_getElem? (i := 1488) (by decide +kernel)⟩
def lw_privs_5 : List (MethodName × Nat) := [(⟨"LackFerryModel", "isPlace", "(II)Z"⟩, 43), (⟨"LackFerryModel", "isGood", "(I)Z"⟩, 43), (⟨"LackFerryModel", "isShore", "(I)Z"⟩, 43), (⟨"LackFerryModel", "lackOf", "(II)I"⟩, 43), (⟨"LackFerryModel", "isFalse", "(II)Z"⟩, 43), (⟨"LackFerryModel", "isMan", "(I)Z"⟩, 43), (⟨"LackFerryModel", "throwsIf", "(Z)Z"⟩, 43), (⟨"LackFerryModel", "isDead", "(I)Z"⟩, 43), (⟨"LackFerryModel", "missedBy", "(I)I"⟩, 43), (⟨"LackFerryModel", "doesMiss", "(II)Z"⟩, 43), (⟨"LackFerryModel", "areUnlike", "(II)Z"⟩, 43), (⟨"LackFerryModel", "missesOf", "(I)I"⟩, 43), (⟨"LackFerryModel", "menOn", "(I)I"⟩, 43), (⟨"LackFerryModel", "whyHoard", "(II)I"⟩, 43), (⟨"LackFerryModel", "keep", "()V"⟩, 43), (⟨"LackFerryModel", "hoards", "(II)V"⟩, 43)]
theorem lw_r5 : ∀ q ∈ lw_privs_5, lw_okq q := List.forall_mem_cons.mpr ⟨lw_p64, List.forall_mem_cons.mpr ⟨lw_p65, List.forall_mem_cons.mpr ⟨lw_p66, List.forall_mem_cons.mpr ⟨lw_p67, List.forall_mem_cons.mpr ⟨lw_p68, List.forall_mem_cons.mpr ⟨lw_p69, List.forall_mem_cons.mpr ⟨lw_p70, List.forall_mem_cons.mpr ⟨lw_p71, List.forall_mem_cons.mpr ⟨lw_p72, List.forall_mem_cons.mpr ⟨lw_p73, List.forall_mem_cons.mpr ⟨lw_p74, List.forall_mem_cons.mpr ⟨lw_p75, List.forall_mem_cons.mpr ⟨lw_p76, List.forall_mem_cons.mpr ⟨lw_p77, List.forall_mem_cons.mpr ⟨lw_p78, List.forall_mem_cons.mpr ⟨lw_p79, fun _ h => absurd h List.not_mem_nil⟩⟩⟩⟩⟩⟩⟩⟩⟩⟩⟩⟩⟩⟩⟩⟩
theorem lw_p80 : lw_okq (⟨"LackFerryModel", "whyBare", "(II)I"⟩, 43) := ⟨⟨by decide +kernel, by decide +kernel⟩, List.mem_of_getElem? (i := 1148) (by decide +kernel), List.mem_of_getElem? (i := 1495) (by decide +kernel), List.mem_of_getElem? (i := 1496) (by decide +kernel)⟩
theorem lw_p81 : lw_okq (⟨"LackFerryModel", "goesOn", "(I)I"⟩, 43) := ⟨⟨by decide +kernel, by decide +kernel⟩, List.mem_of_getElem? (i := 1148) (by decide +kernel), List.mem_of_getElem? (i := 1511) (by decide +kernel), List.mem_of_getElem? (i := 1512) (by decide +kernel)⟩
theorem lw_p82 : lw_okq (⟨"LackFerryModel", "day", "()V"⟩, 43) := ⟨⟨by decide +kernel, by decide +kernel⟩, List.mem_of_getElem? (i := 1148) (by decide +kernel), List.mem_of_getElem? (i := 1515) (by decide +kernel), List.mem_of_getElem? (i := 1516) (by decide +kernel)⟩
theorem lw_p83 : lw_okq (⟨"LackFerryModel", "goingSet", "()I"⟩, 43) := ⟨⟨by decide +kernel, by decide +kernel⟩, List.mem_of_getElem? (i := 1148) (by decide +kernel), List.mem_of_getElem? (i := 1519) (by decide +kernel), List.mem_of_getElem? (i := 1520) (by decide +kernel)⟩
theorem lw_p84 : lw_okq (⟨"LackFerryModel", "goesOf", "(I)I"⟩, 43) := ⟨⟨by decide +kernel, by decide +kernel⟩, List.mem_of_getElem? (i := 1148) (by decide +kernel), List.mem_of_getElem? (i := 1523) (by decide +kernel), List.mem_of_getElem? (i := 1524) (by decide +kernel)⟩
theorem lw_p85 : lw_okq (⟨"LackFerryModel", "eats", "(I)V"⟩, 43) := ⟨⟨by decide +kernel, by decide +kernel⟩, List.mem_of_getElem? (i := 1148) (by decide +kernel), List.mem_of_getElem? (i := 1530) (by decide +kernel), List.mem_of_getElem? (i := 1531) (by decide +kernel)⟩
theorem lw_p86 : lw_okq (⟨"LackFerryModel", "tries", "()V"⟩, 43) := ⟨⟨by decide +kernel, by decide +kernel⟩, List.mem_of_getElem? (i := 1148) (by decide +kernel), List.mem_of_getElem? (i := 1558) (by decide +kernel), List.mem_of_getElem? (i := 1559) (by decide +kernel)⟩
theorem lw_p87 : lw_okq (⟨"LackFerryModel", "back", "()V"⟩, 43) := ⟨⟨by decide +kernel, by decide +kernel⟩, List.mem_of_getElem? (i := 1148) (by decide +kernel), List.mem_of_getElem? (i := 1562) (by decide +kernel), List.mem_of_getElem? (i := 1563) (by decide +kernel)⟩
theorem lw_p88 : lw_okq (⟨"LackFerryModel", "octet", "(I)I"⟩, 43) := ⟨⟨by decide +kernel, by decide +kernel⟩, List.mem_of_getElem? (i := 1148) (by decide +kernel), List.mem_of_getElem? (i := 1586) (by decide +kernel), List.mem_of_getElem? (i := 1587) (by decide +kernel)⟩
theorem lw_p89 : lw_okq (⟨"LackFerryModel", "lays", "(I)V"⟩, 43) := ⟨⟨by decide +kernel, by decide +kernel⟩, List.mem_of_getElem? (i := 1148) (by decide +kernel), List.mem_of_getElem? (i := 1594) (by decide +kernel), List.mem_of_getElem? (i := 1595) (by decide +kernel)⟩
theorem lw_p90 : lw_okq (⟨"LackFerryModel", "areAlike", "(II)Z"⟩, 43) := ⟨⟨by decide +kernel, by decide +kernel⟩, List.mem_of_getElem? (i := 1148) (by decide +kernel), List.mem_of_getElem? (i := 1598) (by decide +kernel), List.mem_of_getElem? (i := 1599) (by decide +kernel)⟩
theorem lw_p91 : lw_okq (⟨"LackFerryModel", "draws", "(II)I"⟩, 43) := ⟨⟨by decide +kernel, by decide +kernel⟩, List.mem_of_getElem? (i := 1148) (by decide +kernel), List.mem_of_getElem? (i := 1633) (by decide +kernel), List.mem_of_getElem? (i := 1634) (by decide +kernel)⟩
theorem lw_p92 : lw_okq (⟨"LackFerryModel", "drawsDay", "()V"⟩, 43) := ⟨⟨by decide +kernel, by decide +kernel⟩, List.mem_of_getElem? (i := 1148) (by decide +kernel), List.mem_of_getElem? (i := 1637) (by decide +kernel), List.mem_of_getElem? (i := 1638) (by decide +kernel)⟩
theorem lw_p93 : lw_okq (⟨"LackFerryModel", "draw", "(I)I"⟩, 43) := ⟨⟨by decide +kernel, by decide +kernel⟩, List.mem_of_getElem? (i := 1148) (by decide +kernel), List.mem_of_getElem? (i := 1641) (by decide +kernel), List.mem_of_getElem? (i := 1642) (by decide +kernel)⟩
theorem lw_p94 : lw_okq (⟨"LackFerryModel", "logLine", "()Z"⟩, 43) := ⟨⟨by decide +kernel, by decide +kernel⟩, List.mem_of_getElem? (i := 1148) (by decide +kernel), List.mem_of_getElem? (i := 1654) (by decide +kernel), List.mem_of_getElem? (i := 1655) (by decide +kernel)⟩
theorem lw_p95 : lw_okq (⟨"LackFerryModel", "does", "(IIII)I"⟩, 43) := ⟨⟨by decide +kernel, by decide +kernel⟩, List.mem_of_getElem? (i := 1148) (by decide +kernel), List.mem_of_getElem? (i := 1658) (by decide +kernel), List.mem_of_getElem? (i := 1659) (by decide +kernel)⟩
def lw_privs_6 : List (MethodName × Nat) := [(⟨"LackFerryModel", "whyBare", "(II)I"⟩, 43), (⟨"LackFerryModel", "goesOn", "(I)I"⟩, 43), (⟨"LackFerryModel", "day", "()V"⟩, 43), (⟨"LackFerryModel", "goingSet", "()I"⟩, 43), (⟨"LackFerryModel", "goesOf", "(I)I"⟩, 43), (⟨"LackFerryModel", "eats", "(I)V"⟩, 43), (⟨"LackFerryModel", "tries", "()V"⟩, 43), (⟨"LackFerryModel", "back", "()V"⟩, 43), (⟨"LackFerryModel", "octet", "(I)I"⟩, 43), (⟨"LackFerryModel", "lays", "(I)V"⟩, 43), (⟨"LackFerryModel", "areAlike", "(II)Z"⟩, 43), (⟨"LackFerryModel", "draws", "(II)I"⟩, 43), (⟨"LackFerryModel", "drawsDay", "()V"⟩, 43), (⟨"LackFerryModel", "draw", "(I)I"⟩, 43), (⟨"LackFerryModel", "logLine", "()Z"⟩, 43), (⟨"LackFerryModel", "does", "(IIII)I"⟩, 43)]
theorem lw_r6 : ∀ q ∈ lw_privs_6, lw_okq q := List.forall_mem_cons.mpr ⟨lw_p80, List.forall_mem_cons.mpr ⟨lw_p81, List.forall_mem_cons.mpr ⟨lw_p82, List.forall_mem_cons.mpr ⟨lw_p83, List.forall_mem_cons.mpr ⟨lw_p84, List.forall_mem_cons.mpr ⟨lw_p85, List.forall_mem_cons.mpr ⟨lw_p86, List.forall_mem_cons.mpr ⟨lw_p87, List.forall_mem_cons.mpr ⟨lw_p88, List.forall_mem_cons.mpr ⟨lw_p89, List.forall_mem_cons.mpr ⟨lw_p90, List.forall_mem_cons.mpr ⟨lw_p91, List.forall_mem_cons.mpr ⟨lw_p92, List.forall_mem_cons.mpr ⟨lw_p93, List.forall_mem_cons.mpr ⟨lw_p94, List.forall_mem_cons.mpr ⟨lw_p95, fun _ h => absurd h List.not_mem_nil⟩⟩⟩⟩⟩⟩⟩⟩⟩⟩⟩⟩⟩⟩⟩⟩
theorem lw_p96 : lw_okq (⟨"LackFerryModel", "nots", "()V"⟩, 43) := ⟨⟨by decide +kernel, by decide +kernel⟩, List.mem_of_getElem? (i := 1148) (by decide +kernel), List.mem_of_getElem? (i := 1670) (by decide +kernel), List.mem_of_getElem? (i := 1671) (by decide +kernel)⟩
theorem lw_p97 : lw_okq (⟨"LackFerryModel", "code", "(III)V"⟩, 43) := ⟨⟨by decide +kernel, by decide +kernel⟩, List.mem_of_getElem? (i := 1148) (by decide +kernel), List.mem_of_getElem? (i := 1674) (by decide +kernel), List.mem_of_getElem? (i := 1675) (by decide +kernel)⟩
theorem lw_p98 : lw_okq (⟨"LackFerryModel", "joins", "(I)V"⟩, 43) := ⟨⟨by decide +kernel, by decide +kernel⟩, List.mem_of_getElem? (i := 1148) (by decide +kernel), List.mem_of_getElem? (i := 1678) (by decide +kernel), List.mem_of_getElem? (i := 1679) (by decide +kernel)⟩
theorem lw_p99 : lw_okq (⟨"LackFerryModel", "behind", "()Z"⟩, 43) := ⟨⟨by decide +kernel, by decide +kernel⟩, List.mem_of_getElem? (i := 1148) (by decide +kernel), List.mem_of_getElem? (i := 1682) (by decide +kernel), List.mem_of_getElem? (i := 1683) (by decide +kernel)⟩
theorem lw_p100 : lw_okq (⟨"LackFerryModel", "operand", "()Z"⟩, 43) := ⟨⟨by decide +kernel, by decide +kernel⟩, List.mem_of_getElem? (i := 1148) (by decide +kernel), List.mem_of_getElem? (i := 1686) (by decide +kernel), List.mem_of_getElem? (i := 1687) (by decide +kernel)⟩
theorem lw_p101 : lw_okq (⟨"LackFerryModel", "leafOf", "()I"⟩, 43) := ⟨⟨by decide +kernel, by decide +kernel⟩, List.mem_of_getElem? (i := 1148) (by decide +kernel), List.mem_of_getElem? (i := 1690) (by decide +kernel), List.mem_of_getElem? (i := 1691) (by decide +kernel)⟩
theorem lw_p102 : lw_okq (⟨"LackFerryModel", "isSaid", "(I)Z"⟩, 43) := ⟨⟨by decide +kernel, by decide +kernel⟩, List.mem_of_getElem? (i := 1148) (by decide +kernel), List.mem_of_getElem? (i := 1698) (by decide +kernel), List.mem_of_getElem? (i := 1699) (by decide +kernel)⟩
theorem lw_p103 : lw_okq (⟨"LackFerryModel", "isLeaf", "(IIII)Z"⟩, 43) := ⟨⟨by decide +kernel, by decide +kernel⟩, List.mem_of_getElem? (i := 1148) (by decide +kernel), List.mem_of_getElem? (i := 1702) (by decide +kernel), List.mem_of_getElem? (i := 1703) (by decide +kernel)⟩
def lw_privs_7 : List (MethodName × Nat) := [(⟨"LackFerryModel", "nots", "()V"⟩, 43), (⟨"LackFerryModel", "code", "(III)V"⟩, 43), (⟨"LackFerryModel", "joins", "(I)V"⟩, 43), (⟨"LackFerryModel", "behind", "()Z"⟩, 43), (⟨"LackFerryModel", "operand", "()Z"⟩, 43), (⟨"LackFerryModel", "leafOf", "()I"⟩, 43), (⟨"LackFerryModel", "isSaid", "(I)Z"⟩, 43), (⟨"LackFerryModel", "isLeaf", "(IIII)Z"⟩, 43)]
theorem lw_r7 : ∀ q ∈ lw_privs_7, lw_okq q := List.forall_mem_cons.mpr ⟨lw_p96, List.forall_mem_cons.mpr ⟨lw_p97, List.forall_mem_cons.mpr ⟨lw_p98, List.forall_mem_cons.mpr ⟨lw_p99, List.forall_mem_cons.mpr ⟨lw_p100, List.forall_mem_cons.mpr ⟨lw_p101, List.forall_mem_cons.mpr ⟨lw_p102, List.forall_mem_cons.mpr ⟨lw_p103, fun _ h => absurd h List.not_mem_nil⟩⟩⟩⟩⟩⟩⟩⟩
def lw_privs : List (MethodName × Nat) := lw_privs_1 ++ (lw_privs_2 ++ (lw_privs_3 ++ (lw_privs_4 ++ (lw_privs_5 ++ (lw_privs_6 ++ (lw_privs_7))))))
def lw_tbl : List Cond := k2_sels lw_privs ++ tables_1
theorem lw_privs_ok : ∀ q ∈ lw_privs, lw_okq q := by
  show ∀ q ∈ lw_privs_1 ++ (lw_privs_2 ++ (lw_privs_3 ++ (lw_privs_4 ++ (lw_privs_5 ++ (lw_privs_6 ++ (lw_privs_7)))))), lw_okq q
  exact List.forall_mem_append.mpr ⟨lw_r1, List.forall_mem_append.mpr ⟨lw_r2, List.forall_mem_append.mpr ⟨lw_r3, List.forall_mem_append.mpr ⟨lw_r4, List.forall_mem_append.mpr ⟨lw_r5, List.forall_mem_append.mpr ⟨lw_r6, lw_r7⟩⟩⟩⟩⟩⟩

/-- the words that may be handed on -/
def ab_G : List Cond := lw_tbl.filter goodWord
theorem ab_g {w : Cond} (i : Nat) (h : tables_1[i]? = some w) (hg : goodWord w = true) : w ∈ ab_G := List.mem_filter.mpr ⟨List.mem_append_right _ (List.mem_of_getElem? h), hg⟩
theorem ab_gp {q : MethodName × Nat} (i : Nat) (h : lw_privs[i]? = some q) : Cond.selects q.1.cls q.1 q.1 ∈ ab_G := List.mem_filter.mpr ⟨List.mem_append_left _ (List.mem_map.mpr ⟨q, List.mem_of_getElem? h, rfl⟩), rfl⟩
theorem ab_good {cd w : Cond} (h : w ∈ ab_G) : GoodIn (cd :: ab_G) (w :: ab_G) := fun x hx => by
  have hx2 : x ∈ ab_G := (List.mem_cons.mp hx).elim (fun e => e ▸ h) id
  exact ⟨List.mem_cons_of_mem _ hx2, good_of_word (List.mem_filter.mp hx2).2⟩
theorem gm {cd w : Cond} (h : w ∈ ab_G) : w ∈ cd :: ab_G := List.mem_cons_of_mem _ h
end
section
def RX0 : String := "LackFerry$Draws"
def TX0 : u_T := fun k => match k with
  | _ => ("LackFerry$Draws", "x", "I", false)
def tyX0 : Nat → FieldType := fun k => match k with
  | _ => .int
abbrev wsX00 : List Cond := u_ws RX0 TX0 1
theorem nmX0 : ∀ a, a < 1 → ∀ b, b < 1 → a ≠ b → (TX0 a).2.1 ≠ (TX0 b).2.1 := by decide +kernel
theorem tyX0_ok : ∀ k, k < 1 → parseFieldDescriptor (TX0 k).2.2.1 = some (tyX0 k) := by decide +kernel
abbrev cX0_init : ByteArray := prog_2_method_1_code
def yX0_init : MethodName := ⟨RX0, "<init>", "()V"⟩
abbrev cX0_drawOf : ByteArray := prog_2_method_2_code
def yX0_drawOf : MethodName := ⟨RX0, "drawOf", "(I)I"⟩
def RX1 : String := "LackFerry$Ferry"
def TX1 : u_T := fun k => match k with
  | 0 => ("LackFerry$Ferry", "freight", "[I", true)
  | 1 => ("LackFerry$Ferry", "roomFor", "[I", true)
  | 2 => ("LackFerry$Ferry", "boarders", "I", false)
  | _ => ("LackFerry$Ferry", "used", "I", false)
def tyX1 : Nat → FieldType := fun k => match k with
  | 0 => .array .int
  | 1 => .array .int
  | 2 => .int
  | _ => .int
abbrev wsX10 : List Cond := u_ws RX1 TX1 4
theorem nmX1 : ∀ a, a < 4 → ∀ b, b < 4 → a ≠ b → (TX1 a).2.1 ≠ (TX1 b).2.1 := by decide +kernel
theorem tyX1_ok : ∀ k, k < 4 → parseFieldDescriptor (TX1 k).2.2.1 = some (tyX1 k) := by decide +kernel
abbrev cX1_init : ByteArray := prog_3_method_1_code
def yX1_init : MethodName := ⟨RX1, "<init>", "()V"⟩
abbrev cX1_amountMoved : ByteArray := prog_3_method_2_code
def yX1_amountMoved : MethodName := ⟨RX1, "amountMoved", "(III)I"⟩
abbrev cX1_plan : ByteArray := prog_3_method_3_code
def yX1_plan : MethodName := ⟨RX1, "plan", "(LLackFerry$Strait;LLackFerry$Shores;)V"⟩
abbrev cX1_passDays : ByteArray := prog_3_method_4_code
def yX1_passDays : MethodName := ⟨RX1, "passDays", "(LLackFerry$Strait;LLackFerry$Shores;I)I"⟩
abbrev cX1_carry : ByteArray := prog_3_method_5_code
def yX1_carry : MethodName := ⟨RX1, "carry", "(LLackFerry$Strait;LLackFerry$Shores;)V"⟩
def RX2 : String := "LackFerry$History"
def TX2 : u_T := fun k => match k with
  | 0 => ("LackFerry$History", "kept", "[LLackFerry$Shores;", true)
  | _ => ("LackFerry$History", "size", "I", false)
def tyX2 : Nat → FieldType := fun k => match k with
  | 0 => .array (.object "LackFerry$Shores")
  | _ => .int
abbrev wsX20 : List Cond := u_ws RX2 TX2 2
theorem nmX2 : ∀ a, a < 2 → ∀ b, b < 2 → a ≠ b → (TX2 a).2.1 ≠ (TX2 b).2.1 := by decide +kernel
theorem tyX2_ok : ∀ k, k < 2 → parseFieldDescriptor (TX2 k).2.2.1 = some (tyX2 k) := by decide +kernel
abbrev cX2_init : ByteArray := prog_4_method_1_code
def yX2_init : MethodName := ⟨RX2, "<init>", "()V"⟩
abbrev cX2_forget : ByteArray := prog_4_method_2_code
def yX2_forget : MethodName := ⟨RX2, "forget", "()V"⟩
abbrev cX2_keep : ByteArray := prog_4_method_3_code
def yX2_keep : MethodName := ⟨RX2, "keep", "(LLackFerry$Shores;)V"⟩
abbrev cX2_dropOldest : ByteArray := prog_4_method_4_code
def yX2_dropOldest : MethodName := ⟨RX2, "dropOldest", "()V"⟩
abbrev cX2_takeBack : ByteArray := prog_4_method_5_code
def yX2_takeBack : MethodName := ⟨RX2, "takeBack", "(LLackFerry$Shores;)I"⟩
def RX3 : String := "LackFerry$Image"
def TX3 : u_T := fun k => match k with
  | 0 => ("LackFerry$Image", "strait", "LLackFerry$Strait;", true)
  | 1 => ("LackFerry$Image", "shores", "LLackFerry$Shores;", true)
  | _ => ("LackFerry$Image", "sentence", "LLackFerry$Sentence;", true)
def tyX3 : Nat → FieldType := fun k => match k with
  | 0 => .object "LackFerry$Strait"
  | 1 => .object "LackFerry$Shores"
  | _ => .object "LackFerry$Sentence"
abbrev wsX30 : List Cond := u_ws RX3 TX3 3
theorem nmX3 : ∀ a, a < 3 → ∀ b, b < 3 → a ≠ b → (TX3 a).2.1 ≠ (TX3 b).2.1 := by decide +kernel
theorem tyX3_ok : ∀ k, k < 3 → parseFieldDescriptor (TX3 k).2.2.1 = some (tyX3 k) := by decide +kernel
abbrev cX3_init : ByteArray := prog_5_method_1_code
def yX3_init : MethodName := ⟨RX3, "<init>", "()V"⟩
def RX4 : String := "LackFerry$LogText"
def TX4 : u_T := fun k => match k with
  | 0 => ("LackFerry$LogText", "deeds", "[I", true)
  | 1 => ("LackFerry$LogText", "whom", "[I", true)
  | 2 => ("LackFerry$LogText", "amounts", "[I", true)
  | _ => ("LackFerry$LogText", "lines", "I", false)
def tyX4 : Nat → FieldType := fun k => match k with
  | 0 => .array .int
  | 1 => .array .int
  | 2 => .array .int
  | _ => .int
abbrev wsX40 : List Cond := u_ws RX4 TX4 4
theorem nmX4 : ∀ a, a < 4 → ∀ b, b < 4 → a ≠ b → (TX4 a).2.1 ≠ (TX4 b).2.1 := by decide +kernel
theorem tyX4_ok : ∀ k, k < 4 → parseFieldDescriptor (TX4 k).2.2.1 = some (tyX4 k) := by decide +kernel
abbrev cX4_init : ByteArray := prog_6_method_1_code
def yX4_init : MethodName := ⟨RX4, "<init>", "()V"⟩
abbrev cX4_readText : ByteArray := prog_6_method_2_code
def yX4_readText : MethodName := ⟨RX4, "readText", "(LLackFerry$Tokens;LLackFerry$Strait;)V"⟩
abbrev cX4_readLine : ByteArray := prog_6_method_3_code
def yX4_readLine : MethodName := ⟨RX4, "readLine", "(LLackFerry$Tokens;LLackFerry$Strait;)Z"⟩
abbrev cX4_readDeed : ByteArray := prog_6_method_4_code
def yX4_readDeed : MethodName := ⟨RX4, "readDeed", "(LLackFerry$Tokens;LLackFerry$Strait;I)Z"⟩
abbrev cX4_readDays : ByteArray := prog_6_method_5_code
def yX4_readDays : MethodName := ⟨RX4, "readDays", "(LLackFerry$Tokens;)Z"⟩
abbrev cX4_readDeath : ByteArray := prog_6_method_6_code
def yX4_readDeath : MethodName := ⟨RX4, "readDeath", "(LLackFerry$Tokens;I)Z"⟩
abbrev cX4_addLine : ByteArray := prog_6_method_7_code
def yX4_addLine : MethodName := ⟨RX4, "addLine", "(III)Z"⟩
def RX5 : String := "LackFerry$Sentence"
def TX5 : u_T := fun k => match k with
  | 0 => ("LackFerry$Sentence", "ops", "[I", true)
  | 1 => ("LackFerry$Sentence", "firsts", "[I", true)
  | 2 => ("LackFerry$Sentence", "numbers", "[I", true)
  | 3 => ("LackFerry$Sentence", "size", "I", false)
  | 4 => ("LackFerry$Sentence", "ones", "I", false)
  | _ => ("LackFerry$Sentence", "isSaid", "Z", false)
def tyX5 : Nat → FieldType := fun k => match k with
  | 0 => .array .int
  | 1 => .array .int
  | 2 => .array .int
  | 3 => .int
  | 4 => .int
  | _ => .boolean
abbrev wsX50 : List Cond := u_ws RX5 TX5 6
theorem nmX5 : ∀ a, a < 6 → ∀ b, b < 6 → a ≠ b → (TX5 a).2.1 ≠ (TX5 b).2.1 := by decide +kernel
theorem tyX5_ok : ∀ k, k < 6 → parseFieldDescriptor (TX5 k).2.2.1 = some (tyX5 k) := by decide +kernel
abbrev cX5_init : ByteArray := prog_7_method_1_code
def yX5_init : MethodName := ⟨RX5, "<init>", "()V"⟩
abbrev cX5_copyFrom : ByteArray := prog_7_method_2_code
def yX5_copyFrom : MethodName := ⟨RX5, "copyFrom", "(LLackFerry$Sentence;)V"⟩
abbrev cX5_readText : ByteArray := prog_7_method_3_code
def yX5_readText : MethodName := ⟨RX5, "readText", "(LLackFerry$Tokens;)V"⟩
abbrev cX5_readCond : ByteArray := prog_7_method_4_code
def yX5_readCond : MethodName := ⟨RX5, "readCond", "(LLackFerry$Tokens;I)Z"⟩
abbrev cX5_readAll : ByteArray := prog_7_method_5_code
def yX5_readAll : MethodName := ⟨RX5, "readAll", "(LLackFerry$Tokens;I)Z"⟩
abbrev cX5_readOne : ByteArray := prog_7_method_6_code
def yX5_readOne : MethodName := ⟨RX5, "readOne", "(LLackFerry$Tokens;I)Z"⟩
abbrev cX5_readBracket : ByteArray := prog_7_method_7_code
def yX5_readBracket : MethodName := ⟨RX5, "readBracket", "(LLackFerry$Tokens;I)Z"⟩
abbrev cX5_readOnShore : ByteArray := prog_7_method_8_code
def yX5_readOnShore : MethodName := ⟨RX5, "readOnShore", "(LLackFerry$Tokens;I)Z"⟩
abbrev cX5_readCompared : ByteArray := prog_7_method_9_code
def yX5_readCompared : MethodName := ⟨RX5, "readCompared", "(LLackFerry$Tokens;I)Z"⟩
abbrev cX5_addOp : ByteArray := prog_7_method_10_code
def yX5_addOp : MethodName := ⟨RX5, "addOp", "(III)Z"⟩
abbrev cX5_holdsOf : ByteArray := prog_7_method_11_code
def yX5_holdsOf : MethodName := ⟨RX5, "holdsOf", "(ILLackFerry$Strait;LLackFerry$Shores;)Z"⟩
abbrev cX5_isSo : ByteArray := prog_7_method_12_code
def yX5_isSo : MethodName := ⟨RX5, "isSo", "(IILLackFerry$Strait;LLackFerry$Shores;)Z"⟩
abbrev cX5_isSoThere : ByteArray := prog_7_method_13_code
def yX5_isSoThere : MethodName := ⟨RX5, "isSoThere", "(IILLackFerry$Strait;LLackFerry$Shores;)Z"⟩
abbrev cX5_valueOf : ByteArray := prog_7_method_14_code
def yX5_valueOf : MethodName := ⟨RX5, "valueOf", "(IILLackFerry$Shores;)I"⟩
abbrev cX5_isSoCompared : ByteArray := prog_7_method_15_code
def yX5_isSoCompared : MethodName := ⟨RX5, "isSoCompared", "(III)Z"⟩
def RX6 : String := "LackFerry$Shores"
def TX6 : u_T := fun k => match k with
  | 0 => ("LackFerry$Shores", "stocks", "[I", true)
  | 1 => ("LackFerry$Shores", "hoards", "[I", true)
  | 2 => ("LackFerry$Shores", "hungers", "[I", true)
  | 3 => ("LackFerry$Shores", "broughtTo", "[I", true)
  | 4 => ("LackFerry$Shores", "shoreOf", "[I", true)
  | 5 => ("LackFerry$Shores", "trips", "[I", true)
  | 6 => ("LackFerry$Shores", "daysApart", "[I", true)
  | 7 => ("LackFerry$Shores", "day", "I", false)
  | 8 => ("LackFerry$Shores", "emptyTrips", "I", false)
  | _ => ("LackFerry$Shores", "roomUsed", "I", false)
def tyX6 : Nat → FieldType := fun k => match k with
  | 0 => .array .int
  | 1 => .array .int
  | 2 => .array .int
  | 3 => .array .int
  | 4 => .array .int
  | 5 => .array .int
  | 6 => .array .int
  | 7 => .int
  | 8 => .int
  | _ => .int
abbrev wsX60 : List Cond := u_ws RX6 TX6 10
theorem nmX6 : ∀ a, a < 10 → ∀ b, b < 10 → a ≠ b → (TX6 a).2.1 ≠ (TX6 b).2.1 := by decide +kernel
theorem tyX6_ok : ∀ k, k < 10 → parseFieldDescriptor (TX6 k).2.2.1 = some (tyX6 k) := by decide +kernel
abbrev cX6_init : ByteArray := prog_8_method_1_code
def yX6_init : MethodName := ⟨RX6, "<init>", "()V"⟩
abbrev cX6_beginAs : ByteArray := prog_8_method_2_code
def yX6_beginAs : MethodName := ⟨RX6, "beginAs", "(LLackFerry$Strait;)V"⟩
abbrev cX6_copyFrom : ByteArray := prog_8_method_3_code
def yX6_copyFrom : MethodName := ⟨RX6, "copyFrom", "(LLackFerry$Shores;)V"⟩
abbrev cX6_looksLike : ByteArray := prog_8_method_4_code
def yX6_looksLike : MethodName := ⟨RX6, "looksLike", "(LLackFerry$Shores;)Z"⟩
abbrev cX6_ferryShore : ByteArray := prog_8_method_5_code
def yX6_ferryShore : MethodName := ⟨RX6, "ferryShore", "()I"⟩
abbrev cX6_lackAt : ByteArray := prog_8_method_6_code
def yX6_lackAt : MethodName := ⟨RX6, "lackAt", "(LLackFerry$Strait;I)I"⟩
abbrev cX6_isFalse : ByteArray := prog_8_method_7_code
def yX6_isFalse : MethodName := ⟨RX6, "isFalse", "(LLackFerry$Strait;I)Z"⟩
abbrev cX6_hungerInAll : ByteArray := prog_8_method_8_code
def yX6_hungerInAll : MethodName := ⟨RX6, "hungerInAll", "()I"⟩
abbrev cX6_isAlive : ByteArray := prog_8_method_9_code
def yX6_isAlive : MethodName := ⟨RX6, "isAlive", "(I)Z"⟩
abbrev cX6_menOn : ByteArray := prog_8_method_10_code
def yX6_menOn : MethodName := ⟨RX6, "menOn", "(LLackFerry$Strait;I)I"⟩
abbrev cX6_apartOf : ByteArray := prog_8_method_11_code
def yX6_apartOf : MethodName := ⟨RX6, "apartOf", "(II)I"⟩
abbrev cX6_isFelt : ByteArray := prog_8_method_12_code
def yX6_isFelt : MethodName := ⟨RX6, "isFelt", "(LLackFerry$Strait;I)Z"⟩
abbrev cX6_allMissed : ByteArray := prog_8_method_13_code
def yX6_allMissed : MethodName := ⟨RX6, "allMissed", "(LLackFerry$Strait;)I"⟩
abbrev cX6_missersOf : ByteArray := prog_8_method_14_code
def yX6_missersOf : MethodName := ⟨RX6, "missersOf", "(LLackFerry$Strait;I)I"⟩
abbrev cX6_missedBy : ByteArray := prog_8_method_15_code
def yX6_missedBy : MethodName := ⟨RX6, "missedBy", "(LLackFerry$Strait;I)I"⟩
abbrev cX6_couldBeMissed : ByteArray := prog_8_method_16_code
def yX6_couldBeMissed : MethodName := ⟨RX6, "couldBeMissed", "(LLackFerry$Strait;I)Z"⟩
abbrev cX6_whyNot : ByteArray := prog_8_method_17_code
def yX6_whyNot : MethodName := ⟨RX6, "whyNot", "(III)I"⟩
abbrev cX6_perform : ByteArray := prog_8_method_18_code
def yX6_perform : MethodName := ⟨RX6, "perform", "(III)V"⟩
abbrev cX6_attempt : ByteArray := prog_8_method_19_code
def yX6_attempt : MethodName := ⟨RX6, "attempt", "(III)I"⟩
abbrev cX6_makeAndEat : ByteArray := prog_8_method_20_code
def yX6_makeAndEat : MethodName := ⟨RX6, "makeAndEat", "(LLackFerry$Strait;)V"⟩
abbrev cX6_countApart : ByteArray := prog_8_method_21_code
def yX6_countApart : MethodName := ⟨RX6, "countApart", "(LLackFerry$Strait;)V"⟩
def RX7 : String := "LackFerry$Strait"
def TX7 : u_T := fun k => match k with
  | 0 => ("LackFerry$Strait", "goodNames", "[J", true)
  | 1 => ("LackFerry$Strait", "manNames", "[J", true)
  | 2 => ("LackFerry$Strait", "firstShores", "[I", true)
  | 3 => ("LackFerry$Strait", "amounts", "[I", true)
  | 4 => ("LackFerry$Strait", "missers", "[I", true)
  | 5 => ("LackFerry$Strait", "missed", "[I", true)
  | 6 => ("LackFerry$Strait", "missDays", "[I", true)
  | 7 => ("LackFerry$Strait", "load", "I", false)
  | 8 => ("LackFerry$Strait", "goods", "I", false)
  | 9 => ("LackFerry$Strait", "men", "I", false)
  | 10 => ("LackFerry$Strait", "missings", "I", false)
  | 11 => ("LackFerry$Strait", "isLoadTold", "Z", false)
  | _ => ("LackFerry$Strait", "amountsTold", "J", false)
def tyX7 : Nat → FieldType := fun k => match k with
  | 0 => .array .long
  | 1 => .array .long
  | 2 => .array .int
  | 3 => .array .int
  | 4 => .array .int
  | 5 => .array .int
  | 6 => .array .int
  | 7 => .int
  | 8 => .int
  | 9 => .int
  | 10 => .int
  | 11 => .boolean
  | _ => .long
abbrev wsX70 : List Cond := u_ws RX7 TX7 13
theorem nmX7 : ∀ a, a < 13 → ∀ b, b < 13 → a ≠ b → (TX7 a).2.1 ≠ (TX7 b).2.1 := by decide +kernel
theorem tyX7_ok : ∀ k, k < 13 → parseFieldDescriptor (TX7 k).2.2.1 = some (tyX7 k) := by decide +kernel
abbrev cX7_init : ByteArray := prog_9_method_1_code
def yX7_init : MethodName := ⟨RX7, "<init>", "()V"⟩
abbrev cX7_amountOf : ByteArray := prog_9_method_2_code
def yX7_amountOf : MethodName := ⟨RX7, "amountOf", "(II)I"⟩
abbrev cX7_leftAfter : ByteArray := prog_9_method_3_code
def yX7_leftAfter : MethodName := ⟨RX7, "leftAfter", "(II)I"⟩
abbrev cX7_stockAfter : ByteArray := prog_9_method_4_code
def yX7_stockAfter : MethodName := ⟨RX7, "stockAfter", "(II)I"⟩
abbrev cX7_copyFrom : ByteArray := prog_9_method_5_code
def yX7_copyFrom : MethodName := ⟨RX7, "copyFrom", "(LLackFerry$Strait;)V"⟩
abbrev cX7_clear : ByteArray := prog_9_method_6_code
def yX7_clear : MethodName := ⟨RX7, "clear", "()V"⟩
abbrev cX7_goodNamed : ByteArray := prog_9_method_7_code
def yX7_goodNamed : MethodName := ⟨RX7, "goodNamed", "(J)I"⟩
abbrev cX7_manNamed : ByteArray := prog_9_method_8_code
def yX7_manNamed : MethodName := ⟨RX7, "manNamed", "(J)I"⟩
abbrev cX7_readText : ByteArray := prog_9_method_9_code
def yX7_readText : MethodName := ⟨RX7, "readText", "(LLackFerry$Tokens;)I"⟩
abbrev cX7_readLine : ByteArray := prog_9_method_10_code
def yX7_readLine : MethodName := ⟨RX7, "readLine", "(LLackFerry$Tokens;)Z"⟩
abbrev cX7_readLoad : ByteArray := prog_9_method_11_code
def yX7_readLoad : MethodName := ⟨RX7, "readLoad", "(LLackFerry$Tokens;)Z"⟩
abbrev cX7_takeNewName : ByteArray := prog_9_method_12_code
def yX7_takeNewName : MethodName := ⟨RX7, "takeNewName", "(LLackFerry$Tokens;)Z"⟩
abbrev cX7_readGood : ByteArray := prog_9_method_13_code
def yX7_readGood : MethodName := ⟨RX7, "readGood", "(LLackFerry$Tokens;)Z"⟩
abbrev cX7_readMan : ByteArray := prog_9_method_14_code
def yX7_readMan : MethodName := ⟨RX7, "readMan", "(LLackFerry$Tokens;)Z"⟩
abbrev cX7_takeGood : ByteArray := prog_9_method_15_code
def yX7_takeGood : MethodName := ⟨RX7, "takeGood", "(LLackFerry$Tokens;)I"⟩
abbrev cX7_takeMan : ByteArray := prog_9_method_16_code
def yX7_takeMan : MethodName := ⟨RX7, "takeMan", "(LLackFerry$Tokens;)I"⟩
abbrev cX7_readAmount : ByteArray := prog_9_method_17_code
def yX7_readAmount : MethodName := ⟨RX7, "readAmount", "(LLackFerry$Tokens;I)Z"⟩
abbrev cX7_readMisses : ByteArray := prog_9_method_18_code
def yX7_readMisses : MethodName := ⟨RX7, "readMisses", "(LLackFerry$Tokens;)Z"⟩
abbrev cX7_isMissTold : ByteArray := prog_9_method_19_code
def yX7_isMissTold : MethodName := ⟨RX7, "isMissTold", "(II)Z"⟩
def RX8 : String := "LackFerry$Tape"
def TX8 : u_T := fun k => match k with
  | 0 => ("LackFerry$Tape", "bytes", "[B", true)
  | 1 => ("LackFerry$Tape", "size", "I", false)
  | _ => ("LackFerry$Tape", "at", "I", false)
def tyX8 : Nat → FieldType := fun k => match k with
  | 0 => .array .byte
  | 1 => .int
  | _ => .int
abbrev wsX80 : List Cond := u_ws RX8 TX8 3
theorem nmX8 : ∀ a, a < 3 → ∀ b, b < 3 → a ≠ b → (TX8 a).2.1 ≠ (TX8 b).2.1 := by decide +kernel
theorem tyX8_ok : ∀ k, k < 3 → parseFieldDescriptor (TX8 k).2.2.1 = some (tyX8 k) := by decide +kernel
abbrev cX8_init : ByteArray := prog_10_method_1_code
def yX8_init : MethodName := ⟨RX8, "<init>", "()V"⟩
abbrev cX8_put : ByteArray := prog_10_method_2_code
def yX8_put : MethodName := ⟨RX8, "put", "(I)V"⟩
abbrev cX8_valueAt : ByteArray := prog_10_method_3_code
def yX8_valueAt : MethodName := ⟨RX8, "valueAt", "(I)I"⟩
abbrev cX8_moveInto : ByteArray := prog_10_method_4_code
def yX8_moveInto : MethodName := ⟨RX8, "moveInto", "(LLackFerry$Tokens;I)V"⟩
abbrev cX8_skipBlanks : ByteArray := prog_10_method_5_code
def yX8_skipBlanks : MethodName := ⟨RX8, "skipBlanks", "()V"⟩
abbrev cX8_cutToken : ByteArray := prog_10_method_6_code
def yX8_cutToken : MethodName := ⟨RX8, "cutToken", "(LLackFerry$Tokens;)I"⟩
abbrev cX8_cutRun : ByteArray := prog_10_method_7_code
def yX8_cutRun : MethodName := ⟨RX8, "cutRun", "(LLackFerry$Tokens;)I"⟩
abbrev cX8_kindOfWord : ByteArray := prog_10_method_8_code
def yX8_kindOfWord : MethodName := ⟨RX8, "kindOfWord", "(II)I"⟩
abbrev cX8_isToldWord : ByteArray := prog_10_method_9_code
def yX8_isToldWord : MethodName := ⟨RX8, "isToldWord", "(III)Z"⟩
abbrev cX8_isLetter : ByteArray := prog_10_method_10_code
def yX8_isLetter : MethodName := ⟨RX8, "isLetter", "(I)Z"⟩
abbrev cX8_isDigit : ByteArray := prog_10_method_11_code
def yX8_isDigit : MethodName := ⟨RX8, "isDigit", "(I)Z"⟩
abbrev cX8_isSign : ByteArray := prog_10_method_12_code
def yX8_isSign : MethodName := ⟨RX8, "isSign", "(I)Z"⟩
def RX9 : String := "LackFerry$Tokens"
def TX9 : u_T := fun k => match k with
  | 0 => ("LackFerry$Tokens", "kinds", "[I", true)
  | 1 => ("LackFerry$Tokens", "places", "[I", true)
  | 2 => ("LackFerry$Tokens", "values", "[J", true)
  | 3 => ("LackFerry$Tokens", "size", "I", false)
  | 4 => ("LackFerry$Tokens", "next", "I", false)
  | 5 => ("LackFerry$Tokens", "kind", "I", false)
  | 6 => ("LackFerry$Tokens", "place", "I", false)
  | 7 => ("LackFerry$Tokens", "number", "I", false)
  | 8 => ("LackFerry$Tokens", "name", "J", false)
  | _ => ("LackFerry$Tokens", "faultKind", "I", false)
def tyX9 : Nat → FieldType := fun k => match k with
  | 0 => .array .int
  | 1 => .array .int
  | 2 => .array .long
  | 3 => .int
  | 4 => .int
  | 5 => .int
  | 6 => .int
  | 7 => .int
  | 8 => .long
  | _ => .int
abbrev wsX90 : List Cond := u_ws RX9 TX9 10
theorem nmX9 : ∀ a, a < 10 → ∀ b, b < 10 → a ≠ b → (TX9 a).2.1 ≠ (TX9 b).2.1 := by decide +kernel
theorem tyX9_ok : ∀ k, k < 10 → parseFieldDescriptor (TX9 k).2.2.1 = some (tyX9 k) := by decide +kernel
abbrev cX9_init : ByteArray := prog_11_method_1_code
def yX9_init : MethodName := ⟨RX9, "<init>", "()V"⟩
abbrev cX9_clear : ByteArray := prog_11_method_2_code
def yX9_clear : MethodName := ⟨RX9, "clear", "()V"⟩
abbrev cX9_add : ByteArray := prog_11_method_3_code
def yX9_add : MethodName := ⟨RX9, "add", "(IIJ)V"⟩
abbrev cX9_fail : ByteArray := prog_11_method_4_code
def yX9_fail : MethodName := ⟨RX9, "fail", "(I)Z"⟩
abbrev cX9_step : ByteArray := prog_11_method_5_code
def yX9_step : MethodName := ⟨RX9, "step", "()V"⟩
abbrev cX9_takeSign : ByteArray := prog_11_method_6_code
def yX9_takeSign : MethodName := ⟨RX9, "takeSign", "(I)Z"⟩
abbrev cX9_takeNumber : ByteArray := prog_11_method_7_code
def yX9_takeNumber : MethodName := ⟨RX9, "takeNumber", "(II)Z"⟩
abbrev cX9_takeName : ByteArray := prog_11_method_8_code
def yX9_takeName : MethodName := ⟨RX9, "takeName", "()Z"⟩
def RX10 : String := "LackFerry"
def TX10 : u_T := fun k => match k with
  | 0 => ("LackFerry", "tape", "LLackFerry$Tape;", true)
  | 1 => ("LackFerry", "tokens", "LLackFerry$Tokens;", true)
  | 2 => ("LackFerry", "ferry", "LLackFerry$Ferry;", true)
  | 3 => ("LackFerry", "history", "LLackFerry$History;", true)
  | 4 => ("LackFerry", "present", "LLackFerry$Shores;", true)
  | 5 => ("LackFerry", "ahead", "LLackFerry$Shores;", true)
  | 6 => ("LackFerry", "behind", "LLackFerry$Shores;", true)
  | 7 => ("LackFerry", "logText", "LLackFerry$LogText;", true)
  | 8 => ("LackFerry", "draws", "LLackFerry$Draws;", true)
  | 9 => ("LackFerry", "images", "[LLackFerry$Image;", true)
  | 10 => ("LackFerry", "priceAt", "[I", true)
  | 11 => ("LackFerry", "roomOnDay", "[I", true)
  | 12 => ("LackFerry", "logFacts", "[I", true)
  | 13 => ("LackFerry", "told", "LLackFerry$Strait;", false)
  | 14 => ("LackFerry", "straitDraft", "LLackFerry$Strait;", false)
  | 15 => ("LackFerry", "spoken", "LLackFerry$Sentence;", false)
  | 16 => ("LackFerry", "sentenceDraft", "LLackFerry$Sentence;", false)
  | 17 => ("LackFerry", "pricedGoods", "I", false)
  | _ => ("LackFerry", "latestFault", "I", false)
def tyX10 : Nat → FieldType := fun k => match k with
  | 0 => .object "LackFerry$Tape"
  | 1 => .object "LackFerry$Tokens"
  | 2 => .object "LackFerry$Ferry"
  | 3 => .object "LackFerry$History"
  | 4 => .object "LackFerry$Shores"
  | 5 => .object "LackFerry$Shores"
  | 6 => .object "LackFerry$Shores"
  | 7 => .object "LackFerry$LogText"
  | 8 => .object "LackFerry$Draws"
  | 9 => .array (.object "LackFerry$Image")
  | 10 => .array .int
  | 11 => .array .int
  | 12 => .array .int
  | 13 => .object "LackFerry$Strait"
  | 14 => .object "LackFerry$Strait"
  | 15 => .object "LackFerry$Sentence"
  | 16 => .object "LackFerry$Sentence"
  | 17 => .int
  | _ => .int
abbrev wsX100 : List Cond := u_ws RX10 TX10 19
theorem nmX10 : ∀ a, a < 19 → ∀ b, b < 19 → a ≠ b → (TX10 a).2.1 ≠ (TX10 b).2.1 := by decide +kernel
theorem tyX10_ok : ∀ k, k < 19 → parseFieldDescriptor (TX10 k).2.2.1 = some (tyX10 k) := by decide +kernel
abbrev cX10_init : ByteArray := prog_1_method_1_code
def yX10_init : MethodName := ⟨RX10, "<init>", "()V"⟩
abbrev cX10_feed : ByteArray := prog_1_method_2_code
def yX10_feed : MethodName := ⟨RX10, "feed", "(IIIII)I"⟩
abbrev cX10_end : ByteArray := prog_1_method_3_code
def yX10_end : MethodName := ⟨RX10, "end", "(I)Z"⟩
abbrev cX10_strait : ByteArray := prog_1_method_4_code
def yX10_strait : MethodName := ⟨RX10, "strait", "()I"⟩
abbrev cX10_fault : ByteArray := prog_1_method_5_code
def yX10_fault : MethodName := ⟨RX10, "fault", "()I"⟩
abbrev cX10_isGood : ByteArray := prog_1_method_6_code
def yX10_isGood : MethodName := ⟨RX10, "isGood", "(I)Z"⟩
abbrev cX10_isShore : ByteArray := prog_1_method_7_code
def yX10_isShore : MethodName := ⟨RX10, "isShore", "(I)Z"⟩
abbrev cX10_isSlot : ByteArray := prog_1_method_8_code
def yX10_isSlot : MethodName := ⟨RX10, "isSlot", "(II)Z"⟩
abbrev cX10_isMan : ByteArray := prog_1_method_9_code
def yX10_isMan : MethodName := ⟨RX10, "isMan", "(I)Z"⟩
abbrev cX10_areLivingTwo : ByteArray := prog_1_method_10_code
def yX10_areLivingTwo : MethodName := ⟨RX10, "areLivingTwo", "(II)Z"⟩
abbrev cX10_isWithin : ByteArray := prog_1_method_11_code
def yX10_isWithin : MethodName := ⟨RX10, "isWithin", "(II)Z"⟩
abbrev cX10_slotOf : ByteArray := prog_1_method_12_code
def yX10_slotOf : MethodName := ⟨RX10, "slotOf", "(II)I"⟩
abbrev cX10_good : ByteArray := prog_1_method_13_code
def yX10_good : MethodName := ⟨RX10, "good", "(III)I"⟩
abbrev cX10_crossed : ByteArray := prog_1_method_14_code
def yX10_crossed : MethodName := ⟨RX10, "crossed", "(II)I"⟩
abbrev cX10_man : ByteArray := prog_1_method_15_code
def yX10_man : MethodName := ⟨RX10, "man", "(II)I"⟩
abbrev cX10_apart : ByteArray := prog_1_method_16_code
def yX10_apart : MethodName := ⟨RX10, "apart", "(II)I"⟩
abbrev cX10_now : ByteArray := prog_1_method_17_code
def yX10_now : MethodName := ⟨RX10, "now", "(I)I"⟩
abbrev cX10_lacks : ByteArray := prog_1_method_18_code
def yX10_lacks : MethodName := ⟨RX10, "lacks", "(I)I"⟩
abbrev cX10_falses : ByteArray := prog_1_method_19_code
def yX10_falses : MethodName := ⟨RX10, "falses", "(I)I"⟩
abbrev cX10_dearest : ByteArray := prog_1_method_20_code
def yX10_dearest : MethodName := ⟨RX10, "dearest", "()I"⟩
abbrev cX10_rats : ByteArray := prog_1_method_21_code
def yX10_rats : MethodName := ⟨RX10, "rats", "()I"⟩
abbrev cX10_hoarded : ByteArray := prog_1_method_22_code
def yX10_hoarded : MethodName := ⟨RX10, "hoarded", "(I)I"⟩
abbrev cX10_count : ByteArray := prog_1_method_23_code
def yX10_count : MethodName := ⟨RX10, "count", "(I)I"⟩
abbrev cX10_hoard : ByteArray := prog_1_method_24_code
def yX10_hoard : MethodName := ⟨RX10, "hoard", "(III)I"⟩
abbrev cX10_bare : ByteArray := prog_1_method_25_code
def yX10_bare : MethodName := ⟨RX10, "bare", "(III)I"⟩
abbrev cX10_waste : ByteArray := prog_1_method_26_code
def yX10_waste : MethodName := ⟨RX10, "waste", "(III)I"⟩
abbrev cX10_act : ByteArray := prog_1_method_27_code
def yX10_act : MethodName := ⟨RX10, "act", "(IIII)I"⟩
abbrev cX10_die : ByteArray := prog_1_method_28_code
def yX10_die : MethodName := ⟨RX10, "die", "(I)I"⟩
abbrev cX10_days : ByteArray := prog_1_method_29_code
def yX10_days : MethodName := ⟨RX10, "days", "(I)I"⟩
abbrev cX10_undo : ByteArray := prog_1_method_30_code
def yX10_undo : MethodName := ⟨RX10, "undo", "()I"⟩
abbrev cX10_going : ByteArray := prog_1_method_31_code
def yX10_going : MethodName := ⟨RX10, "going", "()I"⟩
abbrev cX10_goes : ByteArray := prog_1_method_32_code
def yX10_goes : MethodName := ⟨RX10, "goes", "(I)I"⟩
abbrev cX10_crosses : ByteArray := prog_1_method_33_code
def yX10_crosses : MethodName := ⟨RX10, "crosses", "(I)I"⟩
abbrev cX10_comes : ByteArray := prog_1_method_34_code
def yX10_comes : MethodName := ⟨RX10, "comes", "(II)I"⟩
abbrev cX10_without : ByteArray := prog_1_method_35_code
def yX10_without : MethodName := ⟨RX10, "without", "(IIII)I"⟩
abbrev cX10_foreseeRoom : ByteArray := prog_1_method_36_code
def yX10_foreseeRoom : MethodName := ⟨RX10, "foreseeRoom", "(II)I"⟩
abbrev cX10_roomTowards : ByteArray := prog_1_method_37_code
def yX10_roomTowards : MethodName := ⟨RX10, "roomTowards", "(II)I"⟩
abbrev cX10_wouldCome : ByteArray := prog_1_method_38_code
def yX10_wouldCome : MethodName := ⟨RX10, "wouldCome", "(IIII)I"⟩
abbrev cX10_meet : ByteArray := prog_1_method_39_code
def yX10_meet : MethodName := ⟨RX10, "meet", "(II)I"⟩
abbrev cX10_loads : ByteArray := prog_1_method_40_code
def yX10_loads : MethodName := ⟨RX10, "loads", "(I)I"⟩
abbrev cX10_settles : ByteArray := prog_1_method_41_code
def yX10_settles : MethodName := ⟨RX10, "settles", "()I"⟩
abbrev cX10_hunger : ByteArray := prog_1_method_42_code
def yX10_hunger : MethodName := ⟨RX10, "hunger", "(III)I"⟩
abbrev cX10_which : ByteArray := prog_1_method_43_code
def yX10_which : MethodName := ⟨RX10, "which", "()I"⟩
abbrev cX10_couldGoSo : ByteArray := prog_1_method_44_code
def yX10_couldGoSo : MethodName := ⟨RX10, "couldGoSo", "(II)Z"⟩
abbrev cX10_prices : ByteArray := prog_1_method_45_code
def yX10_prices : MethodName := ⟨RX10, "prices", "()I"⟩
abbrev cX10_movePrices : ByteArray := prog_1_method_46_code
def yX10_movePrices : MethodName := ⟨RX10, "movePrices", "()Z"⟩
abbrev cX10_price : ByteArray := prog_1_method_47_code
def yX10_price : MethodName := ⟨RX10, "price", "(II)I"⟩
abbrev cX10_drawn : ByteArray := prog_1_method_48_code
def yX10_drawn : MethodName := ⟨RX10, "drawn", "(II)I"⟩
abbrev cX10_odds : ByteArray := prog_1_method_49_code
def yX10_odds : MethodName := ⟨RX10, "odds", "(III)I"⟩
abbrev cX10_drawDays : ByteArray := prog_1_method_50_code
def yX10_drawDays : MethodName := ⟨RX10, "drawDays", "(LLackFerry$Shores;II)I"⟩
abbrev cX10_drawDeed : ByteArray := prog_1_method_51_code
def yX10_drawDeed : MethodName := ⟨RX10, "drawDeed", "(LLackFerry$Shores;)V"⟩
abbrev cX10_drawDeath : ByteArray := prog_1_method_52_code
def yX10_drawDeath : MethodName := ⟨RX10, "drawDeath", "(LLackFerry$Shores;)V"⟩
abbrev cX10_log : ByteArray := prog_1_method_53_code
def yX10_log : MethodName := ⟨RX10, "log", "(I)I"⟩
abbrev cX10_judgeLog : ByteArray := prog_1_method_54_code
def yX10_judgeLog : MethodName := ⟨RX10, "judgeLog", "()I"⟩
abbrev cX10_liveLine : ByteArray := prog_1_method_55_code
def yX10_liveLine : MethodName := ⟨RX10, "liveLine", "(III)I"⟩
abbrev cX10_logged : ByteArray := prog_1_method_56_code
def yX10_logged : MethodName := ⟨RX10, "logged", "(I)I"⟩
abbrev cX10_sentence : ByteArray := prog_1_method_57_code
def yX10_sentence : MethodName := ⟨RX10, "sentence", "()I"⟩
abbrev cX10_said : ByteArray := prog_1_method_58_code
def yX10_said : MethodName := ⟨RX10, "said", "(I)I"⟩
abbrev cX10_image : ByteArray := prog_1_method_59_code
def yX10_image : MethodName := ⟨RX10, "image", "(I)Z"⟩
abbrev cX10_restore : ByteArray := prog_1_method_60_code
def yX10_restore : MethodName := ⟨RX10, "restore", "(I)Z"⟩
def RX11 : String := "LackFerryModel"
def TX11 : u_T := fun k => match k with
  | 0 => ("LackFerryModel", "thrown", "I", false)
  | 1 => ("LackFerryModel", "tape", "[B", true)
  | 2 => ("LackFerryModel", "length", "I", false)
  | 3 => ("LackFerryModel", "size", "I", false)
  | 4 => ("LackFerryModel", "p", "I", false)
  | 5 => ("LackFerryModel", "limit", "I", false)
  | 6 => ("LackFerryModel", "s", "[I", true)
  | 7 => ("LackFerryModel", "h", "[I", true)
  | 8 => ("LackFerryModel", "read", "[I", true)
  | 9 => ("LackFerryModel", "names", "[J", true)
  | 10 => ("LackFerryModel", "reserved", "[J", true)
  | 11 => ("LackFerryModel", "token", "I", false)
  | 12 => ("LackFerryModel", "at", "I", false)
  | 13 => ("LackFerryModel", "span", "I", false)
  | 14 => ("LackFerryModel", "number", "I", false)
  | 15 => ("LackFerryModel", "fault", "I", false)
  | 16 => ("LackFerryModel", "faultAt", "I", false)
  | 17 => ("LackFerryModel", "word", "J", false)
  | 18 => ("LackFerryModel", "got", "I", false)
  | 19 => ("LackFerryModel", "lines", "I", false)
  | 20 => ("LackFerryModel", "hasLoad", "Z", false)
  | 21 => ("LackFerryModel", "toldOnce", "[I", true)
  | 22 => ("LackFerryModel", "room", "I", false)
  | 23 => ("LackFerryModel", "undone", "[I", true)
  | 24 => ("LackFerryModel", "before", "[I", true)
  | 25 => ("LackFerryModel", "undoMany", "I", false)
  | 26 => ("LackFerryModel", "rows", "[I", true)
  | 27 => ("LackFerryModel", "priceRow", "[I", true)
  | 28 => ("LackFerryModel", "priceGoods", "I", false)
  | 29 => ("LackFerryModel", "seed", "I", false)
  | 30 => ("LackFerryModel", "told", "I", false)
  | 31 => ("LackFerryModel", "loggedAt", "[I", true)
  | 32 => ("LackFerryModel", "hasLogged", "Z", false)
  | 33 => ("LackFerryModel", "stack", "[I", true)
  | 34 => ("LackFerryModel", "codes", "I", false)
  | 35 => ("LackFerryModel", "ones", "I", false)
  | 36 => ("LackFerryModel", "top", "I", false)
  | 37 => ("LackFerryModel", "deep", "I", false)
  | 38 => ("LackFerryModel", "isWhole", "Z", false)
  | 39 => ("LackFerryModel", "truths", "[Z", true)
  | 40 => ("LackFerryModel", "kept", "[I", true)
  | 41 => ("LackFerryModel", "namesKept", "[J", true)
  | _ => ("LackFerryModel", "areKept", "[Z", true)
def tyX11 : Nat → FieldType := fun k => match k with
  | 0 => .int
  | 1 => .array .byte
  | 2 => .int
  | 3 => .int
  | 4 => .int
  | 5 => .int
  | 6 => .array .int
  | 7 => .array .int
  | 8 => .array .int
  | 9 => .array .long
  | 10 => .array .long
  | 11 => .int
  | 12 => .int
  | 13 => .int
  | 14 => .int
  | 15 => .int
  | 16 => .int
  | 17 => .long
  | 18 => .int
  | 19 => .int
  | 20 => .boolean
  | 21 => .array .int
  | 22 => .int
  | 23 => .array .int
  | 24 => .array .int
  | 25 => .int
  | 26 => .array .int
  | 27 => .array .int
  | 28 => .int
  | 29 => .int
  | 30 => .int
  | 31 => .array .int
  | 32 => .boolean
  | 33 => .array .int
  | 34 => .int
  | 35 => .int
  | 36 => .int
  | 37 => .int
  | 38 => .boolean
  | 39 => .array .boolean
  | 40 => .array .int
  | 41 => .array .long
  | _ => .array .boolean
abbrev wsX110 : List Cond := u_ws RX11 TX11 43
theorem nmX11 : ∀ a, a < 43 → ∀ b, b < 43 → a ≠ b → (TX11 a).2.1 ≠ (TX11 b).2.1 := by decide +kernel
theorem tyX11_ok : ∀ k, k < 43 → parseFieldDescriptor (TX11 k).2.2.1 = some (tyX11 k) := by decide +kernel
abbrev cX11_thrown : ByteArray := prog_13_method_1_code
def yX11_thrown : MethodName := ⟨RX11, "thrown", "()I"⟩
abbrev cX11_throwsIf : ByteArray := prog_13_method_2_code
def yX11_throwsIf : MethodName := ⟨RX11, "throwsIf", "(Z)Z"⟩
abbrev cX11_feed : ByteArray := prog_13_method_3_code
def yX11_feed : MethodName := ⟨RX11, "feed", "(IIIII)I"⟩
abbrev cX11_four : ByteArray := prog_13_method_4_code
def yX11_four : MethodName := ⟨RX11, "four", "(I)V"⟩
abbrev cX11_end : ByteArray := prog_13_method_5_code
def yX11_end : MethodName := ⟨RX11, "end", "(I)Z"⟩
abbrev cX11_taken : ByteArray := prog_13_method_6_code
def yX11_taken : MethodName := ⟨RX11, "taken", "(I)V"⟩
abbrev cX11_isIn : ByteArray := prog_13_method_7_code
def yX11_isIn : MethodName := ⟨RX11, "isIn", "(III)Z"⟩
abbrev cX11_bitOf : ByteArray := prog_13_method_8_code
def yX11_bitOf : MethodName := ⟨RX11, "bitOf", "(II)Z"⟩
abbrev cX11_lesser : ByteArray := prog_13_method_9_code
def yX11_lesser : MethodName := ⟨RX11, "lesser", "(II)I"⟩
abbrev cX11_bits : ByteArray := prog_13_method_10_code
def yX11_bits : MethodName := ⟨RX11, "bits", "(I)I"⟩
abbrev cX11_octet : ByteArray := prog_13_method_11_code
def yX11_octet : MethodName := ⟨RX11, "octet", "(I)I"⟩
abbrev cX11_init : ByteArray := prog_13_method_12_code
def yX11_init : MethodName := ⟨RX11, "<init>", "()V"⟩
abbrev cX11_peek : ByteArray := prog_13_method_13_code
def yX11_peek : MethodName := ⟨RX11, "peek", "()I"⟩
abbrev cX11_isSmall : ByteArray := prog_13_method_14_code
def yX11_isSmall : MethodName := ⟨RX11, "isSmall", "(I)Z"⟩
abbrev cX11_isDigit : ByteArray := prog_13_method_15_code
def yX11_isDigit : MethodName := ⟨RX11, "isDigit", "(I)Z"⟩
abbrev cX11_next : ByteArray := prog_13_method_16_code
def yX11_next : MethodName := ⟨RX11, "next", "()V"⟩
abbrev cX11_bad : ByteArray := prog_13_method_17_code
def yX11_bad : MethodName := ⟨RX11, "bad", "(I)Z"⟩
abbrev cX11_isWord : ByteArray := prog_13_method_18_code
def yX11_isWord : MethodName := ⟨RX11, "isWord", "(J)Z"⟩
abbrev cX11_isSign : ByteArray := prog_13_method_19_code
def yX11_isSign : MethodName := ⟨RX11, "isSign", "(I)Z"⟩
abbrev cX11_sign : ByteArray := prog_13_method_20_code
def yX11_sign : MethodName := ⟨RX11, "sign", "(I)Z"⟩
abbrev cX11_isName : ByteArray := prog_13_method_21_code
def yX11_isName : MethodName := ⟨RX11, "isName", "()Z"⟩
abbrev cX11_takes : ByteArray := prog_13_method_22_code
def yX11_takes : MethodName := ⟨RX11, "takes", "(II)Z"⟩
abbrev cX11_puts : ByteArray := prog_13_method_23_code
def yX11_puts : MethodName := ⟨RX11, "puts", "(III)Z"⟩
abbrev cX11_find : ByteArray := prog_13_method_24_code
def yX11_find : MethodName := ⟨RX11, "find", "(II)I"⟩
abbrev cX11_fresh : ByteArray := prog_13_method_25_code
def yX11_fresh : MethodName := ⟨RX11, "fresh", "(I)Z"⟩
abbrev cX11_looksAt : ByteArray := prog_13_method_26_code
def yX11_looksAt : MethodName := ⟨RX11, "looksAt", "(II)Z"⟩
abbrev cX11_takesName : ByteArray := prog_13_method_27_code
def yX11_takesName : MethodName := ⟨RX11, "takesName", "(II)Z"⟩
abbrev cX11_line : ByteArray := prog_13_method_28_code
def yX11_line : MethodName := ⟨RX11, "line", "()Z"⟩
abbrev cX11_readMisses : ByteArray := prog_13_method_29_code
def yX11_readMisses : MethodName := ⟨RX11, "readMisses", "()Z"⟩
abbrev cX11_strait : ByteArray := prog_13_method_30_code
def yX11_strait : MethodName := ⟨RX11, "strait", "()I"⟩
abbrev cX11_fault : ByteArray := prog_13_method_31_code
def yX11_fault : MethodName := ⟨RX11, "fault", "()I"⟩
abbrev cX11_isGood : ByteArray := prog_13_method_32_code
def yX11_isGood : MethodName := ⟨RX11, "isGood", "(I)Z"⟩
abbrev cX11_isShore : ByteArray := prog_13_method_33_code
def yX11_isShore : MethodName := ⟨RX11, "isShore", "(I)Z"⟩
abbrev cX11_isPlace : ByteArray := prog_13_method_34_code
def yX11_isPlace : MethodName := ⟨RX11, "isPlace", "(II)Z"⟩
abbrev cX11_isMan : ByteArray := prog_13_method_35_code
def yX11_isMan : MethodName := ⟨RX11, "isMan", "(I)Z"⟩
abbrev cX11_isDead : ByteArray := prog_13_method_36_code
def yX11_isDead : MethodName := ⟨RX11, "isDead", "(I)Z"⟩
abbrev cX11_cell : ByteArray := prog_13_method_37_code
def yX11_cell : MethodName := ⟨RX11, "cell", "(II)I"⟩
abbrev cX11_lackOf : ByteArray := prog_13_method_38_code
def yX11_lackOf : MethodName := ⟨RX11, "lackOf", "(II)I"⟩
abbrev cX11_isFalse : ByteArray := prog_13_method_39_code
def yX11_isFalse : MethodName := ⟨RX11, "isFalse", "(II)Z"⟩
abbrev cX11_good : ByteArray := prog_13_method_40_code
def yX11_good : MethodName := ⟨RX11, "good", "(III)I"⟩
abbrev cX11_crossed : ByteArray := prog_13_method_41_code
def yX11_crossed : MethodName := ⟨RX11, "crossed", "(II)I"⟩
abbrev cX11_areUnlike : ByteArray := prog_13_method_42_code
def yX11_areUnlike : MethodName := ⟨RX11, "areUnlike", "(II)Z"⟩
abbrev cX11_doesMiss : ByteArray := prog_13_method_43_code
def yX11_doesMiss : MethodName := ⟨RX11, "doesMiss", "(II)Z"⟩
abbrev cX11_missedBy : ByteArray := prog_13_method_44_code
def yX11_missedBy : MethodName := ⟨RX11, "missedBy", "(I)I"⟩
abbrev cX11_missesOf : ByteArray := prog_13_method_45_code
def yX11_missesOf : MethodName := ⟨RX11, "missesOf", "(I)I"⟩
abbrev cX11_man : ByteArray := prog_13_method_46_code
def yX11_man : MethodName := ⟨RX11, "man", "(II)I"⟩
abbrev cX11_apart : ByteArray := prog_13_method_47_code
def yX11_apart : MethodName := ⟨RX11, "apart", "(II)I"⟩
abbrev cX11_menOn : ByteArray := prog_13_method_48_code
def yX11_menOn : MethodName := ⟨RX11, "menOn", "(I)I"⟩
abbrev cX11_now : ByteArray := prog_13_method_49_code
def yX11_now : MethodName := ⟨RX11, "now", "(I)I"⟩
abbrev cX11_goingSet : ByteArray := prog_13_method_50_code
def yX11_goingSet : MethodName := ⟨RX11, "goingSet", "()I"⟩
abbrev cX11_goesOf : ByteArray := prog_13_method_51_code
def yX11_goesOf : MethodName := ⟨RX11, "goesOf", "(I)I"⟩
abbrev cX11_eats : ByteArray := prog_13_method_52_code
def yX11_eats : MethodName := ⟨RX11, "eats", "(I)V"⟩
abbrev cX11_day : ByteArray := prog_13_method_53_code
def yX11_day : MethodName := ⟨RX11, "day", "()V"⟩
abbrev cX11_goesOn : ByteArray := prog_13_method_54_code
def yX11_goesOn : MethodName := ⟨RX11, "goesOn", "(I)I"⟩
abbrev cX11_whyHoard : ByteArray := prog_13_method_55_code
def yX11_whyHoard : MethodName := ⟨RX11, "whyHoard", "(II)I"⟩
abbrev cX11_whyBare : ByteArray := prog_13_method_56_code
def yX11_whyBare : MethodName := ⟨RX11, "whyBare", "(II)I"⟩
abbrev cX11_hoards : ByteArray := prog_13_method_57_code
def yX11_hoards : MethodName := ⟨RX11, "hoards", "(II)V"⟩
abbrev cX11_hoard : ByteArray := prog_13_method_58_code
def yX11_hoard : MethodName := ⟨RX11, "hoard", "(III)I"⟩
abbrev cX11_bare : ByteArray := prog_13_method_59_code
def yX11_bare : MethodName := ⟨RX11, "bare", "(III)I"⟩
abbrev cX11_waste : ByteArray := prog_13_method_60_code
def yX11_waste : MethodName := ⟨RX11, "waste", "(III)I"⟩
abbrev cX11_die : ByteArray := prog_13_method_61_code
def yX11_die : MethodName := ⟨RX11, "die", "(I)I"⟩
abbrev cX11_days : ByteArray := prog_13_method_62_code
def yX11_days : MethodName := ⟨RX11, "days", "(I)I"⟩
abbrev cX11_keep : ByteArray := prog_13_method_63_code
def yX11_keep : MethodName := ⟨RX11, "keep", "()V"⟩
abbrev cX11_undo : ByteArray := prog_13_method_64_code
def yX11_undo : MethodName := ⟨RX11, "undo", "()I"⟩
abbrev cX11_tries : ByteArray := prog_13_method_65_code
def yX11_tries : MethodName := ⟨RX11, "tries", "()V"⟩
abbrev cX11_back : ByteArray := prog_13_method_66_code
def yX11_back : MethodName := ⟨RX11, "back", "()V"⟩
abbrev cX11_lacks : ByteArray := prog_13_method_67_code
def yX11_lacks : MethodName := ⟨RX11, "lacks", "(I)I"⟩
abbrev cX11_falses : ByteArray := prog_13_method_68_code
def yX11_falses : MethodName := ⟨RX11, "falses", "(I)I"⟩
abbrev cX11_going : ByteArray := prog_13_method_69_code
def yX11_going : MethodName := ⟨RX11, "going", "()I"⟩
abbrev cX11_goes : ByteArray := prog_13_method_70_code
def yX11_goes : MethodName := ⟨RX11, "goes", "(I)I"⟩
abbrev cX11_crosses : ByteArray := prog_13_method_71_code
def yX11_crosses : MethodName := ⟨RX11, "crosses", "(I)I"⟩
abbrev cX11_comes : ByteArray := prog_13_method_72_code
def yX11_comes : MethodName := ⟨RX11, "comes", "(II)I"⟩
abbrev cX11_without : ByteArray := prog_13_method_73_code
def yX11_without : MethodName := ⟨RX11, "without", "(IIII)I"⟩
abbrev cX11_meet : ByteArray := prog_13_method_74_code
def yX11_meet : MethodName := ⟨RX11, "meet", "(II)I"⟩
abbrev cX11_loads : ByteArray := prog_13_method_75_code
def yX11_loads : MethodName := ⟨RX11, "loads", "(I)I"⟩
abbrev cX11_which : ByteArray := prog_13_method_76_code
def yX11_which : MethodName := ⟨RX11, "which", "()I"⟩
abbrev cX11_lays : ByteArray := prog_13_method_77_code
def yX11_lays : MethodName := ⟨RX11, "lays", "(I)V"⟩
abbrev cX11_areAlike : ByteArray := prog_13_method_78_code
def yX11_areAlike : MethodName := ⟨RX11, "areAlike", "(II)Z"⟩
abbrev cX11_settles : ByteArray := prog_13_method_79_code
def yX11_settles : MethodName := ⟨RX11, "settles", "()I"⟩
abbrev cX11_hunger : ByteArray := prog_13_method_80_code
def yX11_hunger : MethodName := ⟨RX11, "hunger", "(III)I"⟩
abbrev cX11_prices : ByteArray := prog_13_method_81_code
def yX11_prices : MethodName := ⟨RX11, "prices", "()I"⟩
abbrev cX11_price : ByteArray := prog_13_method_82_code
def yX11_price : MethodName := ⟨RX11, "price", "(II)I"⟩
abbrev cX11_dearest : ByteArray := prog_13_method_83_code
def yX11_dearest : MethodName := ⟨RX11, "dearest", "()I"⟩
abbrev cX11_rats : ByteArray := prog_13_method_84_code
def yX11_rats : MethodName := ⟨RX11, "rats", "()I"⟩
abbrev cX11_hoarded : ByteArray := prog_13_method_85_code
def yX11_hoarded : MethodName := ⟨RX11, "hoarded", "(I)I"⟩
abbrev cX11_draw : ByteArray := prog_13_method_86_code
def yX11_draw : MethodName := ⟨RX11, "draw", "(I)I"⟩
abbrev cX11_drawsDay : ByteArray := prog_13_method_87_code
def yX11_drawsDay : MethodName := ⟨RX11, "drawsDay", "()V"⟩
abbrev cX11_draws : ByteArray := prog_13_method_88_code
def yX11_draws : MethodName := ⟨RX11, "draws", "(II)I"⟩
abbrev cX11_drawn : ByteArray := prog_13_method_89_code
def yX11_drawn : MethodName := ⟨RX11, "drawn", "(II)I"⟩
abbrev cX11_odds : ByteArray := prog_13_method_90_code
def yX11_odds : MethodName := ⟨RX11, "odds", "(III)I"⟩
abbrev cX11_logLine : ByteArray := prog_13_method_91_code
def yX11_logLine : MethodName := ⟨RX11, "logLine", "()Z"⟩
abbrev cX11_does : ByteArray := prog_13_method_92_code
def yX11_does : MethodName := ⟨RX11, "does", "(IIII)I"⟩
abbrev cX11_log : ByteArray := prog_13_method_93_code
def yX11_log : MethodName := ⟨RX11, "log", "(I)I"⟩
abbrev cX11_logged : ByteArray := prog_13_method_94_code
def yX11_logged : MethodName := ⟨RX11, "logged", "(I)I"⟩
abbrev cX11_code : ByteArray := prog_13_method_95_code
def yX11_code : MethodName := ⟨RX11, "code", "(III)V"⟩
abbrev cX11_joins : ByteArray := prog_13_method_96_code
def yX11_joins : MethodName := ⟨RX11, "joins", "(I)V"⟩
abbrev cX11_nots : ByteArray := prog_13_method_97_code
def yX11_nots : MethodName := ⟨RX11, "nots", "()V"⟩
abbrev cX11_leafOf : ByteArray := prog_13_method_98_code
def yX11_leafOf : MethodName := ⟨RX11, "leafOf", "()I"⟩
abbrev cX11_operand : ByteArray := prog_13_method_99_code
def yX11_operand : MethodName := ⟨RX11, "operand", "()Z"⟩
abbrev cX11_behind : ByteArray := prog_13_method_100_code
def yX11_behind : MethodName := ⟨RX11, "behind", "()Z"⟩
abbrev cX11_sentence : ByteArray := prog_13_method_101_code
def yX11_sentence : MethodName := ⟨RX11, "sentence", "()I"⟩
abbrev cX11_isLeaf : ByteArray := prog_13_method_102_code
def yX11_isLeaf : MethodName := ⟨RX11, "isLeaf", "(IIII)Z"⟩
abbrev cX11_isSaid : ByteArray := prog_13_method_103_code
def yX11_isSaid : MethodName := ⟨RX11, "isSaid", "(I)Z"⟩
abbrev cX11_said : ByteArray := prog_13_method_104_code
def yX11_said : MethodName := ⟨RX11, "said", "(I)I"⟩
abbrev cX11_image : ByteArray := prog_13_method_105_code
def yX11_image : MethodName := ⟨RX11, "image", "(I)Z"⟩
abbrev cX11_restore : ByteArray := prog_13_method_106_code
def yX11_restore : MethodName := ⟨RX11, "restore", "(I)Z"⟩
abbrev cX11_count : ByteArray := prog_13_method_107_code
def yX11_count : MethodName := ⟨RX11, "count", "(I)I"⟩
def RJ6 : String := "java/lang/Integer"
def TJ6 : u_T := fun k => match k with
  | _ => ("", "", "", false)
def tyJ6 : Nat → FieldType := fun k => match k with
  | _ => .int
abbrev wsJ60 : List Cond := u_ws RJ6 TJ6 0
theorem nmJ6 : ∀ a, a < 0 → ∀ b, b < 0 → a ≠ b → (TJ6 a).2.1 ≠ (TJ6 b).2.1 := by decide +kernel
theorem tyJ6_ok : ∀ k, k < 0 → parseFieldDescriptor (TJ6 k).2.2.1 = some (tyJ6 k) := by decide +kernel
abbrev cJ6_bitCount_0f7a4 : ByteArray := prog_18_method_49_code
def yJ6_bitCount_0f7a4 : MethodName := ⟨RJ6, "bitCount", "(I)I"⟩
def RL : String := "LackFerryLaw"
abbrev cL_man : ByteArray := method_3_code
def yL_man : MethodName := ⟨RL, "man", "(LLackFerry;II[J)I"⟩
abbrev cL_law : ByteArray := code
def yL_law : MethodName := ⟨RL, "law", "([I)Z"⟩
abbrev ab_cl : List vw_C := [(RX0, TX0, 1), (RX1, TX1, 4), (RX2, TX2, 2), (RX3, TX3, 3), (RX4, TX4, 4), (RX5, TX5, 6), (RX6, TX6, 10), (RX7, TX7, 13), (RX8, TX8, 3), (RX9, TX9, 10), (RX10, TX10, 19), (RX11, TX11, 43), (ab_NS, (fun _ => ("", "", "", false)), 0)]
def ab_En : List (String × Nat × MethodName × String) := [("LackFerry", 11, ⟨"LackFerry$Tape", "<init>", "()V"⟩, "LackFerry"), ("LackFerry", 18, ⟨"LackFerry$Tokens", "<init>", "()V"⟩, "LackFerry"), ("LackFerry", 25, ⟨"LackFerry$Ferry", "<init>", "()V"⟩, "LackFerry"), ("LackFerry", 32, ⟨"LackFerry$History", "<init>", "()V"⟩, "LackFerry"), ("LackFerry", 39, ⟨"LackFerry$Shores", "<init>", "()V"⟩, "LackFerry"), ("LackFerry", 52, ⟨"LackFerry$LogText", "<init>", "()V"⟩, "LackFerry"), ("LackFerry", 59, ⟨"LackFerry$Draws", "<init>", "()V"⟩, "LackFerry"), ("LackFerry", 82, ⟨"LackFerry$Strait", "<init>", "()V"⟩, "LackFerry"), ("LackFerry", 92, ⟨"LackFerry$Sentence", "<init>", "()V"⟩, "LackFerry"), ("LackFerry$Strait", 139, ⟨"LackFerry", "slotOf", "(II)I"⟩, "LackFerry"), ("LackFerry$History", 24, ⟨"LackFerry$Shores", "<init>", "()V"⟩, "LackFerry"), ("LackFerry$Ferry", 61, ⟨"LackFerry", "slotOf", "(II)I"⟩, "LackFerry"), ("LackFerry$LogText", 77, ⟨"LackFerry", "slotOf", "(II)I"⟩, "LackFerry"), ("LackFerry$Sentence", 84, ⟨"LackFerry", "slotOf", "(II)I"⟩, "LackFerry"), ("LackFerry", 372, ⟨"LackFerry$Image", "<init>", "()V"⟩, "LackFerry"), ("LackFerry$Image", 9, ⟨"LackFerry$Strait", "<init>", "()V"⟩, "LackFerry"), ("LackFerry$Image", 18, ⟨"LackFerry$Shores", "<init>", "()V"⟩, "LackFerry"), ("LackFerry$Image", 25, ⟨"LackFerry$Sentence", "<init>", "()V"⟩, "LackFerry")]
def ab_Ed : List MethodName := [⟨"java/lang/RuntimeException", "<init>", "(Ljava/lang/String;)V"⟩, ⟨"java/lang/Exception", "<init>", "(Ljava/lang/String;)V"⟩, ⟨"java/lang/Throwable", "<init>", "(Ljava/lang/String;)V"⟩]
def ab_E0 (b : ab_B) (U : State) : Prop := (∀ q ∈ ab_En, va_Nw (.methodLinkNest q.1 q.2.1 q.2.2.1 q.2.2.2) U) ∧ va_AO "LackFerry$Image" U ∧ va_AO "LackFerry$Shores" U ∧ va_Nw (.castable ab_NS ab_NS) U ∧ vk_R "LackFerry" 188 "no such man" (b.2 2) U ∧ vk_R "LackFerry" 205 "no such thing of a man" (b.2 3) U ∧ vx_Zq Bundle.tN "UNASSIGNED_STACK" Bundle.steD (fun q => b.1 ≤ q) U U.heap ∧ vx_Zq Bundle.tN "SUPPRESSED_SENTINEL" Bundle.listD (fun q => b.1 ≤ q) U U.heap ∧ ∀ x ∈ ab_Ed, va_Nw (.declares x) U
theorem ab_E0k (b : ab_B) : ab_Ek b (ab_E0 b) := fun s U hW hh h => ⟨fun q hq => va_Nw.warmM hW (h.1 q hq), va_AO.moved hW.alike h.2.1, va_AO.moved hW.alike h.2.2.1, va_Nw.warmC hW h.2.2.2.1, vk_R.warm hW h.2.2.2.2.1, vk_R.warm hW h.2.2.2.2.2.1, vx_Zq.moved hW.alike (h.2.2.2.2.2.2.1.kept hh), vx_Zq.moved hW.alike (h.2.2.2.2.2.2.2.1.kept hh), fun x hx => va_Nw.warmD hW (h.2.2.2.2.2.2.2.2 x hx)⟩
theorem ab_E0b (b : ab_B) : ab_Eb (ab_E0 b) := fun s U hv hh h => by
  have hA : s.vm.Alike U.vm := by rw [hv]; exact Vm.Alike.refl _
  exact ⟨fun q hq => va_Nw.same rfl hv (h.1 q hq), va_AO.moved hA h.2.1, va_AO.moved hA h.2.2.1, va_Nw.same rfl hv h.2.2.2.1, vk_R.same hv.symm h.2.2.2.2.1, vk_R.same hv.symm h.2.2.2.2.2.1, by rw [← hh]; exact vx_Zq.moved hA h.2.2.2.2.2.2.1, by rw [← hh]; exact vx_Zq.moved hA h.2.2.2.2.2.2.2.1, fun x hx => va_Nw.same rfl hv (h.2.2.2.2.2.2.2.2 x hx)⟩
end
section
set_option maxRecDepth 100000 in
theorem kw_0 : (Jvm.Cond.initialized "LackFerryLaw") ∈ ab_G := ab_g 0 rfl rfl
set_option maxRecDepth 100000 in
theorem kw_1 : (Jvm.Cond.initialized "LackFerry") ∈ ab_G := ab_g 1 rfl rfl
set_option maxRecDepth 100000 in
theorem kw_2 : (Jvm.Cond.initialized "LackFerry$Tape") ∈ ab_G := ab_g 2 rfl rfl
set_option maxRecDepth 100000 in
theorem kw_3 : (Jvm.Cond.initialized "LackFerry$Tokens") ∈ ab_G := ab_g 3 rfl rfl
set_option maxRecDepth 100000 in
theorem kw_4 : (Jvm.Cond.initialized "LackFerry$Ferry") ∈ ab_G := ab_g 4 rfl rfl
set_option maxRecDepth 100000 in
theorem kw_5 : (Jvm.Cond.initialized "LackFerry$History") ∈ ab_G := ab_g 5 rfl rfl
set_option maxRecDepth 100000 in
theorem kw_6 : (Jvm.Cond.initialized "LackFerry$Shores") ∈ ab_G := ab_g 6 rfl rfl
set_option maxRecDepth 100000 in
theorem kw_7 : (Jvm.Cond.initialized "LackFerry$LogText") ∈ ab_G := ab_g 7 rfl rfl
set_option maxRecDepth 100000 in
theorem kw_8 : (Jvm.Cond.initialized "LackFerry$Draws") ∈ ab_G := ab_g 8 rfl rfl
set_option maxRecDepth 100000 in
theorem kw_9 : (Jvm.Cond.initialized "LackFerry$Strait") ∈ ab_G := ab_g 9 rfl rfl
set_option maxRecDepth 100000 in
theorem kw_10 : (Jvm.Cond.initialized "LackFerry$Sentence") ∈ ab_G := ab_g 10 rfl rfl
set_option maxRecDepth 100000 in
theorem kw_11 : (Jvm.Cond.initialized "LackFerryModel") ∈ ab_G := ab_g 11 rfl rfl
set_option maxRecDepth 100000 in
theorem kw_16 : (Jvm.Cond.initialized "java/lang/Math") ∈ ab_G := ab_g 16 rfl rfl
set_option maxRecDepth 100000 in
theorem kw_21 : (Jvm.Cond.initialized "java/lang/System") ∈ ab_G := ab_g 21 rfl rfl
set_option maxRecDepth 100000 in
theorem kw_22 : (Jvm.Cond.initialized "java/lang/Integer") ∈ ab_G := ab_g 22 rfl rfl
set_option maxRecDepth 100000 in
theorem kw_23 : (Jvm.Cond.initialized "LackFerry$Image") ∈ ab_G := ab_g 23 rfl rfl
set_option maxRecDepth 100000 in
theorem kw_24 : (Jvm.Cond.classLink "LackFerryLaw" (8 : Nat) "LackFerry") ∈ ab_G := ab_g 24 rfl rfl
set_option maxRecDepth 100000 in
theorem kw_25 : (Jvm.Cond.instantiable "LackFerry" (19 : Nat)) ∈ ab_G := ab_g 25 rfl rfl
set_option maxRecDepth 100000 in
theorem kw_26 : (Jvm.Cond.methodLink "LackFerryLaw" (15 : Nat) ({ cls := "LackFerry", name := "<init>", desc := "()V" } : Jvm.MethodName)) ∈ ab_G := ab_g 26 rfl rfl
set_option maxRecDepth 100000 in
theorem kw_27 : (Jvm.Cond.instanceMethod ({ cls := "LackFerry", name := "<init>", desc := "()V" } : Jvm.MethodName)) ∈ ab_G := ab_g 27 rfl rfl
set_option maxRecDepth 100000 in
theorem kw_28 : (Jvm.Cond.code ({ cls := "LackFerry", name := "<init>", desc := "()V" } : Jvm.MethodName) prog_1_method_1_code (1 : Nat) (Option.none : Option Jvm.ClassFile.FieldType)) ∈ ab_G := ab_g 28 rfl rfl
set_option maxRecDepth 100000 in
theorem kw_29 : (Jvm.Cond.methodLink "LackFerry" (3 : Nat) ({ cls := "java/lang/Object", name := "<init>", desc := "()V" } : Jvm.MethodName)) ∈ ab_G := ab_g 29 rfl rfl
set_option maxRecDepth 100000 in
theorem kw_30 : (Jvm.Cond.instanceMethod ({ cls := "java/lang/Object", name := "<init>", desc := "()V" } : Jvm.MethodName)) ∈ ab_G := ab_g 30 rfl rfl
set_option maxRecDepth 100000 in
theorem kw_31 : (Jvm.Cond.code ({ cls := "java/lang/Object", name := "<init>", desc := "()V" } : Jvm.MethodName) object_method_1_code (1 : Nat) (Option.none : Option Jvm.ClassFile.FieldType)) ∈ ab_G := ab_g 31 rfl rfl
set_option maxRecDepth 100000 in
theorem kw_32 : (Jvm.Cond.classLink "LackFerry" (9 : Nat) "LackFerry$Tape") ∈ ab_G := ab_g 32 rfl rfl
set_option maxRecDepth 100000 in
theorem kw_33 : (Jvm.Cond.instantiable "LackFerry$Tape" (3 : Nat)) ∈ ab_G := ab_g 33 rfl rfl
set_option maxRecDepth 100000 in
theorem kw_35 : (Jvm.Cond.instanceMethod ({ cls := "LackFerry$Tape", name := "<init>", desc := "()V" } : Jvm.MethodName)) ∈ ab_G := ab_g 35 rfl rfl
set_option maxRecDepth 100000 in
theorem kw_36 : (Jvm.Cond.code ({ cls := "LackFerry$Tape", name := "<init>", desc := "()V" } : Jvm.MethodName) prog_10_method_1_code (1 : Nat) (Option.none : Option Jvm.ClassFile.FieldType)) ∈ ab_G := ab_g 36 rfl rfl
set_option maxRecDepth 100000 in
theorem kw_37 : (Jvm.Cond.methodLink "LackFerry$Tape" (3 : Nat) ({ cls := "java/lang/Object", name := "<init>", desc := "()V" } : Jvm.MethodName)) ∈ ab_G := ab_g 37 rfl rfl
set_option maxRecDepth 100000 in
theorem kw_38 : (Jvm.Cond.fieldLink "LackFerry$Tape" (9 : Nat) "LackFerry$Tape" "bytes" "[B") ∈ ab_G := ab_g 38 rfl rfl
set_option maxRecDepth 100000 in
theorem kw_39 : (Jvm.Cond.fieldLink "LackFerry" (100 : Nat) "LackFerry$Tape" "size" "I") ∈ ab_G := ab_g 39 rfl rfl
set_option maxRecDepth 100000 in
theorem kw_40 : (Jvm.Cond.fieldLink "LackFerry$Tape" (15 : Nat) "LackFerry$Tape" "size" "I") ∈ ab_G := ab_g 40 rfl rfl
set_option maxRecDepth 100000 in
theorem kw_41 : (Jvm.Cond.fieldLink "LackFerry$Tape" (24 : Nat) "LackFerry$Tape" "at" "I") ∈ ab_G := ab_g 41 rfl rfl
set_option maxRecDepth 100000 in
theorem kw_42 : (Jvm.Cond.laysFinal "LackFerry$Tape" "LackFerry$Tape" "bytes" "[B") ∈ ab_G := ab_g 42 rfl rfl
set_option maxRecDepth 100000 in
theorem kw_44 : (Jvm.Cond.lays "LackFerry$Tape" "LackFerry$Tape" "size" "I") ∈ ab_G := ab_g 44 rfl rfl
set_option maxRecDepth 100000 in
theorem kw_46 : (Jvm.Cond.lays "LackFerry$Tape" "LackFerry$Tape" "at" "I") ∈ ab_G := ab_g 46 rfl rfl
set_option maxRecDepth 100000 in
theorem kw_49 : (Jvm.Cond.arrayClass Jvm.ClassFile.FieldType.byte) ∈ ab_G := ab_g 49 rfl rfl
set_option maxRecDepth 100000 in
theorem kw_50 : (Jvm.Cond.classLink "LackFerry" (16 : Nat) "LackFerry$Tokens") ∈ ab_G := ab_g 50 rfl rfl
set_option maxRecDepth 100000 in
theorem kw_51 : (Jvm.Cond.instantiable "LackFerry$Tokens" (10 : Nat)) ∈ ab_G := ab_g 51 rfl rfl
set_option maxRecDepth 100000 in
theorem kw_53 : (Jvm.Cond.instanceMethod ({ cls := "LackFerry$Tokens", name := "<init>", desc := "()V" } : Jvm.MethodName)) ∈ ab_G := ab_g 53 rfl rfl
set_option maxRecDepth 100000 in
theorem kw_54 : (Jvm.Cond.code ({ cls := "LackFerry$Tokens", name := "<init>", desc := "()V" } : Jvm.MethodName) prog_11_method_1_code (1 : Nat) (Option.none : Option Jvm.ClassFile.FieldType)) ∈ ab_G := ab_g 54 rfl rfl
set_option maxRecDepth 100000 in
theorem kw_55 : (Jvm.Cond.methodLink "LackFerry$Tokens" (3 : Nat) ({ cls := "java/lang/Object", name := "<init>", desc := "()V" } : Jvm.MethodName)) ∈ ab_G := ab_g 55 rfl rfl
set_option maxRecDepth 100000 in
theorem kw_56 : (Jvm.Cond.fieldLink "LackFerry$Tokens" (9 : Nat) "LackFerry$Tokens" "kinds" "[I") ∈ ab_G := ab_g 56 rfl rfl
set_option maxRecDepth 100000 in
theorem kw_57 : (Jvm.Cond.fieldLink "LackFerry$Tokens" (15 : Nat) "LackFerry$Tokens" "places" "[I") ∈ ab_G := ab_g 57 rfl rfl
set_option maxRecDepth 100000 in
theorem kw_58 : (Jvm.Cond.fieldLink "LackFerry$Tokens" (18 : Nat) "LackFerry$Tokens" "values" "[J") ∈ ab_G := ab_g 58 rfl rfl
set_option maxRecDepth 100000 in
theorem kw_59 : (Jvm.Cond.fieldLink "LackFerry$Tokens" (22 : Nat) "LackFerry$Tokens" "size" "I") ∈ ab_G := ab_g 59 rfl rfl
set_option maxRecDepth 100000 in
theorem kw_60 : (Jvm.Cond.fieldLink "LackFerry$Tokens" (26 : Nat) "LackFerry$Tokens" "next" "I") ∈ ab_G := ab_g 60 rfl rfl
set_option maxRecDepth 100000 in
theorem kw_61 : (Jvm.Cond.fieldLink "LackFerry$LogText" (30 : Nat) "LackFerry$Tokens" "kind" "I") ∈ ab_G := ab_g 61 rfl rfl
set_option maxRecDepth 100000 in
theorem kw_62 : (Jvm.Cond.fieldLink "LackFerry$Sentence" (47 : Nat) "LackFerry$Tokens" "kind" "I") ∈ ab_G := ab_g 62 rfl rfl
set_option maxRecDepth 100000 in
theorem kw_63 : (Jvm.Cond.fieldLink "LackFerry$Tokens" (32 : Nat) "LackFerry$Tokens" "kind" "I") ∈ ab_G := ab_g 63 rfl rfl
set_option maxRecDepth 100000 in
theorem kw_64 : (Jvm.Cond.fieldLink "LackFerry$Strait" (81 : Nat) "LackFerry$Tokens" "kind" "I") ∈ ab_G := ab_g 64 rfl rfl
set_option maxRecDepth 100000 in
theorem kw_65 : (Jvm.Cond.fieldLink "LackFerry" (122 : Nat) "LackFerry$Tokens" "place" "I") ∈ ab_G := ab_g 65 rfl rfl
set_option maxRecDepth 100000 in
theorem kw_66 : (Jvm.Cond.fieldLink "LackFerry$Tokens" (35 : Nat) "LackFerry$Tokens" "place" "I") ∈ ab_G := ab_g 66 rfl rfl
set_option maxRecDepth 100000 in
theorem kw_67 : (Jvm.Cond.fieldLink "LackFerry$LogText" (74 : Nat) "LackFerry$Tokens" "number" "I") ∈ ab_G := ab_g 67 rfl rfl
set_option maxRecDepth 100000 in
theorem kw_68 : (Jvm.Cond.fieldLink "LackFerry$Tokens" (42 : Nat) "LackFerry$Tokens" "number" "I") ∈ ab_G := ab_g 68 rfl rfl
set_option maxRecDepth 100000 in
theorem kw_69 : (Jvm.Cond.fieldLink "LackFerry$Sentence" (77 : Nat) "LackFerry$Tokens" "number" "I") ∈ ab_G := ab_g 69 rfl rfl
set_option maxRecDepth 100000 in
theorem kw_70 : (Jvm.Cond.fieldLink "LackFerry$Strait" (115 : Nat) "LackFerry$Tokens" "number" "I") ∈ ab_G := ab_g 70 rfl rfl
set_option maxRecDepth 100000 in
theorem kw_71 : (Jvm.Cond.fieldLink "LackFerry$LogText" (44 : Nat) "LackFerry$Tokens" "name" "J") ∈ ab_G := ab_g 71 rfl rfl
set_option maxRecDepth 100000 in
theorem kw_72 : (Jvm.Cond.fieldLink "LackFerry$Tokens" (38 : Nat) "LackFerry$Tokens" "name" "J") ∈ ab_G := ab_g 72 rfl rfl
set_option maxRecDepth 100000 in
theorem kw_73 : (Jvm.Cond.fieldLink "LackFerry$Strait" (122 : Nat) "LackFerry$Tokens" "name" "J") ∈ ab_G := ab_g 73 rfl rfl
set_option maxRecDepth 100000 in
theorem kw_74 : (Jvm.Cond.fieldLink "LackFerry$Tokens" (29 : Nat) "LackFerry$Tokens" "faultKind" "I") ∈ ab_G := ab_g 74 rfl rfl
set_option maxRecDepth 100000 in
theorem kw_75 : (Jvm.Cond.fieldLink "LackFerry" (116 : Nat) "LackFerry$Tokens" "faultKind" "I") ∈ ab_G := ab_g 75 rfl rfl
set_option maxRecDepth 100000 in
theorem kw_76 : (Jvm.Cond.laysFinal "LackFerry$Tokens" "LackFerry$Tokens" "kinds" "[I") ∈ ab_G := ab_g 76 rfl rfl
set_option maxRecDepth 100000 in
theorem kw_78 : (Jvm.Cond.laysFinal "LackFerry$Tokens" "LackFerry$Tokens" "places" "[I") ∈ ab_G := ab_g 78 rfl rfl
set_option maxRecDepth 100000 in
theorem kw_80 : (Jvm.Cond.laysFinal "LackFerry$Tokens" "LackFerry$Tokens" "values" "[J") ∈ ab_G := ab_g 80 rfl rfl
set_option maxRecDepth 100000 in
theorem kw_82 : (Jvm.Cond.lays "LackFerry$Tokens" "LackFerry$Tokens" "size" "I") ∈ ab_G := ab_g 82 rfl rfl
set_option maxRecDepth 100000 in
theorem kw_84 : (Jvm.Cond.lays "LackFerry$Tokens" "LackFerry$Tokens" "next" "I") ∈ ab_G := ab_g 84 rfl rfl
set_option maxRecDepth 100000 in
theorem kw_86 : (Jvm.Cond.lays "LackFerry$Tokens" "LackFerry$Tokens" "kind" "I") ∈ ab_G := ab_g 86 rfl rfl
set_option maxRecDepth 100000 in
theorem kw_88 : (Jvm.Cond.lays "LackFerry$Tokens" "LackFerry$Tokens" "place" "I") ∈ ab_G := ab_g 88 rfl rfl
set_option maxRecDepth 100000 in
theorem kw_90 : (Jvm.Cond.lays "LackFerry$Tokens" "LackFerry$Tokens" "number" "I") ∈ ab_G := ab_g 90 rfl rfl
set_option maxRecDepth 100000 in
theorem kw_92 : (Jvm.Cond.lays "LackFerry$Tokens" "LackFerry$Tokens" "name" "J") ∈ ab_G := ab_g 92 rfl rfl
set_option maxRecDepth 100000 in
theorem kw_94 : (Jvm.Cond.lays "LackFerry$Tokens" "LackFerry$Tokens" "faultKind" "I") ∈ ab_G := ab_g 94 rfl rfl
set_option maxRecDepth 100000 in
theorem kw_97 : (Jvm.Cond.arrayClass Jvm.ClassFile.FieldType.int) ∈ ab_G := ab_g 97 rfl rfl
set_option maxRecDepth 100000 in
theorem kw_98 : (Jvm.Cond.arrayClass Jvm.ClassFile.FieldType.long) ∈ ab_G := ab_g 98 rfl rfl
set_option maxRecDepth 100000 in
theorem kw_99 : (Jvm.Cond.classLink "LackFerry" (23 : Nat) "LackFerry$Ferry") ∈ ab_G := ab_g 99 rfl rfl
set_option maxRecDepth 100000 in
theorem kw_100 : (Jvm.Cond.instantiable "LackFerry$Ferry" (4 : Nat)) ∈ ab_G := ab_g 100 rfl rfl
set_option maxRecDepth 100000 in
theorem kw_102 : (Jvm.Cond.instanceMethod ({ cls := "LackFerry$Ferry", name := "<init>", desc := "()V" } : Jvm.MethodName)) ∈ ab_G := ab_g 102 rfl rfl
set_option maxRecDepth 100000 in
theorem kw_103 : (Jvm.Cond.code ({ cls := "LackFerry$Ferry", name := "<init>", desc := "()V" } : Jvm.MethodName) prog_3_method_1_code (1 : Nat) (Option.none : Option Jvm.ClassFile.FieldType)) ∈ ab_G := ab_g 103 rfl rfl
set_option maxRecDepth 100000 in
theorem kw_104 : (Jvm.Cond.methodLink "LackFerry$Ferry" (3 : Nat) ({ cls := "java/lang/Object", name := "<init>", desc := "()V" } : Jvm.MethodName)) ∈ ab_G := ab_g 104 rfl rfl
set_option maxRecDepth 100000 in
theorem kw_105 : (Jvm.Cond.fieldLink "LackFerry$Ferry" (9 : Nat) "LackFerry$Ferry" "freight" "[I") ∈ ab_G := ab_g 105 rfl rfl
set_option maxRecDepth 100000 in
theorem kw_106 : (Jvm.Cond.fieldLink "LackFerry" (281 : Nat) "LackFerry$Ferry" "freight" "[I") ∈ ab_G := ab_g 106 rfl rfl
set_option maxRecDepth 100000 in
theorem kw_107 : (Jvm.Cond.fieldLink "LackFerry$Ferry" (15 : Nat) "LackFerry$Ferry" "roomFor" "[I") ∈ ab_G := ab_g 107 rfl rfl
set_option maxRecDepth 100000 in
theorem kw_108 : (Jvm.Cond.fieldLink "LackFerry" (296 : Nat) "LackFerry$Ferry" "roomFor" "[I") ∈ ab_G := ab_g 108 rfl rfl
set_option maxRecDepth 100000 in
theorem kw_109 : (Jvm.Cond.fieldLink "LackFerry$Ferry" (45 : Nat) "LackFerry$Ferry" "boarders" "I") ∈ ab_G := ab_g 109 rfl rfl
set_option maxRecDepth 100000 in
theorem kw_110 : (Jvm.Cond.fieldLink "LackFerry" (278 : Nat) "LackFerry$Ferry" "boarders" "I") ∈ ab_G := ab_g 110 rfl rfl
set_option maxRecDepth 100000 in
theorem kw_111 : (Jvm.Cond.fieldLink "LackFerry$Ferry" (42 : Nat) "LackFerry$Ferry" "used" "I") ∈ ab_G := ab_g 111 rfl rfl
set_option maxRecDepth 100000 in
theorem kw_112 : (Jvm.Cond.laysFinal "LackFerry$Ferry" "LackFerry$Ferry" "freight" "[I") ∈ ab_G := ab_g 112 rfl rfl
set_option maxRecDepth 100000 in
theorem kw_114 : (Jvm.Cond.laysFinal "LackFerry$Ferry" "LackFerry$Ferry" "roomFor" "[I") ∈ ab_G := ab_g 114 rfl rfl
set_option maxRecDepth 100000 in
theorem kw_116 : (Jvm.Cond.lays "LackFerry$Ferry" "LackFerry$Ferry" "boarders" "I") ∈ ab_G := ab_g 116 rfl rfl
set_option maxRecDepth 100000 in
theorem kw_118 : (Jvm.Cond.lays "LackFerry$Ferry" "LackFerry$Ferry" "used" "I") ∈ ab_G := ab_g 118 rfl rfl
set_option maxRecDepth 100000 in
theorem kw_121 : (Jvm.Cond.classLink "LackFerry" (30 : Nat) "LackFerry$History") ∈ ab_G := ab_g 121 rfl rfl
set_option maxRecDepth 100000 in
theorem kw_122 : (Jvm.Cond.instantiable "LackFerry$History" (2 : Nat)) ∈ ab_G := ab_g 122 rfl rfl
set_option maxRecDepth 100000 in
theorem kw_124 : (Jvm.Cond.instanceMethod ({ cls := "LackFerry$History", name := "<init>", desc := "()V" } : Jvm.MethodName)) ∈ ab_G := ab_g 124 rfl rfl
set_option maxRecDepth 100000 in
theorem kw_125 : (Jvm.Cond.code ({ cls := "LackFerry$History", name := "<init>", desc := "()V" } : Jvm.MethodName) prog_4_method_1_code (1 : Nat) (Option.none : Option Jvm.ClassFile.FieldType)) ∈ ab_G := ab_g 125 rfl rfl
set_option maxRecDepth 100000 in
theorem kw_126 : (Jvm.Cond.methodLink "LackFerry$History" (3 : Nat) ({ cls := "java/lang/Object", name := "<init>", desc := "()V" } : Jvm.MethodName)) ∈ ab_G := ab_g 126 rfl rfl
set_option maxRecDepth 100000 in
theorem kw_127 : (Jvm.Cond.classLink "LackFerry$History" (9 : Nat) "LackFerry$Shores") ∈ ab_G := ab_g 127 rfl rfl
set_option maxRecDepth 100000 in
theorem kw_129 : (Jvm.Cond.fieldLink "LackFerry$History" (11 : Nat) "LackFerry$History" "kept" "[LLackFerry$Shores;") ∈ ab_G := ab_g 129 rfl rfl
set_option maxRecDepth 100000 in
theorem kw_130 : (Jvm.Cond.fieldLink "LackFerry$History" (17 : Nat) "LackFerry$History" "size" "I") ∈ ab_G := ab_g 130 rfl rfl
set_option maxRecDepth 100000 in
theorem kw_131 : (Jvm.Cond.laysFinal "LackFerry$History" "LackFerry$History" "kept" "[LLackFerry$Shores;") ∈ ab_G := ab_g 131 rfl rfl
set_option maxRecDepth 100000 in
theorem kw_133 : (Jvm.Cond.lays "LackFerry$History" "LackFerry$History" "size" "I") ∈ ab_G := ab_g 133 rfl rfl
set_option maxRecDepth 100000 in
theorem kw_136 : (Jvm.Cond.classLink "LackFerry" (37 : Nat) "LackFerry$Shores") ∈ ab_G := ab_g 136 rfl rfl
set_option maxRecDepth 100000 in
theorem kw_137 : (Jvm.Cond.instantiable "LackFerry$Shores" (10 : Nat)) ∈ ab_G := ab_g 137 rfl rfl
set_option maxRecDepth 100000 in
theorem kw_139 : (Jvm.Cond.instanceMethod ({ cls := "LackFerry$Shores", name := "<init>", desc := "()V" } : Jvm.MethodName)) ∈ ab_G := ab_g 139 rfl rfl
set_option maxRecDepth 100000 in
theorem kw_140 : (Jvm.Cond.code ({ cls := "LackFerry$Shores", name := "<init>", desc := "()V" } : Jvm.MethodName) prog_8_method_1_code (1 : Nat) (Option.none : Option Jvm.ClassFile.FieldType)) ∈ ab_G := ab_g 140 rfl rfl
set_option maxRecDepth 100000 in
theorem kw_141 : (Jvm.Cond.methodLink "LackFerry$Shores" (3 : Nat) ({ cls := "java/lang/Object", name := "<init>", desc := "()V" } : Jvm.MethodName)) ∈ ab_G := ab_g 141 rfl rfl
set_option maxRecDepth 100000 in
theorem kw_142 : (Jvm.Cond.fieldLink "LackFerry$Shores" (9 : Nat) "LackFerry$Shores" "stocks" "[I") ∈ ab_G := ab_g 142 rfl rfl
set_option maxRecDepth 100000 in
theorem kw_143 : (Jvm.Cond.fieldLink "LackFerry$Ferry" (68 : Nat) "LackFerry$Shores" "stocks" "[I") ∈ ab_G := ab_g 143 rfl rfl
set_option maxRecDepth 100000 in
theorem kw_144 : (Jvm.Cond.fieldLink "LackFerry" (163 : Nat) "LackFerry$Shores" "stocks" "[I") ∈ ab_G := ab_g 144 rfl rfl
set_option maxRecDepth 100000 in
theorem kw_145 : (Jvm.Cond.fieldLink "LackFerry$Sentence" (116 : Nat) "LackFerry$Shores" "stocks" "[I") ∈ ab_G := ab_g 145 rfl rfl
set_option maxRecDepth 100000 in
theorem kw_146 : (Jvm.Cond.fieldLink "LackFerry$Shores" (15 : Nat) "LackFerry$Shores" "hoards" "[I") ∈ ab_G := ab_g 146 rfl rfl
set_option maxRecDepth 100000 in
theorem kw_147 : (Jvm.Cond.fieldLink "LackFerry$Sentence" (104 : Nat) "LackFerry$Shores" "hoards" "[I") ∈ ab_G := ab_g 147 rfl rfl
set_option maxRecDepth 100000 in
theorem kw_148 : (Jvm.Cond.fieldLink "LackFerry" (166 : Nat) "LackFerry$Shores" "hoards" "[I") ∈ ab_G := ab_g 148 rfl rfl
set_option maxRecDepth 100000 in
theorem kw_149 : (Jvm.Cond.fieldLink "LackFerry$Shores" (18 : Nat) "LackFerry$Shores" "hungers" "[I") ∈ ab_G := ab_g 149 rfl rfl
set_option maxRecDepth 100000 in
theorem kw_150 : (Jvm.Cond.fieldLink "LackFerry" (180 : Nat) "LackFerry$Shores" "hungers" "[I") ∈ ab_G := ab_g 150 rfl rfl
set_option maxRecDepth 100000 in
theorem kw_151 : (Jvm.Cond.fieldLink "LackFerry$Shores" (21 : Nat) "LackFerry$Shores" "broughtTo" "[I") ∈ ab_G := ab_g 151 rfl rfl
set_option maxRecDepth 100000 in
theorem kw_152 : (Jvm.Cond.fieldLink "LackFerry$Ferry" (92 : Nat) "LackFerry$Shores" "broughtTo" "[I") ∈ ab_G := ab_g 152 rfl rfl
set_option maxRecDepth 100000 in
theorem kw_153 : (Jvm.Cond.fieldLink "LackFerry" (183 : Nat) "LackFerry$Shores" "broughtTo" "[I") ∈ ab_G := ab_g 153 rfl rfl
set_option maxRecDepth 100000 in
theorem kw_154 : (Jvm.Cond.fieldLink "LackFerry$Sentence" (119 : Nat) "LackFerry$Shores" "broughtTo" "[I") ∈ ab_G := ab_g 154 rfl rfl
set_option maxRecDepth 100000 in
theorem kw_155 : (Jvm.Cond.fieldLink "LackFerry$Shores" (24 : Nat) "LackFerry$Shores" "shoreOf" "[I") ∈ ab_G := ab_g 155 rfl rfl
set_option maxRecDepth 100000 in
theorem kw_156 : (Jvm.Cond.fieldLink "LackFerry$Ferry" (55 : Nat) "LackFerry$Shores" "shoreOf" "[I") ∈ ab_G := ab_g 156 rfl rfl
set_option maxRecDepth 100000 in
theorem kw_157 : (Jvm.Cond.fieldLink "LackFerry" (193 : Nat) "LackFerry$Shores" "shoreOf" "[I") ∈ ab_G := ab_g 157 rfl rfl
set_option maxRecDepth 100000 in
theorem kw_158 : (Jvm.Cond.fieldLink "LackFerry$Shores" (27 : Nat) "LackFerry$Shores" "trips" "[I") ∈ ab_G := ab_g 158 rfl rfl
set_option maxRecDepth 100000 in
theorem kw_159 : (Jvm.Cond.fieldLink "LackFerry$Ferry" (89 : Nat) "LackFerry$Shores" "trips" "[I") ∈ ab_G := ab_g 159 rfl rfl
set_option maxRecDepth 100000 in
theorem kw_160 : (Jvm.Cond.fieldLink "LackFerry" (202 : Nat) "LackFerry$Shores" "trips" "[I") ∈ ab_G := ab_g 160 rfl rfl
set_option maxRecDepth 100000 in
theorem kw_161 : (Jvm.Cond.fieldLink "LackFerry$Shores" (30 : Nat) "LackFerry$Shores" "daysApart" "[I") ∈ ab_G := ab_g 161 rfl rfl
set_option maxRecDepth 100000 in
theorem kw_162 : (Jvm.Cond.fieldLink "LackFerry$Shores" (42 : Nat) "LackFerry$Shores" "day" "I") ∈ ab_G := ab_g 162 rfl rfl
set_option maxRecDepth 100000 in
theorem kw_163 : (Jvm.Cond.fieldLink "LackFerry$Ferry" (33 : Nat) "LackFerry$Shores" "day" "I") ∈ ab_G := ab_g 163 rfl rfl
set_option maxRecDepth 100000 in
theorem kw_164 : (Jvm.Cond.fieldLink "LackFerry" (213 : Nat) "LackFerry$Shores" "day" "I") ∈ ab_G := ab_g 164 rfl rfl
set_option maxRecDepth 100000 in
theorem kw_165 : (Jvm.Cond.fieldLink "LackFerry$Shores" (46 : Nat) "LackFerry$Shores" "emptyTrips" "I") ∈ ab_G := ab_g 165 rfl rfl
set_option maxRecDepth 100000 in
theorem kw_166 : (Jvm.Cond.fieldLink "LackFerry$Ferry" (98 : Nat) "LackFerry$Shores" "emptyTrips" "I") ∈ ab_G := ab_g 166 rfl rfl
set_option maxRecDepth 100000 in
theorem kw_167 : (Jvm.Cond.fieldLink "LackFerry" (223 : Nat) "LackFerry$Shores" "emptyTrips" "I") ∈ ab_G := ab_g 167 rfl rfl
set_option maxRecDepth 100000 in
theorem kw_168 : (Jvm.Cond.fieldLink "LackFerry$Shores" (49 : Nat) "LackFerry$Shores" "roomUsed" "I") ∈ ab_G := ab_g 168 rfl rfl
set_option maxRecDepth 100000 in
theorem kw_169 : (Jvm.Cond.fieldLink "LackFerry$Ferry" (95 : Nat) "LackFerry$Shores" "roomUsed" "I") ∈ ab_G := ab_g 169 rfl rfl
set_option maxRecDepth 100000 in
theorem kw_170 : (Jvm.Cond.fieldLink "LackFerry" (226 : Nat) "LackFerry$Shores" "roomUsed" "I") ∈ ab_G := ab_g 170 rfl rfl
set_option maxRecDepth 100000 in
theorem kw_171 : (Jvm.Cond.laysFinal "LackFerry$Shores" "LackFerry$Shores" "stocks" "[I") ∈ ab_G := ab_g 171 rfl rfl
set_option maxRecDepth 100000 in
theorem kw_173 : (Jvm.Cond.laysFinal "LackFerry$Shores" "LackFerry$Shores" "hoards" "[I") ∈ ab_G := ab_g 173 rfl rfl
set_option maxRecDepth 100000 in
theorem kw_175 : (Jvm.Cond.laysFinal "LackFerry$Shores" "LackFerry$Shores" "hungers" "[I") ∈ ab_G := ab_g 175 rfl rfl
set_option maxRecDepth 100000 in
theorem kw_177 : (Jvm.Cond.laysFinal "LackFerry$Shores" "LackFerry$Shores" "broughtTo" "[I") ∈ ab_G := ab_g 177 rfl rfl
set_option maxRecDepth 100000 in
theorem kw_179 : (Jvm.Cond.laysFinal "LackFerry$Shores" "LackFerry$Shores" "shoreOf" "[I") ∈ ab_G := ab_g 179 rfl rfl
set_option maxRecDepth 100000 in
theorem kw_181 : (Jvm.Cond.laysFinal "LackFerry$Shores" "LackFerry$Shores" "trips" "[I") ∈ ab_G := ab_g 181 rfl rfl
set_option maxRecDepth 100000 in
theorem kw_183 : (Jvm.Cond.laysFinal "LackFerry$Shores" "LackFerry$Shores" "daysApart" "[I") ∈ ab_G := ab_g 183 rfl rfl
set_option maxRecDepth 100000 in
theorem kw_185 : (Jvm.Cond.lays "LackFerry$Shores" "LackFerry$Shores" "day" "I") ∈ ab_G := ab_g 185 rfl rfl
set_option maxRecDepth 100000 in
theorem kw_187 : (Jvm.Cond.lays "LackFerry$Shores" "LackFerry$Shores" "emptyTrips" "I") ∈ ab_G := ab_g 187 rfl rfl
set_option maxRecDepth 100000 in
theorem kw_189 : (Jvm.Cond.lays "LackFerry$Shores" "LackFerry$Shores" "roomUsed" "I") ∈ ab_G := ab_g 189 rfl rfl
set_option maxRecDepth 100000 in
theorem kw_192 : (Jvm.Cond.classLink "LackFerry" (50 : Nat) "LackFerry$LogText") ∈ ab_G := ab_g 192 rfl rfl
set_option maxRecDepth 100000 in
theorem kw_193 : (Jvm.Cond.instantiable "LackFerry$LogText" (4 : Nat)) ∈ ab_G := ab_g 193 rfl rfl
set_option maxRecDepth 100000 in
theorem kw_195 : (Jvm.Cond.instanceMethod ({ cls := "LackFerry$LogText", name := "<init>", desc := "()V" } : Jvm.MethodName)) ∈ ab_G := ab_g 195 rfl rfl
set_option maxRecDepth 100000 in
theorem kw_196 : (Jvm.Cond.code ({ cls := "LackFerry$LogText", name := "<init>", desc := "()V" } : Jvm.MethodName) prog_6_method_1_code (1 : Nat) (Option.none : Option Jvm.ClassFile.FieldType)) ∈ ab_G := ab_g 196 rfl rfl
set_option maxRecDepth 100000 in
theorem kw_197 : (Jvm.Cond.methodLink "LackFerry$LogText" (3 : Nat) ({ cls := "java/lang/Object", name := "<init>", desc := "()V" } : Jvm.MethodName)) ∈ ab_G := ab_g 197 rfl rfl
set_option maxRecDepth 100000 in
theorem kw_198 : (Jvm.Cond.fieldLink "LackFerry$LogText" (9 : Nat) "LackFerry$LogText" "deeds" "[I") ∈ ab_G := ab_g 198 rfl rfl
set_option maxRecDepth 100000 in
theorem kw_199 : (Jvm.Cond.fieldLink "LackFerry" (350 : Nat) "LackFerry$LogText" "deeds" "[I") ∈ ab_G := ab_g 199 rfl rfl
set_option maxRecDepth 100000 in
theorem kw_200 : (Jvm.Cond.fieldLink "LackFerry$LogText" (15 : Nat) "LackFerry$LogText" "whom" "[I") ∈ ab_G := ab_g 200 rfl rfl
set_option maxRecDepth 100000 in
theorem kw_201 : (Jvm.Cond.fieldLink "LackFerry" (353 : Nat) "LackFerry$LogText" "whom" "[I") ∈ ab_G := ab_g 201 rfl rfl
set_option maxRecDepth 100000 in
theorem kw_202 : (Jvm.Cond.fieldLink "LackFerry$LogText" (18 : Nat) "LackFerry$LogText" "amounts" "[I") ∈ ab_G := ab_g 202 rfl rfl
set_option maxRecDepth 100000 in
theorem kw_203 : (Jvm.Cond.fieldLink "LackFerry" (356 : Nat) "LackFerry$LogText" "amounts" "[I") ∈ ab_G := ab_g 203 rfl rfl
set_option maxRecDepth 100000 in
theorem kw_204 : (Jvm.Cond.fieldLink "LackFerry$LogText" (21 : Nat) "LackFerry$LogText" "lines" "I") ∈ ab_G := ab_g 204 rfl rfl
set_option maxRecDepth 100000 in
theorem kw_205 : (Jvm.Cond.fieldLink "LackFerry" (347 : Nat) "LackFerry$LogText" "lines" "I") ∈ ab_G := ab_g 205 rfl rfl
set_option maxRecDepth 100000 in
theorem kw_206 : (Jvm.Cond.laysFinal "LackFerry$LogText" "LackFerry$LogText" "deeds" "[I") ∈ ab_G := ab_g 206 rfl rfl
set_option maxRecDepth 100000 in
theorem kw_208 : (Jvm.Cond.laysFinal "LackFerry$LogText" "LackFerry$LogText" "whom" "[I") ∈ ab_G := ab_g 208 rfl rfl
set_option maxRecDepth 100000 in
theorem kw_210 : (Jvm.Cond.laysFinal "LackFerry$LogText" "LackFerry$LogText" "amounts" "[I") ∈ ab_G := ab_g 210 rfl rfl
set_option maxRecDepth 100000 in
theorem kw_212 : (Jvm.Cond.lays "LackFerry$LogText" "LackFerry$LogText" "lines" "I") ∈ ab_G := ab_g 212 rfl rfl
set_option maxRecDepth 100000 in
theorem kw_215 : (Jvm.Cond.classLink "LackFerry" (57 : Nat) "LackFerry$Draws") ∈ ab_G := ab_g 215 rfl rfl
set_option maxRecDepth 100000 in
theorem kw_216 : (Jvm.Cond.instantiable "LackFerry$Draws" (1 : Nat)) ∈ ab_G := ab_g 216 rfl rfl
set_option maxRecDepth 100000 in
theorem kw_218 : (Jvm.Cond.instanceMethod ({ cls := "LackFerry$Draws", name := "<init>", desc := "()V" } : Jvm.MethodName)) ∈ ab_G := ab_g 218 rfl rfl
set_option maxRecDepth 100000 in
theorem kw_219 : (Jvm.Cond.code ({ cls := "LackFerry$Draws", name := "<init>", desc := "()V" } : Jvm.MethodName) prog_2_method_1_code (1 : Nat) (Option.none : Option Jvm.ClassFile.FieldType)) ∈ ab_G := ab_g 219 rfl rfl
set_option maxRecDepth 100000 in
theorem kw_220 : (Jvm.Cond.methodLink "LackFerry$Draws" (1 : Nat) ({ cls := "java/lang/Object", name := "<init>", desc := "()V" } : Jvm.MethodName)) ∈ ab_G := ab_g 220 rfl rfl
set_option maxRecDepth 100000 in
theorem kw_221 : (Jvm.Cond.fieldLink "LackFerry$Draws" (7 : Nat) "LackFerry$Draws" "x" "I") ∈ ab_G := ab_g 221 rfl rfl
set_option maxRecDepth 100000 in
theorem kw_222 : (Jvm.Cond.fieldLink "LackFerry" (326 : Nat) "LackFerry$Draws" "x" "I") ∈ ab_G := ab_g 222 rfl rfl
set_option maxRecDepth 100000 in
theorem kw_223 : (Jvm.Cond.lays "LackFerry$Draws" "LackFerry$Draws" "x" "I") ∈ ab_G := ab_g 223 rfl rfl
set_option maxRecDepth 100000 in
theorem kw_226 : (Jvm.Cond.classLink "LackFerry" (64 : Nat) "LackFerry$Image") ∈ ab_G := ab_g 226 rfl rfl
set_option maxRecDepth 100000 in
theorem kw_228 : (Jvm.Cond.classLink "LackFerry" (80 : Nat) "LackFerry$Strait") ∈ ab_G := ab_g 228 rfl rfl
set_option maxRecDepth 100000 in
theorem kw_229 : (Jvm.Cond.instantiable "LackFerry$Strait" (13 : Nat)) ∈ ab_G := ab_g 229 rfl rfl
set_option maxRecDepth 100000 in
theorem kw_231 : (Jvm.Cond.instanceMethod ({ cls := "LackFerry$Strait", name := "<init>", desc := "()V" } : Jvm.MethodName)) ∈ ab_G := ab_g 231 rfl rfl
set_option maxRecDepth 100000 in
theorem kw_232 : (Jvm.Cond.code ({ cls := "LackFerry$Strait", name := "<init>", desc := "()V" } : Jvm.MethodName) prog_9_method_1_code (1 : Nat) (Option.none : Option Jvm.ClassFile.FieldType)) ∈ ab_G := ab_g 232 rfl rfl
set_option maxRecDepth 100000 in
theorem kw_233 : (Jvm.Cond.methodLink "LackFerry$Strait" (3 : Nat) ({ cls := "java/lang/Object", name := "<init>", desc := "()V" } : Jvm.MethodName)) ∈ ab_G := ab_g 233 rfl rfl
set_option maxRecDepth 100000 in
theorem kw_234 : (Jvm.Cond.fieldLink "LackFerry$Strait" (9 : Nat) "LackFerry$Strait" "goodNames" "[J") ∈ ab_G := ab_g 234 rfl rfl
set_option maxRecDepth 100000 in
theorem kw_235 : (Jvm.Cond.fieldLink "LackFerry$Strait" (15 : Nat) "LackFerry$Strait" "manNames" "[J") ∈ ab_G := ab_g 235 rfl rfl
set_option maxRecDepth 100000 in
theorem kw_236 : (Jvm.Cond.fieldLink "LackFerry$Strait" (18 : Nat) "LackFerry$Strait" "firstShores" "[I") ∈ ab_G := ab_g 236 rfl rfl
set_option maxRecDepth 100000 in
theorem kw_237 : (Jvm.Cond.fieldLink "LackFerry$Shores" (39 : Nat) "LackFerry$Strait" "firstShores" "[I") ∈ ab_G := ab_g 237 rfl rfl
set_option maxRecDepth 100000 in
theorem kw_238 : (Jvm.Cond.fieldLink "LackFerry$Strait" (22 : Nat) "LackFerry$Strait" "amounts" "[I") ∈ ab_G := ab_g 238 rfl rfl
set_option maxRecDepth 100000 in
theorem kw_239 : (Jvm.Cond.fieldLink "LackFerry$Strait" (25 : Nat) "LackFerry$Strait" "missers" "[I") ∈ ab_G := ab_g 239 rfl rfl
set_option maxRecDepth 100000 in
theorem kw_240 : (Jvm.Cond.fieldLink "LackFerry$Shores" (66 : Nat) "LackFerry$Strait" "missers" "[I") ∈ ab_G := ab_g 240 rfl rfl
set_option maxRecDepth 100000 in
theorem kw_241 : (Jvm.Cond.fieldLink "LackFerry$Strait" (28 : Nat) "LackFerry$Strait" "missed" "[I") ∈ ab_G := ab_g 241 rfl rfl
set_option maxRecDepth 100000 in
theorem kw_242 : (Jvm.Cond.fieldLink "LackFerry$Shores" (69 : Nat) "LackFerry$Strait" "missed" "[I") ∈ ab_G := ab_g 242 rfl rfl
set_option maxRecDepth 100000 in
theorem kw_243 : (Jvm.Cond.fieldLink "LackFerry$Strait" (31 : Nat) "LackFerry$Strait" "missDays" "[I") ∈ ab_G := ab_g 243 rfl rfl
set_option maxRecDepth 100000 in
theorem kw_244 : (Jvm.Cond.fieldLink "LackFerry$Shores" (75 : Nat) "LackFerry$Strait" "missDays" "[I") ∈ ab_G := ab_g 244 rfl rfl
set_option maxRecDepth 100000 in
theorem kw_245 : (Jvm.Cond.fieldLink "LackFerry$Strait" (34 : Nat) "LackFerry$Strait" "load" "I") ∈ ab_G := ab_g 245 rfl rfl
set_option maxRecDepth 100000 in
theorem kw_246 : (Jvm.Cond.fieldLink "LackFerry$Ferry" (37 : Nat) "LackFerry$Strait" "load" "I") ∈ ab_G := ab_g 246 rfl rfl
set_option maxRecDepth 100000 in
theorem kw_247 : (Jvm.Cond.fieldLink "LackFerry" (241 : Nat) "LackFerry$Strait" "load" "I") ∈ ab_G := ab_g 247 rfl rfl
set_option maxRecDepth 100000 in
theorem kw_248 : (Jvm.Cond.fieldLink "LackFerry$Ferry" (58 : Nat) "LackFerry$Strait" "goods" "I") ∈ ab_G := ab_g 248 rfl rfl
set_option maxRecDepth 100000 in
theorem kw_249 : (Jvm.Cond.fieldLink "LackFerry$Strait" (56 : Nat) "LackFerry$Strait" "goods" "I") ∈ ab_G := ab_g 249 rfl rfl
set_option maxRecDepth 100000 in
theorem kw_250 : (Jvm.Cond.fieldLink "LackFerry" (136 : Nat) "LackFerry$Strait" "goods" "I") ∈ ab_G := ab_g 250 rfl rfl
set_option maxRecDepth 100000 in
theorem kw_251 : (Jvm.Cond.fieldLink "LackFerry$Shores" (97 : Nat) "LackFerry$Strait" "goods" "I") ∈ ab_G := ab_g 251 rfl rfl
set_option maxRecDepth 100000 in
theorem kw_252 : (Jvm.Cond.fieldLink "LackFerry$Ferry" (52 : Nat) "LackFerry$Strait" "men" "I") ∈ ab_G := ab_g 252 rfl rfl
set_option maxRecDepth 100000 in
theorem kw_253 : (Jvm.Cond.fieldLink "LackFerry$Strait" (59 : Nat) "LackFerry$Strait" "men" "I") ∈ ab_G := ab_g 253 rfl rfl
set_option maxRecDepth 100000 in
theorem kw_254 : (Jvm.Cond.fieldLink "LackFerry" (146 : Nat) "LackFerry$Strait" "men" "I") ∈ ab_G := ab_g 254 rfl rfl
set_option maxRecDepth 100000 in
theorem kw_255 : (Jvm.Cond.fieldLink "LackFerry$Shores" (63 : Nat) "LackFerry$Strait" "men" "I") ∈ ab_G := ab_g 255 rfl rfl
set_option maxRecDepth 100000 in
theorem kw_256 : (Jvm.Cond.fieldLink "LackFerry$Strait" (62 : Nat) "LackFerry$Strait" "missings" "I") ∈ ab_G := ab_g 256 rfl rfl
set_option maxRecDepth 100000 in
theorem kw_257 : (Jvm.Cond.fieldLink "LackFerry$Shores" (78 : Nat) "LackFerry$Strait" "missings" "I") ∈ ab_G := ab_g 257 rfl rfl
set_option maxRecDepth 100000 in
theorem kw_258 : (Jvm.Cond.fieldLink "LackFerry" (244 : Nat) "LackFerry$Strait" "missings" "I") ∈ ab_G := ab_g 258 rfl rfl
set_option maxRecDepth 100000 in
theorem kw_259 : (Jvm.Cond.fieldLink "LackFerry$Strait" (65 : Nat) "LackFerry$Strait" "isLoadTold" "Z") ∈ ab_G := ab_g 259 rfl rfl
set_option maxRecDepth 100000 in
theorem kw_260 : (Jvm.Cond.fieldLink "LackFerry$Strait" (69 : Nat) "LackFerry$Strait" "amountsTold" "J") ∈ ab_G := ab_g 260 rfl rfl
set_option maxRecDepth 100000 in
theorem kw_261 : (Jvm.Cond.laysFinal "LackFerry$Strait" "LackFerry$Strait" "goodNames" "[J") ∈ ab_G := ab_g 261 rfl rfl
set_option maxRecDepth 100000 in
theorem kw_263 : (Jvm.Cond.laysFinal "LackFerry$Strait" "LackFerry$Strait" "manNames" "[J") ∈ ab_G := ab_g 263 rfl rfl
set_option maxRecDepth 100000 in
theorem kw_265 : (Jvm.Cond.laysFinal "LackFerry$Strait" "LackFerry$Strait" "firstShores" "[I") ∈ ab_G := ab_g 265 rfl rfl
set_option maxRecDepth 100000 in
theorem kw_267 : (Jvm.Cond.laysFinal "LackFerry$Strait" "LackFerry$Strait" "amounts" "[I") ∈ ab_G := ab_g 267 rfl rfl
set_option maxRecDepth 100000 in
theorem kw_269 : (Jvm.Cond.laysFinal "LackFerry$Strait" "LackFerry$Strait" "missers" "[I") ∈ ab_G := ab_g 269 rfl rfl
set_option maxRecDepth 100000 in
theorem kw_271 : (Jvm.Cond.laysFinal "LackFerry$Strait" "LackFerry$Strait" "missed" "[I") ∈ ab_G := ab_g 271 rfl rfl
set_option maxRecDepth 100000 in
theorem kw_273 : (Jvm.Cond.laysFinal "LackFerry$Strait" "LackFerry$Strait" "missDays" "[I") ∈ ab_G := ab_g 273 rfl rfl
set_option maxRecDepth 100000 in
theorem kw_275 : (Jvm.Cond.lays "LackFerry$Strait" "LackFerry$Strait" "load" "I") ∈ ab_G := ab_g 275 rfl rfl
set_option maxRecDepth 100000 in
theorem kw_277 : (Jvm.Cond.lays "LackFerry$Strait" "LackFerry$Strait" "goods" "I") ∈ ab_G := ab_g 277 rfl rfl
set_option maxRecDepth 100000 in
theorem kw_279 : (Jvm.Cond.lays "LackFerry$Strait" "LackFerry$Strait" "men" "I") ∈ ab_G := ab_g 279 rfl rfl
set_option maxRecDepth 100000 in
theorem kw_281 : (Jvm.Cond.lays "LackFerry$Strait" "LackFerry$Strait" "missings" "I") ∈ ab_G := ab_g 281 rfl rfl
set_option maxRecDepth 100000 in
theorem kw_283 : (Jvm.Cond.lays "LackFerry$Strait" "LackFerry$Strait" "isLoadTold" "Z") ∈ ab_G := ab_g 283 rfl rfl
set_option maxRecDepth 100000 in
theorem kw_285 : (Jvm.Cond.lays "LackFerry$Strait" "LackFerry$Strait" "amountsTold" "J") ∈ ab_G := ab_g 285 rfl rfl
set_option maxRecDepth 100000 in
theorem kw_288 : (Jvm.Cond.classLink "LackFerry" (90 : Nat) "LackFerry$Sentence") ∈ ab_G := ab_g 288 rfl rfl
set_option maxRecDepth 100000 in
theorem kw_289 : (Jvm.Cond.instantiable "LackFerry$Sentence" (6 : Nat)) ∈ ab_G := ab_g 289 rfl rfl
set_option maxRecDepth 100000 in
theorem kw_291 : (Jvm.Cond.instanceMethod ({ cls := "LackFerry$Sentence", name := "<init>", desc := "()V" } : Jvm.MethodName)) ∈ ab_G := ab_g 291 rfl rfl
set_option maxRecDepth 100000 in
theorem kw_292 : (Jvm.Cond.code ({ cls := "LackFerry$Sentence", name := "<init>", desc := "()V" } : Jvm.MethodName) prog_7_method_1_code (1 : Nat) (Option.none : Option Jvm.ClassFile.FieldType)) ∈ ab_G := ab_g 292 rfl rfl
set_option maxRecDepth 100000 in
theorem kw_293 : (Jvm.Cond.methodLink "LackFerry$Sentence" (3 : Nat) ({ cls := "java/lang/Object", name := "<init>", desc := "()V" } : Jvm.MethodName)) ∈ ab_G := ab_g 293 rfl rfl
set_option maxRecDepth 100000 in
theorem kw_294 : (Jvm.Cond.fieldLink "LackFerry$Sentence" (11 : Nat) "LackFerry$Sentence" "ops" "[I") ∈ ab_G := ab_g 294 rfl rfl
set_option maxRecDepth 100000 in
theorem kw_295 : (Jvm.Cond.fieldLink "LackFerry$Sentence" (15 : Nat) "LackFerry$Sentence" "firsts" "[I") ∈ ab_G := ab_g 295 rfl rfl
set_option maxRecDepth 100000 in
theorem kw_296 : (Jvm.Cond.fieldLink "LackFerry$Sentence" (18 : Nat) "LackFerry$Sentence" "numbers" "[I") ∈ ab_G := ab_g 296 rfl rfl
set_option maxRecDepth 100000 in
theorem kw_297 : (Jvm.Cond.fieldLink "LackFerry$Sentence" (27 : Nat) "LackFerry$Sentence" "size" "I") ∈ ab_G := ab_g 297 rfl rfl
set_option maxRecDepth 100000 in
theorem kw_298 : (Jvm.Cond.fieldLink "LackFerry$Sentence" (31 : Nat) "LackFerry$Sentence" "ones" "I") ∈ ab_G := ab_g 298 rfl rfl
set_option maxRecDepth 100000 in
theorem kw_299 : (Jvm.Cond.fieldLink "LackFerry" (365 : Nat) "LackFerry$Sentence" "ones" "I") ∈ ab_G := ab_g 299 rfl rfl
set_option maxRecDepth 100000 in
theorem kw_300 : (Jvm.Cond.fieldLink "LackFerry$Sentence" (34 : Nat) "LackFerry$Sentence" "isSaid" "Z") ∈ ab_G := ab_g 300 rfl rfl
set_option maxRecDepth 100000 in
theorem kw_301 : (Jvm.Cond.fieldLink "LackFerry" (129 : Nat) "LackFerry$Sentence" "isSaid" "Z") ∈ ab_G := ab_g 301 rfl rfl
set_option maxRecDepth 100000 in
theorem kw_302 : (Jvm.Cond.laysFinal "LackFerry$Sentence" "LackFerry$Sentence" "ops" "[I") ∈ ab_G := ab_g 302 rfl rfl
set_option maxRecDepth 100000 in
theorem kw_304 : (Jvm.Cond.laysFinal "LackFerry$Sentence" "LackFerry$Sentence" "firsts" "[I") ∈ ab_G := ab_g 304 rfl rfl
set_option maxRecDepth 100000 in
theorem kw_306 : (Jvm.Cond.laysFinal "LackFerry$Sentence" "LackFerry$Sentence" "numbers" "[I") ∈ ab_G := ab_g 306 rfl rfl
set_option maxRecDepth 100000 in
theorem kw_308 : (Jvm.Cond.lays "LackFerry$Sentence" "LackFerry$Sentence" "size" "I") ∈ ab_G := ab_g 308 rfl rfl
set_option maxRecDepth 100000 in
theorem kw_310 : (Jvm.Cond.lays "LackFerry$Sentence" "LackFerry$Sentence" "ones" "I") ∈ ab_G := ab_g 310 rfl rfl
set_option maxRecDepth 100000 in
theorem kw_312 : (Jvm.Cond.lays "LackFerry$Sentence" "LackFerry$Sentence" "isSaid" "Z") ∈ ab_G := ab_g 312 rfl rfl
set_option maxRecDepth 100000 in
theorem kw_315 : (Jvm.Cond.fieldLink "LackFerry" (12 : Nat) "LackFerry" "tape" "LLackFerry$Tape;") ∈ ab_G := ab_g 315 rfl rfl
set_option maxRecDepth 100000 in
theorem kw_316 : (Jvm.Cond.fieldLink "LackFerry" (19 : Nat) "LackFerry" "tokens" "LLackFerry$Tokens;") ∈ ab_G := ab_g 316 rfl rfl
set_option maxRecDepth 100000 in
theorem kw_317 : (Jvm.Cond.fieldLink "LackFerry" (26 : Nat) "LackFerry" "ferry" "LLackFerry$Ferry;") ∈ ab_G := ab_g 317 rfl rfl
set_option maxRecDepth 100000 in
theorem kw_318 : (Jvm.Cond.fieldLink "LackFerry" (33 : Nat) "LackFerry" "history" "LLackFerry$History;") ∈ ab_G := ab_g 318 rfl rfl
set_option maxRecDepth 100000 in
theorem kw_319 : (Jvm.Cond.fieldLink "LackFerry" (40 : Nat) "LackFerry" "present" "LLackFerry$Shores;") ∈ ab_G := ab_g 319 rfl rfl
set_option maxRecDepth 100000 in
theorem kw_320 : (Jvm.Cond.fieldLink "LackFerry" (44 : Nat) "LackFerry" "ahead" "LLackFerry$Shores;") ∈ ab_G := ab_g 320 rfl rfl
set_option maxRecDepth 100000 in
theorem kw_321 : (Jvm.Cond.fieldLink "LackFerry" (47 : Nat) "LackFerry" "behind" "LLackFerry$Shores;") ∈ ab_G := ab_g 321 rfl rfl
set_option maxRecDepth 100000 in
theorem kw_322 : (Jvm.Cond.fieldLink "LackFerry" (53 : Nat) "LackFerry" "logText" "LLackFerry$LogText;") ∈ ab_G := ab_g 322 rfl rfl
set_option maxRecDepth 100000 in
theorem kw_323 : (Jvm.Cond.fieldLink "LackFerry" (60 : Nat) "LackFerry" "draws" "LLackFerry$Draws;") ∈ ab_G := ab_g 323 rfl rfl
set_option maxRecDepth 100000 in
theorem kw_324 : (Jvm.Cond.fieldLink "LackFerry" (66 : Nat) "LackFerry" "images" "[LLackFerry$Image;") ∈ ab_G := ab_g 324 rfl rfl
set_option maxRecDepth 100000 in
theorem kw_325 : (Jvm.Cond.fieldLink "LackFerry" (70 : Nat) "LackFerry" "priceAt" "[I") ∈ ab_G := ab_g 325 rfl rfl
set_option maxRecDepth 100000 in
theorem kw_326 : (Jvm.Cond.fieldLink "LackFerry" (74 : Nat) "LackFerry" "roomOnDay" "[I") ∈ ab_G := ab_g 326 rfl rfl
set_option maxRecDepth 100000 in
theorem kw_327 : (Jvm.Cond.fieldLink "LackFerry" (77 : Nat) "LackFerry" "logFacts" "[I") ∈ ab_G := ab_g 327 rfl rfl
set_option maxRecDepth 100000 in
theorem kw_328 : (Jvm.Cond.fieldLink "LackFerry" (83 : Nat) "LackFerry" "told" "LLackFerry$Strait;") ∈ ab_G := ab_g 328 rfl rfl
set_option maxRecDepth 100000 in
theorem kw_329 : (Jvm.Cond.fieldLink "LackFerry" (87 : Nat) "LackFerry" "straitDraft" "LLackFerry$Strait;") ∈ ab_G := ab_g 329 rfl rfl
set_option maxRecDepth 100000 in
theorem kw_330 : (Jvm.Cond.fieldLink "LackFerry" (93 : Nat) "LackFerry" "spoken" "LLackFerry$Sentence;") ∈ ab_G := ab_g 330 rfl rfl
set_option maxRecDepth 100000 in
theorem kw_331 : (Jvm.Cond.fieldLink "LackFerry" (97 : Nat) "LackFerry" "sentenceDraft" "LLackFerry$Sentence;") ∈ ab_G := ab_g 331 rfl rfl
set_option maxRecDepth 100000 in
theorem kw_332 : (Jvm.Cond.fieldLink "LackFerry" (315 : Nat) "LackFerry" "pricedGoods" "I") ∈ ab_G := ab_g 332 rfl rfl
set_option maxRecDepth 100000 in
theorem kw_333 : (Jvm.Cond.fieldLink "LackFerry" (119 : Nat) "LackFerry" "latestFault" "I") ∈ ab_G := ab_g 333 rfl rfl
set_option maxRecDepth 100000 in
theorem kw_334 : (Jvm.Cond.laysFinal "LackFerry" "LackFerry" "tape" "LLackFerry$Tape;") ∈ ab_G := ab_g 334 rfl rfl
set_option maxRecDepth 100000 in
theorem kw_336 : (Jvm.Cond.laysFinal "LackFerry" "LackFerry" "tokens" "LLackFerry$Tokens;") ∈ ab_G := ab_g 336 rfl rfl
set_option maxRecDepth 100000 in
theorem kw_338 : (Jvm.Cond.laysFinal "LackFerry" "LackFerry" "ferry" "LLackFerry$Ferry;") ∈ ab_G := ab_g 338 rfl rfl
set_option maxRecDepth 100000 in
theorem kw_340 : (Jvm.Cond.laysFinal "LackFerry" "LackFerry" "history" "LLackFerry$History;") ∈ ab_G := ab_g 340 rfl rfl
set_option maxRecDepth 100000 in
theorem kw_342 : (Jvm.Cond.laysFinal "LackFerry" "LackFerry" "present" "LLackFerry$Shores;") ∈ ab_G := ab_g 342 rfl rfl
set_option maxRecDepth 100000 in
theorem kw_344 : (Jvm.Cond.laysFinal "LackFerry" "LackFerry" "ahead" "LLackFerry$Shores;") ∈ ab_G := ab_g 344 rfl rfl
set_option maxRecDepth 100000 in
theorem kw_346 : (Jvm.Cond.laysFinal "LackFerry" "LackFerry" "behind" "LLackFerry$Shores;") ∈ ab_G := ab_g 346 rfl rfl
set_option maxRecDepth 100000 in
theorem kw_348 : (Jvm.Cond.laysFinal "LackFerry" "LackFerry" "logText" "LLackFerry$LogText;") ∈ ab_G := ab_g 348 rfl rfl
set_option maxRecDepth 100000 in
theorem kw_350 : (Jvm.Cond.laysFinal "LackFerry" "LackFerry" "draws" "LLackFerry$Draws;") ∈ ab_G := ab_g 350 rfl rfl
set_option maxRecDepth 100000 in
theorem kw_352 : (Jvm.Cond.laysFinal "LackFerry" "LackFerry" "images" "[LLackFerry$Image;") ∈ ab_G := ab_g 352 rfl rfl
set_option maxRecDepth 100000 in
theorem kw_354 : (Jvm.Cond.laysFinal "LackFerry" "LackFerry" "priceAt" "[I") ∈ ab_G := ab_g 354 rfl rfl
set_option maxRecDepth 100000 in
theorem kw_356 : (Jvm.Cond.laysFinal "LackFerry" "LackFerry" "roomOnDay" "[I") ∈ ab_G := ab_g 356 rfl rfl
set_option maxRecDepth 100000 in
theorem kw_358 : (Jvm.Cond.laysFinal "LackFerry" "LackFerry" "logFacts" "[I") ∈ ab_G := ab_g 358 rfl rfl
set_option maxRecDepth 100000 in
theorem kw_360 : (Jvm.Cond.lays "LackFerry" "LackFerry" "told" "LLackFerry$Strait;") ∈ ab_G := ab_g 360 rfl rfl
set_option maxRecDepth 100000 in
theorem kw_362 : (Jvm.Cond.lays "LackFerry" "LackFerry" "straitDraft" "LLackFerry$Strait;") ∈ ab_G := ab_g 362 rfl rfl
set_option maxRecDepth 100000 in
theorem kw_364 : (Jvm.Cond.lays "LackFerry" "LackFerry" "spoken" "LLackFerry$Sentence;") ∈ ab_G := ab_g 364 rfl rfl
set_option maxRecDepth 100000 in
theorem kw_366 : (Jvm.Cond.lays "LackFerry" "LackFerry" "sentenceDraft" "LLackFerry$Sentence;") ∈ ab_G := ab_g 366 rfl rfl
set_option maxRecDepth 100000 in
theorem kw_368 : (Jvm.Cond.lays "LackFerry" "LackFerry" "pricedGoods" "I") ∈ ab_G := ab_g 368 rfl rfl
set_option maxRecDepth 100000 in
theorem kw_370 : (Jvm.Cond.lays "LackFerry" "LackFerry" "latestFault" "I") ∈ ab_G := ab_g 370 rfl rfl
set_option maxRecDepth 100000 in
theorem kw_373 : (Jvm.Cond.methodLink "LackFerryLaw" (19 : Nat) ({ cls := "LackFerry", name := "feed", desc := "(IIIII)I" } : Jvm.MethodName)) ∈ ab_G := ab_g 373 rfl rfl
set_option maxRecDepth 100000 in
theorem kw_374 : (Jvm.Cond.instanceMethod ({ cls := "LackFerry", name := "feed", desc := "(IIIII)I" } : Jvm.MethodName)) ∈ ab_G := ab_g 374 rfl rfl
set_option maxRecDepth 100000 in
theorem kw_375 : (Jvm.Cond.selects "LackFerry" ({ cls := "LackFerry", name := "feed", desc := "(IIIII)I" } : Jvm.MethodName) ({ cls := "LackFerry", name := "feed", desc := "(IIIII)I" } : Jvm.MethodName)) ∈ ab_G := ab_g 375 rfl rfl
set_option maxRecDepth 100000 in
theorem kw_376 : (Jvm.Cond.code ({ cls := "LackFerry", name := "feed", desc := "(IIIII)I" } : Jvm.MethodName) prog_1_method_2_code (6 : Nat) (Option.some Jvm.ClassFile.FieldType.int)) ∈ ab_G := ab_g 376 rfl rfl
set_option maxRecDepth 100000 in
theorem kw_377 : (Jvm.Cond.methodLink "LackFerry" (104 : Nat) ({ cls := "LackFerry$Tape", name := "put", desc := "(I)V" } : Jvm.MethodName)) ∈ ab_G := ab_g 377 rfl rfl
set_option maxRecDepth 100000 in
theorem kw_378 : (Jvm.Cond.instanceMethod ({ cls := "LackFerry$Tape", name := "put", desc := "(I)V" } : Jvm.MethodName)) ∈ ab_G := ab_g 378 rfl rfl
set_option maxRecDepth 100000 in
theorem kw_379 : (Jvm.Cond.selects "LackFerry$Tape" ({ cls := "LackFerry$Tape", name := "put", desc := "(I)V" } : Jvm.MethodName) ({ cls := "LackFerry$Tape", name := "put", desc := "(I)V" } : Jvm.MethodName)) ∈ ab_G := ab_g 379 rfl rfl
set_option maxRecDepth 100000 in
theorem kw_380 : (Jvm.Cond.code ({ cls := "LackFerry$Tape", name := "put", desc := "(I)V" } : Jvm.MethodName) prog_10_method_2_code (3 : Nat) (Option.none : Option Jvm.ClassFile.FieldType)) ∈ ab_G := ab_g 380 rfl rfl
set_option maxRecDepth 100000 in
theorem kw_381 : (Jvm.Cond.methodLink "LackFerryLaw" (24 : Nat) ({ cls := "LackFerry", name := "end", desc := "(I)Z" } : Jvm.MethodName)) ∈ ab_G := ab_g 381 rfl rfl
set_option maxRecDepth 100000 in
theorem kw_382 : (Jvm.Cond.instanceMethod ({ cls := "LackFerry", name := "end", desc := "(I)Z" } : Jvm.MethodName)) ∈ ab_G := ab_g 382 rfl rfl
set_option maxRecDepth 100000 in
theorem kw_383 : (Jvm.Cond.selects "LackFerry" ({ cls := "LackFerry", name := "end", desc := "(I)Z" } : Jvm.MethodName) ({ cls := "LackFerry", name := "end", desc := "(I)Z" } : Jvm.MethodName)) ∈ ab_G := ab_g 383 rfl rfl
set_option maxRecDepth 100000 in
theorem kw_384 : (Jvm.Cond.code ({ cls := "LackFerry", name := "end", desc := "(I)Z" } : Jvm.MethodName) prog_1_method_3_code (2 : Nat) (Option.some Jvm.ClassFile.FieldType.boolean)) ∈ ab_G := ab_g 384 rfl rfl
set_option maxRecDepth 100000 in
theorem kw_385 : (Jvm.Cond.methodLink "LackFerryLaw" (29 : Nat) ({ cls := "LackFerry", name := "strait", desc := "()I" } : Jvm.MethodName)) ∈ ab_G := ab_g 385 rfl rfl
set_option maxRecDepth 100000 in
theorem kw_386 : (Jvm.Cond.instanceMethod ({ cls := "LackFerry", name := "strait", desc := "()I" } : Jvm.MethodName)) ∈ ab_G := ab_g 386 rfl rfl
set_option maxRecDepth 100000 in
theorem kw_387 : (Jvm.Cond.selects "LackFerry" ({ cls := "LackFerry", name := "strait", desc := "()I" } : Jvm.MethodName) ({ cls := "LackFerry", name := "strait", desc := "()I" } : Jvm.MethodName)) ∈ ab_G := ab_g 387 rfl rfl
set_option maxRecDepth 100000 in
theorem kw_388 : (Jvm.Cond.code ({ cls := "LackFerry", name := "strait", desc := "()I" } : Jvm.MethodName) prog_1_method_4_code (3 : Nat) (Option.some Jvm.ClassFile.FieldType.int)) ∈ ab_G := ab_g 388 rfl rfl
set_option maxRecDepth 100000 in
theorem kw_389 : (Jvm.Cond.methodLink "LackFerry" (108 : Nat) ({ cls := "LackFerry$Tape", name := "moveInto", desc := "(LLackFerry$Tokens;I)V" } : Jvm.MethodName)) ∈ ab_G := ab_g 389 rfl rfl
set_option maxRecDepth 100000 in
theorem kw_390 : (Jvm.Cond.instanceMethod ({ cls := "LackFerry$Tape", name := "moveInto", desc := "(LLackFerry$Tokens;I)V" } : Jvm.MethodName)) ∈ ab_G := ab_g 390 rfl rfl
set_option maxRecDepth 100000 in
theorem kw_391 : (Jvm.Cond.selects "LackFerry$Tape" ({ cls := "LackFerry$Tape", name := "moveInto", desc := "(LLackFerry$Tokens;I)V" } : Jvm.MethodName) ({ cls := "LackFerry$Tape", name := "moveInto", desc := "(LLackFerry$Tokens;I)V" } : Jvm.MethodName)) ∈ ab_G := ab_g 391 rfl rfl
set_option maxRecDepth 100000 in
theorem kw_392 : (Jvm.Cond.code ({ cls := "LackFerry$Tape", name := "moveInto", desc := "(LLackFerry$Tokens;I)V" } : Jvm.MethodName) prog_10_method_4_code (5 : Nat) (Option.none : Option Jvm.ClassFile.FieldType)) ∈ ab_G := ab_g 392 rfl rfl
set_option maxRecDepth 100000 in
theorem kw_393 : (Jvm.Cond.methodLink "LackFerry$Tape" (19 : Nat) ({ cls := "LackFerry$Tokens", name := "clear", desc := "()V" } : Jvm.MethodName)) ∈ ab_G := ab_g 393 rfl rfl
set_option maxRecDepth 100000 in
theorem kw_394 : (Jvm.Cond.instanceMethod ({ cls := "LackFerry$Tokens", name := "clear", desc := "()V" } : Jvm.MethodName)) ∈ ab_G := ab_g 394 rfl rfl
set_option maxRecDepth 100000 in
theorem kw_395 : (Jvm.Cond.selects "LackFerry$Tokens" ({ cls := "LackFerry$Tokens", name := "clear", desc := "()V" } : Jvm.MethodName) ({ cls := "LackFerry$Tokens", name := "clear", desc := "()V" } : Jvm.MethodName)) ∈ ab_G := ab_g 395 rfl rfl
set_option maxRecDepth 100000 in
theorem kw_396 : (Jvm.Cond.code ({ cls := "LackFerry$Tokens", name := "clear", desc := "()V" } : Jvm.MethodName) prog_11_method_2_code (1 : Nat) (Option.none : Option Jvm.ClassFile.FieldType)) ∈ ab_G := ab_g 396 rfl rfl
set_option maxRecDepth 100000 in
theorem kw_397 : (Jvm.Cond.methodLink "LackFerry$Tape" (27 : Nat) ({ cls := "LackFerry$Tape", name := "skipBlanks", desc := "()V" } : Jvm.MethodName)) ∈ ab_G := ab_g 397 rfl rfl
set_option maxRecDepth 100000 in
theorem kw_399 : (Jvm.Cond.instanceMethod ({ cls := "LackFerry$Tape", name := "skipBlanks", desc := "()V" } : Jvm.MethodName)) ∈ ab_G := ab_g 399 rfl rfl
set_option maxRecDepth 100000 in
theorem kw_400 : (Jvm.Cond.code ({ cls := "LackFerry$Tape", name := "skipBlanks", desc := "()V" } : Jvm.MethodName) prog_10_method_5_code (1 : Nat) (Option.none : Option Jvm.ClassFile.FieldType)) ∈ ab_G := ab_g 400 rfl rfl
set_option maxRecDepth 100000 in
theorem kw_401 : (Jvm.Cond.methodLink "LackFerry$Tape" (44 : Nat) ({ cls := "LackFerry$Tape", name := "valueAt", desc := "(I)I" } : Jvm.MethodName)) ∈ ab_G := ab_g 401 rfl rfl
set_option maxRecDepth 100000 in
theorem kw_402 : (Jvm.Cond.instanceMethod ({ cls := "LackFerry$Tape", name := "valueAt", desc := "(I)I" } : Jvm.MethodName)) ∈ ab_G := ab_g 402 rfl rfl
set_option maxRecDepth 100000 in
theorem kw_403 : (Jvm.Cond.selects "LackFerry$Tape" ({ cls := "LackFerry$Tape", name := "valueAt", desc := "(I)I" } : Jvm.MethodName) ({ cls := "LackFerry$Tape", name := "valueAt", desc := "(I)I" } : Jvm.MethodName)) ∈ ab_G := ab_g 403 rfl rfl
set_option maxRecDepth 100000 in
theorem kw_404 : (Jvm.Cond.code ({ cls := "LackFerry$Tape", name := "valueAt", desc := "(I)I" } : Jvm.MethodName) prog_10_method_3_code (2 : Nat) (Option.some Jvm.ClassFile.FieldType.int)) ∈ ab_G := ab_g 404 rfl rfl
set_option maxRecDepth 100000 in
theorem kw_405 : (Jvm.Cond.methodLink "LackFerry$Tape" (30 : Nat) ({ cls := "LackFerry$Tape", name := "cutToken", desc := "(LLackFerry$Tokens;)I" } : Jvm.MethodName)) ∈ ab_G := ab_g 405 rfl rfl
set_option maxRecDepth 100000 in
theorem kw_407 : (Jvm.Cond.instanceMethod ({ cls := "LackFerry$Tape", name := "cutToken", desc := "(LLackFerry$Tokens;)I" } : Jvm.MethodName)) ∈ ab_G := ab_g 407 rfl rfl
set_option maxRecDepth 100000 in
theorem kw_408 : (Jvm.Cond.code ({ cls := "LackFerry$Tape", name := "cutToken", desc := "(LLackFerry$Tokens;)I" } : Jvm.MethodName) prog_10_method_6_code (4 : Nat) (Option.some Jvm.ClassFile.FieldType.int)) ∈ ab_G := ab_g 408 rfl rfl
set_option maxRecDepth 100000 in
theorem kw_409 : (Jvm.Cond.methodLink "LackFerry$Tape" (48 : Nat) ({ cls := "LackFerry$Tape", name := "isLetter", desc := "(I)Z" } : Jvm.MethodName)) ∈ ab_G := ab_g 409 rfl rfl
set_option maxRecDepth 100000 in
theorem kw_410 : (Jvm.Cond.static ({ cls := "LackFerry$Tape", name := "isLetter", desc := "(I)Z" } : Jvm.MethodName)) ∈ ab_G := ab_g 410 rfl rfl
set_option maxRecDepth 100000 in
theorem kw_411 : (Jvm.Cond.code ({ cls := "LackFerry$Tape", name := "isLetter", desc := "(I)Z" } : Jvm.MethodName) prog_10_method_10_code (1 : Nat) (Option.some Jvm.ClassFile.FieldType.boolean)) ∈ ab_G := ab_g 411 rfl rfl
set_option maxRecDepth 100000 in
theorem kw_412 : (Jvm.Cond.methodLink "LackFerry$Tape" (52 : Nat) ({ cls := "LackFerry$Tape", name := "isDigit", desc := "(I)Z" } : Jvm.MethodName)) ∈ ab_G := ab_g 412 rfl rfl
set_option maxRecDepth 100000 in
theorem kw_413 : (Jvm.Cond.static ({ cls := "LackFerry$Tape", name := "isDigit", desc := "(I)Z" } : Jvm.MethodName)) ∈ ab_G := ab_g 413 rfl rfl
set_option maxRecDepth 100000 in
theorem kw_414 : (Jvm.Cond.code ({ cls := "LackFerry$Tape", name := "isDigit", desc := "(I)Z" } : Jvm.MethodName) prog_10_method_11_code (1 : Nat) (Option.some Jvm.ClassFile.FieldType.boolean)) ∈ ab_G := ab_g 414 rfl rfl
set_option maxRecDepth 100000 in
theorem kw_415 : (Jvm.Cond.methodLink "LackFerry$Tape" (55 : Nat) ({ cls := "LackFerry$Tape", name := "cutRun", desc := "(LLackFerry$Tokens;)I" } : Jvm.MethodName)) ∈ ab_G := ab_g 415 rfl rfl
set_option maxRecDepth 100000 in
theorem kw_417 : (Jvm.Cond.instanceMethod ({ cls := "LackFerry$Tape", name := "cutRun", desc := "(LLackFerry$Tokens;)I" } : Jvm.MethodName)) ∈ ab_G := ab_g 417 rfl rfl
set_option maxRecDepth 100000 in
theorem kw_418 : (Jvm.Cond.code ({ cls := "LackFerry$Tape", name := "cutRun", desc := "(LLackFerry$Tokens;)I" } : Jvm.MethodName) prog_10_method_7_code (9 : Nat) (Option.some Jvm.ClassFile.FieldType.int)) ∈ ab_G := ab_g 418 rfl rfl
set_option maxRecDepth 100000 in
theorem kw_419 : (Jvm.Cond.constantLong "LackFerry$Tape" (61 : Nat) (32 : Int64)) ∈ ab_G := ab_g 419 rfl rfl
set_option maxRecDepth 100000 in
theorem kw_420 : (Jvm.Cond.constantLong "LackFerry$Tape" (63 : Nat) (97 : Int64)) ∈ ab_G := ab_g 420 rfl rfl
set_option maxRecDepth 100000 in
theorem kw_421 : (Jvm.Cond.methodLink "LackFerry$Tape" (65 : Nat) ({ cls := "LackFerry$Tape", name := "kindOfWord", desc := "(II)I" } : Jvm.MethodName)) ∈ ab_G := ab_g 421 rfl rfl
set_option maxRecDepth 100000 in
theorem kw_423 : (Jvm.Cond.instanceMethod ({ cls := "LackFerry$Tape", name := "kindOfWord", desc := "(II)I" } : Jvm.MethodName)) ∈ ab_G := ab_g 423 rfl rfl
set_option maxRecDepth 100000 in
theorem kw_424 : (Jvm.Cond.code ({ cls := "LackFerry$Tape", name := "kindOfWord", desc := "(II)I" } : Jvm.MethodName) prog_10_method_8_code (4 : Nat) (Option.some Jvm.ClassFile.FieldType.int)) ∈ ab_G := ab_g 424 rfl rfl
set_option maxRecDepth 100000 in
theorem kw_425 : (Jvm.Cond.methodLink "LackFerry$Tape" (68 : Nat) ({ cls := "LackFerry$Tape", name := "isToldWord", desc := "(III)Z" } : Jvm.MethodName)) ∈ ab_G := ab_g 425 rfl rfl
set_option maxRecDepth 100000 in
theorem kw_427 : (Jvm.Cond.instanceMethod ({ cls := "LackFerry$Tape", name := "isToldWord", desc := "(III)Z" } : Jvm.MethodName)) ∈ ab_G := ab_g 427 rfl rfl
set_option maxRecDepth 100000 in
theorem kw_428 : (Jvm.Cond.code ({ cls := "LackFerry$Tape", name := "isToldWord", desc := "(III)Z" } : Jvm.MethodName) prog_10_method_9_code (7 : Nat) (Option.some Jvm.ClassFile.FieldType.boolean)) ∈ ab_G := ab_g 428 rfl rfl
set_option maxRecDepth 100000 in
theorem kw_478 : (Jvm.Cond.methodLink "LackFerry$Tape" (40 : Nat) ({ cls := "LackFerry$Tokens", name := "add", desc := "(IIJ)V" } : Jvm.MethodName)) ∈ ab_G := ab_g 478 rfl rfl
set_option maxRecDepth 100000 in
theorem kw_479 : (Jvm.Cond.instanceMethod ({ cls := "LackFerry$Tokens", name := "add", desc := "(IIJ)V" } : Jvm.MethodName)) ∈ ab_G := ab_g 479 rfl rfl
set_option maxRecDepth 100000 in
theorem kw_480 : (Jvm.Cond.selects "LackFerry$Tokens" ({ cls := "LackFerry$Tokens", name := "add", desc := "(IIJ)V" } : Jvm.MethodName) ({ cls := "LackFerry$Tokens", name := "add", desc := "(IIJ)V" } : Jvm.MethodName)) ∈ ab_G := ab_g 480 rfl rfl
set_option maxRecDepth 100000 in
theorem kw_481 : (Jvm.Cond.code ({ cls := "LackFerry$Tokens", name := "add", desc := "(IIJ)V" } : Jvm.MethodName) prog_11_method_3_code (5 : Nat) (Option.none : Option Jvm.ClassFile.FieldType)) ∈ ab_G := ab_g 481 rfl rfl
set_option maxRecDepth 100000 in
theorem kw_482 : (Jvm.Cond.methodLink "LackFerry$Tape" (58 : Nat) ({ cls := "LackFerry$Tape", name := "isSign", desc := "(I)Z" } : Jvm.MethodName)) ∈ ab_G := ab_g 482 rfl rfl
set_option maxRecDepth 100000 in
theorem kw_483 : (Jvm.Cond.static ({ cls := "LackFerry$Tape", name := "isSign", desc := "(I)Z" } : Jvm.MethodName)) ∈ ab_G := ab_g 483 rfl rfl
set_option maxRecDepth 100000 in
theorem kw_484 : (Jvm.Cond.code ({ cls := "LackFerry$Tape", name := "isSign", desc := "(I)Z" } : Jvm.MethodName) prog_10_method_12_code (1 : Nat) (Option.some Jvm.ClassFile.FieldType.boolean)) ∈ ab_G := ab_g 484 rfl rfl
set_option maxRecDepth 100000 in
theorem kw_485 : (Jvm.Cond.methodLink "LackFerry$Tape" (34 : Nat) ({ cls := "java/lang/Math", name := "min", desc := "(II)I" } : Jvm.MethodName)) ∈ ab_G := ab_g 485 rfl rfl
set_option maxRecDepth 100000 in
theorem kw_486 : (Jvm.Cond.static ({ cls := "java/lang/Math", name := "min", desc := "(II)I" } : Jvm.MethodName)) ∈ ab_G := ab_g 486 rfl rfl
set_option maxRecDepth 100000 in
theorem kw_487 : (Jvm.Cond.code ({ cls := "java/lang/Math", name := "min", desc := "(II)I" } : Jvm.MethodName) prog_19_method_69_code (2 : Nat) (Option.some Jvm.ClassFile.FieldType.int)) ∈ ab_G := ab_g 487 rfl rfl
set_option maxRecDepth 100000 in
theorem kw_488 : (Jvm.Cond.methodLink "LackFerry" (112 : Nat) ({ cls := "LackFerry$Strait", name := "readText", desc := "(LLackFerry$Tokens;)I" } : Jvm.MethodName)) ∈ ab_G := ab_g 488 rfl rfl
set_option maxRecDepth 100000 in
theorem kw_489 : (Jvm.Cond.instanceMethod ({ cls := "LackFerry$Strait", name := "readText", desc := "(LLackFerry$Tokens;)I" } : Jvm.MethodName)) ∈ ab_G := ab_g 489 rfl rfl
set_option maxRecDepth 100000 in
theorem kw_490 : (Jvm.Cond.selects "LackFerry$Strait" ({ cls := "LackFerry$Strait", name := "readText", desc := "(LLackFerry$Tokens;)I" } : Jvm.MethodName) ({ cls := "LackFerry$Strait", name := "readText", desc := "(LLackFerry$Tokens;)I" } : Jvm.MethodName)) ∈ ab_G := ab_g 490 rfl rfl
set_option maxRecDepth 100000 in
theorem kw_491 : (Jvm.Cond.code ({ cls := "LackFerry$Strait", name := "readText", desc := "(LLackFerry$Tokens;)I" } : Jvm.MethodName) prog_9_method_9_code (3 : Nat) (Option.some Jvm.ClassFile.FieldType.int)) ∈ ab_G := ab_g 491 rfl rfl
set_option maxRecDepth 100000 in
theorem kw_492 : (Jvm.Cond.methodLink "LackFerry$Strait" (73 : Nat) ({ cls := "LackFerry$Strait", name := "clear", desc := "()V" } : Jvm.MethodName)) ∈ ab_G := ab_g 492 rfl rfl
set_option maxRecDepth 100000 in
theorem kw_494 : (Jvm.Cond.instanceMethod ({ cls := "LackFerry$Strait", name := "clear", desc := "()V" } : Jvm.MethodName)) ∈ ab_G := ab_g 494 rfl rfl
set_option maxRecDepth 100000 in
theorem kw_495 : (Jvm.Cond.code ({ cls := "LackFerry$Strait", name := "clear", desc := "()V" } : Jvm.MethodName) prog_9_method_6_code (2 : Nat) (Option.none : Option Jvm.ClassFile.FieldType)) ∈ ab_G := ab_g 495 rfl rfl
set_option maxRecDepth 100000 in
theorem kw_496 : (Jvm.Cond.methodLink "LackFerry$Strait" (76 : Nat) ({ cls := "LackFerry$Tokens", name := "step", desc := "()V" } : Jvm.MethodName)) ∈ ab_G := ab_g 496 rfl rfl
set_option maxRecDepth 100000 in
theorem kw_497 : (Jvm.Cond.instanceMethod ({ cls := "LackFerry$Tokens", name := "step", desc := "()V" } : Jvm.MethodName)) ∈ ab_G := ab_g 497 rfl rfl
set_option maxRecDepth 100000 in
theorem kw_498 : (Jvm.Cond.selects "LackFerry$Tokens" ({ cls := "LackFerry$Tokens", name := "step", desc := "()V" } : Jvm.MethodName) ({ cls := "LackFerry$Tokens", name := "step", desc := "()V" } : Jvm.MethodName)) ∈ ab_G := ab_g 498 rfl rfl
set_option maxRecDepth 100000 in
theorem kw_499 : (Jvm.Cond.code ({ cls := "LackFerry$Tokens", name := "step", desc := "()V" } : Jvm.MethodName) prog_11_method_5_code (1 : Nat) (Option.none : Option Jvm.ClassFile.FieldType)) ∈ ab_G := ab_g 499 rfl rfl
set_option maxRecDepth 100000 in
theorem kw_500 : (Jvm.Cond.methodLink "LackFerry$Strait" (84 : Nat) ({ cls := "LackFerry$Strait", name := "readLine", desc := "(LLackFerry$Tokens;)Z" } : Jvm.MethodName)) ∈ ab_G := ab_g 500 rfl rfl
set_option maxRecDepth 100000 in
theorem kw_502 : (Jvm.Cond.instanceMethod ({ cls := "LackFerry$Strait", name := "readLine", desc := "(LLackFerry$Tokens;)Z" } : Jvm.MethodName)) ∈ ab_G := ab_g 502 rfl rfl
set_option maxRecDepth 100000 in
theorem kw_503 : (Jvm.Cond.code ({ cls := "LackFerry$Strait", name := "readLine", desc := "(LLackFerry$Tokens;)Z" } : Jvm.MethodName) prog_9_method_10_code (2 : Nat) (Option.some Jvm.ClassFile.FieldType.boolean)) ∈ ab_G := ab_g 503 rfl rfl
set_option maxRecDepth 100000 in
theorem kw_504 : (Jvm.Cond.methodLink "LackFerry$Strait" (92 : Nat) ({ cls := "LackFerry$Strait", name := "readAmount", desc := "(LLackFerry$Tokens;I)Z" } : Jvm.MethodName)) ∈ ab_G := ab_g 504 rfl rfl
set_option maxRecDepth 100000 in
theorem kw_506 : (Jvm.Cond.instanceMethod ({ cls := "LackFerry$Strait", name := "readAmount", desc := "(LLackFerry$Tokens;I)Z" } : Jvm.MethodName)) ∈ ab_G := ab_g 506 rfl rfl
set_option maxRecDepth 100000 in
theorem kw_507 : (Jvm.Cond.code ({ cls := "LackFerry$Strait", name := "readAmount", desc := "(LLackFerry$Tokens;I)Z" } : Jvm.MethodName) prog_9_method_17_code (6 : Nat) (Option.some Jvm.ClassFile.FieldType.boolean)) ∈ ab_G := ab_g 507 rfl rfl
set_option maxRecDepth 100000 in
theorem kw_508 : (Jvm.Cond.methodLink "LackFerry$Strait" (135 : Nat) ({ cls := "LackFerry$Strait", name := "takeGood", desc := "(LLackFerry$Tokens;)I" } : Jvm.MethodName)) ∈ ab_G := ab_g 508 rfl rfl
set_option maxRecDepth 100000 in
theorem kw_509 : (Jvm.Cond.instanceMethod ({ cls := "LackFerry$Strait", name := "takeGood", desc := "(LLackFerry$Tokens;)I" } : Jvm.MethodName)) ∈ ab_G := ab_g 509 rfl rfl
set_option maxRecDepth 100000 in
theorem kw_510 : (Jvm.Cond.selects "LackFerry$Strait" ({ cls := "LackFerry$Strait", name := "takeGood", desc := "(LLackFerry$Tokens;)I" } : Jvm.MethodName) ({ cls := "LackFerry$Strait", name := "takeGood", desc := "(LLackFerry$Tokens;)I" } : Jvm.MethodName)) ∈ ab_G := ab_g 510 rfl rfl
set_option maxRecDepth 100000 in
theorem kw_511 : (Jvm.Cond.code ({ cls := "LackFerry$Strait", name := "takeGood", desc := "(LLackFerry$Tokens;)I" } : Jvm.MethodName) prog_9_method_15_code (3 : Nat) (Option.some Jvm.ClassFile.FieldType.int)) ∈ ab_G := ab_g 511 rfl rfl
set_option maxRecDepth 100000 in
theorem kw_512 : (Jvm.Cond.methodLink "LackFerry$Strait" (118 : Nat) ({ cls := "LackFerry$Tokens", name := "takeName", desc := "()Z" } : Jvm.MethodName)) ∈ ab_G := ab_g 512 rfl rfl
set_option maxRecDepth 100000 in
theorem kw_513 : (Jvm.Cond.instanceMethod ({ cls := "LackFerry$Tokens", name := "takeName", desc := "()Z" } : Jvm.MethodName)) ∈ ab_G := ab_g 513 rfl rfl
set_option maxRecDepth 100000 in
theorem kw_514 : (Jvm.Cond.selects "LackFerry$Tokens" ({ cls := "LackFerry$Tokens", name := "takeName", desc := "()Z" } : Jvm.MethodName) ({ cls := "LackFerry$Tokens", name := "takeName", desc := "()Z" } : Jvm.MethodName)) ∈ ab_G := ab_g 514 rfl rfl
set_option maxRecDepth 100000 in
theorem kw_515 : (Jvm.Cond.code ({ cls := "LackFerry$Tokens", name := "takeName", desc := "()Z" } : Jvm.MethodName) prog_11_method_8_code (1 : Nat) (Option.some Jvm.ClassFile.FieldType.boolean)) ∈ ab_G := ab_g 515 rfl rfl
set_option maxRecDepth 100000 in
theorem kw_516 : (Jvm.Cond.methodLink "LackFerry$Tokens" (45 : Nat) ({ cls := "LackFerry$Tokens", name := "step", desc := "()V" } : Jvm.MethodName)) ∈ ab_G := ab_g 516 rfl rfl
set_option maxRecDepth 100000 in
theorem kw_517 : (Jvm.Cond.methodLink "LackFerry$Tokens" (48 : Nat) ({ cls := "LackFerry$Tokens", name := "fail", desc := "(I)Z" } : Jvm.MethodName)) ∈ ab_G := ab_g 517 rfl rfl
set_option maxRecDepth 100000 in
theorem kw_518 : (Jvm.Cond.instanceMethod ({ cls := "LackFerry$Tokens", name := "fail", desc := "(I)Z" } : Jvm.MethodName)) ∈ ab_G := ab_g 518 rfl rfl
set_option maxRecDepth 100000 in
theorem kw_519 : (Jvm.Cond.selects "LackFerry$Tokens" ({ cls := "LackFerry$Tokens", name := "fail", desc := "(I)Z" } : Jvm.MethodName) ({ cls := "LackFerry$Tokens", name := "fail", desc := "(I)Z" } : Jvm.MethodName)) ∈ ab_G := ab_g 519 rfl rfl
set_option maxRecDepth 100000 in
theorem kw_520 : (Jvm.Cond.code ({ cls := "LackFerry$Tokens", name := "fail", desc := "(I)Z" } : Jvm.MethodName) prog_11_method_4_code (2 : Nat) (Option.some Jvm.ClassFile.FieldType.boolean)) ∈ ab_G := ab_g 520 rfl rfl
set_option maxRecDepth 100000 in
theorem kw_521 : (Jvm.Cond.methodLink "LackFerry$Strait" (125 : Nat) ({ cls := "LackFerry$Strait", name := "goodNamed", desc := "(J)I" } : Jvm.MethodName)) ∈ ab_G := ab_g 521 rfl rfl
set_option maxRecDepth 100000 in
theorem kw_522 : (Jvm.Cond.instanceMethod ({ cls := "LackFerry$Strait", name := "goodNamed", desc := "(J)I" } : Jvm.MethodName)) ∈ ab_G := ab_g 522 rfl rfl
set_option maxRecDepth 100000 in
theorem kw_523 : (Jvm.Cond.selects "LackFerry$Strait" ({ cls := "LackFerry$Strait", name := "goodNamed", desc := "(J)I" } : Jvm.MethodName) ({ cls := "LackFerry$Strait", name := "goodNamed", desc := "(J)I" } : Jvm.MethodName)) ∈ ab_G := ab_g 523 rfl rfl
set_option maxRecDepth 100000 in
theorem kw_524 : (Jvm.Cond.code ({ cls := "LackFerry$Strait", name := "goodNamed", desc := "(J)I" } : Jvm.MethodName) prog_9_method_7_code (4 : Nat) (Option.some Jvm.ClassFile.FieldType.int)) ∈ ab_G := ab_g 524 rfl rfl
set_option maxRecDepth 100000 in
theorem kw_525 : (Jvm.Cond.methodLink "LackFerry$Strait" (108 : Nat) ({ cls := "LackFerry$Tokens", name := "fail", desc := "(I)Z" } : Jvm.MethodName)) ∈ ab_G := ab_g 525 rfl rfl
set_option maxRecDepth 100000 in
theorem kw_526 : (Jvm.Cond.methodLink "LackFerry$Strait" (111 : Nat) ({ cls := "LackFerry$Tokens", name := "takeNumber", desc := "(II)Z" } : Jvm.MethodName)) ∈ ab_G := ab_g 526 rfl rfl
set_option maxRecDepth 100000 in
theorem kw_527 : (Jvm.Cond.instanceMethod ({ cls := "LackFerry$Tokens", name := "takeNumber", desc := "(II)Z" } : Jvm.MethodName)) ∈ ab_G := ab_g 527 rfl rfl
set_option maxRecDepth 100000 in
theorem kw_528 : (Jvm.Cond.selects "LackFerry$Tokens" ({ cls := "LackFerry$Tokens", name := "takeNumber", desc := "(II)Z" } : Jvm.MethodName) ({ cls := "LackFerry$Tokens", name := "takeNumber", desc := "(II)Z" } : Jvm.MethodName)) ∈ ab_G := ab_g 528 rfl rfl
set_option maxRecDepth 100000 in
theorem kw_529 : (Jvm.Cond.code ({ cls := "LackFerry$Tokens", name := "takeNumber", desc := "(II)Z" } : Jvm.MethodName) prog_11_method_7_code (3 : Nat) (Option.some Jvm.ClassFile.FieldType.boolean)) ∈ ab_G := ab_g 529 rfl rfl
set_option maxRecDepth 100000 in
theorem kw_531 : (Jvm.Cond.static ({ cls := "LackFerry", name := "slotOf", desc := "(II)I" } : Jvm.MethodName)) ∈ ab_G := ab_g 531 rfl rfl
set_option maxRecDepth 100000 in
theorem kw_532 : (Jvm.Cond.code ({ cls := "LackFerry", name := "slotOf", desc := "(II)I" } : Jvm.MethodName) prog_1_method_12_code (2 : Nat) (Option.some Jvm.ClassFile.FieldType.int)) ∈ ab_G := ab_g 532 rfl rfl
set_option maxRecDepth 100000 in
theorem kw_533 : (Jvm.Cond.methodLink "LackFerry$Strait" (96 : Nat) ({ cls := "LackFerry$Strait", name := "readLoad", desc := "(LLackFerry$Tokens;)Z" } : Jvm.MethodName)) ∈ ab_G := ab_g 533 rfl rfl
set_option maxRecDepth 100000 in
theorem kw_535 : (Jvm.Cond.instanceMethod ({ cls := "LackFerry$Strait", name := "readLoad", desc := "(LLackFerry$Tokens;)Z" } : Jvm.MethodName)) ∈ ab_G := ab_g 535 rfl rfl
set_option maxRecDepth 100000 in
theorem kw_536 : (Jvm.Cond.code ({ cls := "LackFerry$Strait", name := "readLoad", desc := "(LLackFerry$Tokens;)Z" } : Jvm.MethodName) prog_9_method_11_code (2 : Nat) (Option.some Jvm.ClassFile.FieldType.boolean)) ∈ ab_G := ab_g 536 rfl rfl
set_option maxRecDepth 100000 in
theorem kw_537 : (Jvm.Cond.methodLink "LackFerry$Strait" (99 : Nat) ({ cls := "LackFerry$Strait", name := "readGood", desc := "(LLackFerry$Tokens;)Z" } : Jvm.MethodName)) ∈ ab_G := ab_g 537 rfl rfl
set_option maxRecDepth 100000 in
theorem kw_539 : (Jvm.Cond.instanceMethod ({ cls := "LackFerry$Strait", name := "readGood", desc := "(LLackFerry$Tokens;)Z" } : Jvm.MethodName)) ∈ ab_G := ab_g 539 rfl rfl
set_option maxRecDepth 100000 in
theorem kw_540 : (Jvm.Cond.code ({ cls := "LackFerry$Strait", name := "readGood", desc := "(LLackFerry$Tokens;)Z" } : Jvm.MethodName) prog_9_method_13_code (2 : Nat) (Option.some Jvm.ClassFile.FieldType.boolean)) ∈ ab_G := ab_g 540 rfl rfl
set_option maxRecDepth 100000 in
theorem kw_541 : (Jvm.Cond.methodLink "LackFerry$Strait" (132 : Nat) ({ cls := "LackFerry$Strait", name := "takeNewName", desc := "(LLackFerry$Tokens;)Z" } : Jvm.MethodName)) ∈ ab_G := ab_g 541 rfl rfl
set_option maxRecDepth 100000 in
theorem kw_543 : (Jvm.Cond.instanceMethod ({ cls := "LackFerry$Strait", name := "takeNewName", desc := "(LLackFerry$Tokens;)Z" } : Jvm.MethodName)) ∈ ab_G := ab_g 543 rfl rfl
set_option maxRecDepth 100000 in
theorem kw_544 : (Jvm.Cond.code ({ cls := "LackFerry$Strait", name := "takeNewName", desc := "(LLackFerry$Tokens;)Z" } : Jvm.MethodName) prog_9_method_12_code (3 : Nat) (Option.some Jvm.ClassFile.FieldType.boolean)) ∈ ab_G := ab_g 544 rfl rfl
set_option maxRecDepth 100000 in
theorem kw_545 : (Jvm.Cond.methodLink "LackFerry$Strait" (129 : Nat) ({ cls := "LackFerry$Strait", name := "manNamed", desc := "(J)I" } : Jvm.MethodName)) ∈ ab_G := ab_g 545 rfl rfl
set_option maxRecDepth 100000 in
theorem kw_546 : (Jvm.Cond.instanceMethod ({ cls := "LackFerry$Strait", name := "manNamed", desc := "(J)I" } : Jvm.MethodName)) ∈ ab_G := ab_g 546 rfl rfl
set_option maxRecDepth 100000 in
theorem kw_547 : (Jvm.Cond.selects "LackFerry$Strait" ({ cls := "LackFerry$Strait", name := "manNamed", desc := "(J)I" } : Jvm.MethodName) ({ cls := "LackFerry$Strait", name := "manNamed", desc := "(J)I" } : Jvm.MethodName)) ∈ ab_G := ab_g 547 rfl rfl
set_option maxRecDepth 100000 in
theorem kw_548 : (Jvm.Cond.code ({ cls := "LackFerry$Strait", name := "manNamed", desc := "(J)I" } : Jvm.MethodName) prog_9_method_8_code (4 : Nat) (Option.some Jvm.ClassFile.FieldType.int)) ∈ ab_G := ab_g 548 rfl rfl
set_option maxRecDepth 100000 in
theorem kw_549 : (Jvm.Cond.methodLink "LackFerry$Strait" (102 : Nat) ({ cls := "LackFerry$Strait", name := "readMan", desc := "(LLackFerry$Tokens;)Z" } : Jvm.MethodName)) ∈ ab_G := ab_g 549 rfl rfl
set_option maxRecDepth 100000 in
theorem kw_551 : (Jvm.Cond.instanceMethod ({ cls := "LackFerry$Strait", name := "readMan", desc := "(LLackFerry$Tokens;)Z" } : Jvm.MethodName)) ∈ ab_G := ab_g 551 rfl rfl
set_option maxRecDepth 100000 in
theorem kw_552 : (Jvm.Cond.code ({ cls := "LackFerry$Strait", name := "readMan", desc := "(LLackFerry$Tokens;)Z" } : Jvm.MethodName) prog_9_method_14_code (4 : Nat) (Option.some Jvm.ClassFile.FieldType.boolean)) ∈ ab_G := ab_g 552 rfl rfl
set_option maxRecDepth 100000 in
theorem kw_553 : (Jvm.Cond.methodLink "LackFerry$Strait" (105 : Nat) ({ cls := "LackFerry$Strait", name := "readMisses", desc := "(LLackFerry$Tokens;)Z" } : Jvm.MethodName)) ∈ ab_G := ab_g 553 rfl rfl
set_option maxRecDepth 100000 in
theorem kw_555 : (Jvm.Cond.instanceMethod ({ cls := "LackFerry$Strait", name := "readMisses", desc := "(LLackFerry$Tokens;)Z" } : Jvm.MethodName)) ∈ ab_G := ab_g 555 rfl rfl
set_option maxRecDepth 100000 in
theorem kw_556 : (Jvm.Cond.code ({ cls := "LackFerry$Strait", name := "readMisses", desc := "(LLackFerry$Tokens;)Z" } : Jvm.MethodName) prog_9_method_18_code (4 : Nat) (Option.some Jvm.ClassFile.FieldType.boolean)) ∈ ab_G := ab_g 556 rfl rfl
set_option maxRecDepth 100000 in
theorem kw_557 : (Jvm.Cond.methodLink "LackFerry$Strait" (142 : Nat) ({ cls := "LackFerry$Strait", name := "takeMan", desc := "(LLackFerry$Tokens;)I" } : Jvm.MethodName)) ∈ ab_G := ab_g 557 rfl rfl
set_option maxRecDepth 100000 in
theorem kw_559 : (Jvm.Cond.instanceMethod ({ cls := "LackFerry$Strait", name := "takeMan", desc := "(LLackFerry$Tokens;)I" } : Jvm.MethodName)) ∈ ab_G := ab_g 559 rfl rfl
set_option maxRecDepth 100000 in
theorem kw_560 : (Jvm.Cond.code ({ cls := "LackFerry$Strait", name := "takeMan", desc := "(LLackFerry$Tokens;)I" } : Jvm.MethodName) prog_9_method_16_code (3 : Nat) (Option.some Jvm.ClassFile.FieldType.int)) ∈ ab_G := ab_g 560 rfl rfl
set_option maxRecDepth 100000 in
theorem kw_561 : (Jvm.Cond.methodLink "LackFerry$Strait" (145 : Nat) ({ cls := "LackFerry$Strait", name := "isMissTold", desc := "(II)Z" } : Jvm.MethodName)) ∈ ab_G := ab_g 561 rfl rfl
set_option maxRecDepth 100000 in
theorem kw_563 : (Jvm.Cond.instanceMethod ({ cls := "LackFerry$Strait", name := "isMissTold", desc := "(II)Z" } : Jvm.MethodName)) ∈ ab_G := ab_g 563 rfl rfl
set_option maxRecDepth 100000 in
theorem kw_564 : (Jvm.Cond.code ({ cls := "LackFerry$Strait", name := "isMissTold", desc := "(II)Z" } : Jvm.MethodName) prog_9_method_19_code (4 : Nat) (Option.some Jvm.ClassFile.FieldType.boolean)) ∈ ab_G := ab_g 564 rfl rfl
set_option maxRecDepth 100000 in
theorem kw_565 : (Jvm.Cond.methodLink "LackFerry$Strait" (88 : Nat) ({ cls := "LackFerry$Tokens", name := "takeSign", desc := "(I)Z" } : Jvm.MethodName)) ∈ ab_G := ab_g 565 rfl rfl
set_option maxRecDepth 100000 in
theorem kw_566 : (Jvm.Cond.instanceMethod ({ cls := "LackFerry$Tokens", name := "takeSign", desc := "(I)Z" } : Jvm.MethodName)) ∈ ab_G := ab_g 566 rfl rfl
set_option maxRecDepth 100000 in
theorem kw_567 : (Jvm.Cond.selects "LackFerry$Tokens" ({ cls := "LackFerry$Tokens", name := "takeSign", desc := "(I)Z" } : Jvm.MethodName) ({ cls := "LackFerry$Tokens", name := "takeSign", desc := "(I)Z" } : Jvm.MethodName)) ∈ ab_G := ab_g 567 rfl rfl
set_option maxRecDepth 100000 in
theorem kw_568 : (Jvm.Cond.code ({ cls := "LackFerry$Tokens", name := "takeSign", desc := "(I)Z" } : Jvm.MethodName) prog_11_method_6_code (2 : Nat) (Option.some Jvm.ClassFile.FieldType.boolean)) ∈ ab_G := ab_g 568 rfl rfl
set_option maxRecDepth 100000 in
theorem kw_569 : (Jvm.Cond.methodLink "LackFerry" (125 : Nat) ({ cls := "LackFerry$Shores", name := "beginAs", desc := "(LLackFerry$Strait;)V" } : Jvm.MethodName)) ∈ ab_G := ab_g 569 rfl rfl
set_option maxRecDepth 100000 in
theorem kw_570 : (Jvm.Cond.instanceMethod ({ cls := "LackFerry$Shores", name := "beginAs", desc := "(LLackFerry$Strait;)V" } : Jvm.MethodName)) ∈ ab_G := ab_g 570 rfl rfl
set_option maxRecDepth 100000 in
theorem kw_571 : (Jvm.Cond.selects "LackFerry$Shores" ({ cls := "LackFerry$Shores", name := "beginAs", desc := "(LLackFerry$Strait;)V" } : Jvm.MethodName) ({ cls := "LackFerry$Shores", name := "beginAs", desc := "(LLackFerry$Strait;)V" } : Jvm.MethodName)) ∈ ab_G := ab_g 571 rfl rfl
set_option maxRecDepth 100000 in
theorem kw_572 : (Jvm.Cond.code ({ cls := "LackFerry$Shores", name := "beginAs", desc := "(LLackFerry$Strait;)V" } : Jvm.MethodName) prog_8_method_2_code (3 : Nat) (Option.none : Option Jvm.ClassFile.FieldType)) ∈ ab_G := ab_g 572 rfl rfl
set_option maxRecDepth 100000 in
theorem kw_573 : (Jvm.Cond.methodLink "LackFerry$Shores" (33 : Nat) ({ cls := "LackFerry$Strait", name := "amountOf", desc := "(II)I" } : Jvm.MethodName)) ∈ ab_G := ab_g 573 rfl rfl
set_option maxRecDepth 100000 in
theorem kw_574 : (Jvm.Cond.instanceMethod ({ cls := "LackFerry$Strait", name := "amountOf", desc := "(II)I" } : Jvm.MethodName)) ∈ ab_G := ab_g 574 rfl rfl
set_option maxRecDepth 100000 in
theorem kw_575 : (Jvm.Cond.selects "LackFerry$Strait" ({ cls := "LackFerry$Strait", name := "amountOf", desc := "(II)I" } : Jvm.MethodName) ({ cls := "LackFerry$Strait", name := "amountOf", desc := "(II)I" } : Jvm.MethodName)) ∈ ab_G := ab_g 575 rfl rfl
set_option maxRecDepth 100000 in
theorem kw_576 : (Jvm.Cond.code ({ cls := "LackFerry$Strait", name := "amountOf", desc := "(II)I" } : Jvm.MethodName) prog_9_method_2_code (3 : Nat) (Option.some Jvm.ClassFile.FieldType.int)) ∈ ab_G := ab_g 576 rfl rfl
set_option maxRecDepth 100000 in
theorem kw_577 : (Jvm.Cond.methodLink "LackFerry" (133 : Nat) ({ cls := "LackFerry$History", name := "forget", desc := "()V" } : Jvm.MethodName)) ∈ ab_G := ab_g 577 rfl rfl
set_option maxRecDepth 100000 in
theorem kw_578 : (Jvm.Cond.instanceMethod ({ cls := "LackFerry$History", name := "forget", desc := "()V" } : Jvm.MethodName)) ∈ ab_G := ab_g 578 rfl rfl
set_option maxRecDepth 100000 in
theorem kw_579 : (Jvm.Cond.selects "LackFerry$History" ({ cls := "LackFerry$History", name := "forget", desc := "()V" } : Jvm.MethodName) ({ cls := "LackFerry$History", name := "forget", desc := "()V" } : Jvm.MethodName)) ∈ ab_G := ab_g 579 rfl rfl
set_option maxRecDepth 100000 in
theorem kw_580 : (Jvm.Cond.code ({ cls := "LackFerry$History", name := "forget", desc := "()V" } : Jvm.MethodName) prog_4_method_2_code (1 : Nat) (Option.none : Option Jvm.ClassFile.FieldType)) ∈ ab_G := ab_g 580 rfl rfl
set_option maxRecDepth 100000 in
theorem kw_581 : (Jvm.Cond.methodLink "LackFerryLaw" (34 : Nat) ({ cls := "LackFerry", name := "fault", desc := "()I" } : Jvm.MethodName)) ∈ ab_G := ab_g 581 rfl rfl
set_option maxRecDepth 100000 in
theorem kw_582 : (Jvm.Cond.instanceMethod ({ cls := "LackFerry", name := "fault", desc := "()I" } : Jvm.MethodName)) ∈ ab_G := ab_g 582 rfl rfl
set_option maxRecDepth 100000 in
theorem kw_583 : (Jvm.Cond.selects "LackFerry" ({ cls := "LackFerry", name := "fault", desc := "()I" } : Jvm.MethodName) ({ cls := "LackFerry", name := "fault", desc := "()I" } : Jvm.MethodName)) ∈ ab_G := ab_g 583 rfl rfl
set_option maxRecDepth 100000 in
theorem kw_584 : (Jvm.Cond.code ({ cls := "LackFerry", name := "fault", desc := "()I" } : Jvm.MethodName) prog_1_method_5_code (1 : Nat) (Option.some Jvm.ClassFile.FieldType.int)) ∈ ab_G := ab_g 584 rfl rfl
set_option maxRecDepth 100000 in
theorem kw_585 : (Jvm.Cond.methodLink "LackFerryLaw" (38 : Nat) ({ cls := "LackFerry", name := "good", desc := "(III)I" } : Jvm.MethodName)) ∈ ab_G := ab_g 585 rfl rfl
set_option maxRecDepth 100000 in
theorem kw_586 : (Jvm.Cond.instanceMethod ({ cls := "LackFerry", name := "good", desc := "(III)I" } : Jvm.MethodName)) ∈ ab_G := ab_g 586 rfl rfl
set_option maxRecDepth 100000 in
theorem kw_587 : (Jvm.Cond.selects "LackFerry" ({ cls := "LackFerry", name := "good", desc := "(III)I" } : Jvm.MethodName) ({ cls := "LackFerry", name := "good", desc := "(III)I" } : Jvm.MethodName)) ∈ ab_G := ab_g 587 rfl rfl
set_option maxRecDepth 100000 in
theorem kw_588 : (Jvm.Cond.code ({ cls := "LackFerry", name := "good", desc := "(III)I" } : Jvm.MethodName) prog_1_method_13_code (5 : Nat) (Option.some Jvm.ClassFile.FieldType.int)) ∈ ab_G := ab_g 588 rfl rfl
set_option maxRecDepth 100000 in
theorem kw_589 : (Jvm.Cond.methodLink "LackFerry" (155 : Nat) ({ cls := "LackFerry", name := "isSlot", desc := "(II)Z" } : Jvm.MethodName)) ∈ ab_G := ab_g 589 rfl rfl
set_option maxRecDepth 100000 in
theorem kw_591 : (Jvm.Cond.instanceMethod ({ cls := "LackFerry", name := "isSlot", desc := "(II)Z" } : Jvm.MethodName)) ∈ ab_G := ab_g 591 rfl rfl
set_option maxRecDepth 100000 in
theorem kw_592 : (Jvm.Cond.code ({ cls := "LackFerry", name := "isSlot", desc := "(II)Z" } : Jvm.MethodName) prog_1_method_8_code (3 : Nat) (Option.some Jvm.ClassFile.FieldType.boolean)) ∈ ab_G := ab_g 592 rfl rfl
set_option maxRecDepth 100000 in
theorem kw_593 : (Jvm.Cond.methodLink "LackFerry" (139 : Nat) ({ cls := "LackFerry", name := "isGood", desc := "(I)Z" } : Jvm.MethodName)) ∈ ab_G := ab_g 593 rfl rfl
set_option maxRecDepth 100000 in
theorem kw_595 : (Jvm.Cond.instanceMethod ({ cls := "LackFerry", name := "isGood", desc := "(I)Z" } : Jvm.MethodName)) ∈ ab_G := ab_g 595 rfl rfl
set_option maxRecDepth 100000 in
theorem kw_596 : (Jvm.Cond.code ({ cls := "LackFerry", name := "isGood", desc := "(I)Z" } : Jvm.MethodName) prog_1_method_6_code (2 : Nat) (Option.some Jvm.ClassFile.FieldType.boolean)) ∈ ab_G := ab_g 596 rfl rfl
set_option maxRecDepth 100000 in
theorem kw_597 : (Jvm.Cond.methodLink "LackFerry" (143 : Nat) ({ cls := "LackFerry", name := "isShore", desc := "(I)Z" } : Jvm.MethodName)) ∈ ab_G := ab_g 597 rfl rfl
set_option maxRecDepth 100000 in
theorem kw_598 : (Jvm.Cond.static ({ cls := "LackFerry", name := "isShore", desc := "(I)Z" } : Jvm.MethodName)) ∈ ab_G := ab_g 598 rfl rfl
set_option maxRecDepth 100000 in
theorem kw_599 : (Jvm.Cond.code ({ cls := "LackFerry", name := "isShore", desc := "(I)Z" } : Jvm.MethodName) prog_1_method_7_code (1 : Nat) (Option.some Jvm.ClassFile.FieldType.boolean)) ∈ ab_G := ab_g 599 rfl rfl
set_option maxRecDepth 100000 in
theorem kw_600 : (Jvm.Cond.methodLink "LackFerry" (159 : Nat) ({ cls := "LackFerry", name := "slotOf", desc := "(II)I" } : Jvm.MethodName)) ∈ ab_G := ab_g 600 rfl rfl
set_option maxRecDepth 100000 in
theorem kw_601 : (Jvm.Cond.methodLink "LackFerry" (169 : Nat) ({ cls := "LackFerry$Strait", name := "amountOf", desc := "(II)I" } : Jvm.MethodName)) ∈ ab_G := ab_g 601 rfl rfl
set_option maxRecDepth 100000 in
theorem kw_602 : (Jvm.Cond.methodLink "LackFerry" (172 : Nat) ({ cls := "LackFerry$Shores", name := "lackAt", desc := "(LLackFerry$Strait;I)I" } : Jvm.MethodName)) ∈ ab_G := ab_g 602 rfl rfl
set_option maxRecDepth 100000 in
theorem kw_603 : (Jvm.Cond.instanceMethod ({ cls := "LackFerry$Shores", name := "lackAt", desc := "(LLackFerry$Strait;I)I" } : Jvm.MethodName)) ∈ ab_G := ab_g 603 rfl rfl
set_option maxRecDepth 100000 in
theorem kw_604 : (Jvm.Cond.selects "LackFerry$Shores" ({ cls := "LackFerry$Shores", name := "lackAt", desc := "(LLackFerry$Strait;I)I" } : Jvm.MethodName) ({ cls := "LackFerry$Shores", name := "lackAt", desc := "(LLackFerry$Strait;I)I" } : Jvm.MethodName)) ∈ ab_G := ab_g 604 rfl rfl
set_option maxRecDepth 100000 in
theorem kw_605 : (Jvm.Cond.code ({ cls := "LackFerry$Shores", name := "lackAt", desc := "(LLackFerry$Strait;I)I" } : Jvm.MethodName) prog_8_method_6_code (3 : Nat) (Option.some Jvm.ClassFile.FieldType.int)) ∈ ab_G := ab_g 605 rfl rfl
set_option maxRecDepth 100000 in
theorem kw_606 : (Jvm.Cond.methodLink "LackFerry$Shores" (58 : Nat) ({ cls := "java/lang/Math", name := "max", desc := "(II)I" } : Jvm.MethodName)) ∈ ab_G := ab_g 606 rfl rfl
set_option maxRecDepth 100000 in
theorem kw_607 : (Jvm.Cond.static ({ cls := "java/lang/Math", name := "max", desc := "(II)I" } : Jvm.MethodName)) ∈ ab_G := ab_g 607 rfl rfl
set_option maxRecDepth 100000 in
theorem kw_608 : (Jvm.Cond.code ({ cls := "java/lang/Math", name := "max", desc := "(II)I" } : Jvm.MethodName) prog_19_method_65_code (2 : Nat) (Option.some Jvm.ClassFile.FieldType.int)) ∈ ab_G := ab_g 608 rfl rfl
set_option maxRecDepth 100000 in
theorem kw_609 : (Jvm.Cond.methodLink "LackFerry" (176 : Nat) ({ cls := "LackFerry$Shores", name := "isFalse", desc := "(LLackFerry$Strait;I)Z" } : Jvm.MethodName)) ∈ ab_G := ab_g 609 rfl rfl
set_option maxRecDepth 100000 in
theorem kw_610 : (Jvm.Cond.instanceMethod ({ cls := "LackFerry$Shores", name := "isFalse", desc := "(LLackFerry$Strait;I)Z" } : Jvm.MethodName)) ∈ ab_G := ab_g 610 rfl rfl
set_option maxRecDepth 100000 in
theorem kw_611 : (Jvm.Cond.selects "LackFerry$Shores" ({ cls := "LackFerry$Shores", name := "isFalse", desc := "(LLackFerry$Strait;I)Z" } : Jvm.MethodName) ({ cls := "LackFerry$Shores", name := "isFalse", desc := "(LLackFerry$Strait;I)Z" } : Jvm.MethodName)) ∈ ab_G := ab_g 611 rfl rfl
set_option maxRecDepth 100000 in
theorem kw_612 : (Jvm.Cond.code ({ cls := "LackFerry$Shores", name := "isFalse", desc := "(LLackFerry$Strait;I)Z" } : Jvm.MethodName) prog_8_method_7_code (4 : Nat) (Option.some Jvm.ClassFile.FieldType.boolean)) ∈ ab_G := ab_g 612 rfl rfl
set_option maxRecDepth 100000 in
theorem kw_613 : (Jvm.Cond.methodLink "LackFerryLaw" (43 : Nat) ({ cls := "LackFerry", name := "crossed", desc := "(II)I" } : Jvm.MethodName)) ∈ ab_G := ab_g 613 rfl rfl
set_option maxRecDepth 100000 in
theorem kw_614 : (Jvm.Cond.instanceMethod ({ cls := "LackFerry", name := "crossed", desc := "(II)I" } : Jvm.MethodName)) ∈ ab_G := ab_g 614 rfl rfl
set_option maxRecDepth 100000 in
theorem kw_615 : (Jvm.Cond.selects "LackFerry" ({ cls := "LackFerry", name := "crossed", desc := "(II)I" } : Jvm.MethodName) ({ cls := "LackFerry", name := "crossed", desc := "(II)I" } : Jvm.MethodName)) ∈ ab_G := ab_g 615 rfl rfl
set_option maxRecDepth 100000 in
theorem kw_616 : (Jvm.Cond.code ({ cls := "LackFerry", name := "crossed", desc := "(II)I" } : Jvm.MethodName) prog_1_method_14_code (3 : Nat) (Option.some Jvm.ClassFile.FieldType.int)) ∈ ab_G := ab_g 616 rfl rfl
set_option maxRecDepth 100000 in
theorem kw_617 : (Jvm.Cond.methodLink "LackFerryLaw" (56 : Nat) ({ cls := "LackFerry", name := "apart", desc := "(II)I" } : Jvm.MethodName)) ∈ ab_G := ab_g 617 rfl rfl
set_option maxRecDepth 100000 in
theorem kw_618 : (Jvm.Cond.instanceMethod ({ cls := "LackFerry", name := "apart", desc := "(II)I" } : Jvm.MethodName)) ∈ ab_G := ab_g 618 rfl rfl
set_option maxRecDepth 100000 in
theorem kw_619 : (Jvm.Cond.selects "LackFerry" ({ cls := "LackFerry", name := "apart", desc := "(II)I" } : Jvm.MethodName) ({ cls := "LackFerry", name := "apart", desc := "(II)I" } : Jvm.MethodName)) ∈ ab_G := ab_g 619 rfl rfl
set_option maxRecDepth 100000 in
theorem kw_620 : (Jvm.Cond.code ({ cls := "LackFerry", name := "apart", desc := "(II)I" } : Jvm.MethodName) prog_1_method_16_code (3 : Nat) (Option.some Jvm.ClassFile.FieldType.int)) ∈ ab_G := ab_g 620 rfl rfl
set_option maxRecDepth 100000 in
theorem kw_621 : (Jvm.Cond.methodLink "LackFerry" (207 : Nat) ({ cls := "LackFerry", name := "areLivingTwo", desc := "(II)Z" } : Jvm.MethodName)) ∈ ab_G := ab_g 621 rfl rfl
set_option maxRecDepth 100000 in
theorem kw_623 : (Jvm.Cond.instanceMethod ({ cls := "LackFerry", name := "areLivingTwo", desc := "(II)Z" } : Jvm.MethodName)) ∈ ab_G := ab_g 623 rfl rfl
set_option maxRecDepth 100000 in
theorem kw_624 : (Jvm.Cond.code ({ cls := "LackFerry", name := "areLivingTwo", desc := "(II)Z" } : Jvm.MethodName) prog_1_method_10_code (3 : Nat) (Option.some Jvm.ClassFile.FieldType.boolean)) ∈ ab_G := ab_g 624 rfl rfl
set_option maxRecDepth 100000 in
theorem kw_625 : (Jvm.Cond.methodLink "LackFerry" (149 : Nat) ({ cls := "LackFerry", name := "isMan", desc := "(I)Z" } : Jvm.MethodName)) ∈ ab_G := ab_g 625 rfl rfl
set_option maxRecDepth 100000 in
theorem kw_627 : (Jvm.Cond.instanceMethod ({ cls := "LackFerry", name := "isMan", desc := "(I)Z" } : Jvm.MethodName)) ∈ ab_G := ab_g 627 rfl rfl
set_option maxRecDepth 100000 in
theorem kw_628 : (Jvm.Cond.code ({ cls := "LackFerry", name := "isMan", desc := "(I)Z" } : Jvm.MethodName) prog_1_method_9_code (2 : Nat) (Option.some Jvm.ClassFile.FieldType.boolean)) ∈ ab_G := ab_g 628 rfl rfl
set_option maxRecDepth 100000 in
theorem kw_629 : (Jvm.Cond.methodLink "LackFerry" (152 : Nat) ({ cls := "LackFerry$Shores", name := "isAlive", desc := "(I)Z" } : Jvm.MethodName)) ∈ ab_G := ab_g 629 rfl rfl
set_option maxRecDepth 100000 in
theorem kw_630 : (Jvm.Cond.instanceMethod ({ cls := "LackFerry$Shores", name := "isAlive", desc := "(I)Z" } : Jvm.MethodName)) ∈ ab_G := ab_g 630 rfl rfl
set_option maxRecDepth 100000 in
theorem kw_631 : (Jvm.Cond.selects "LackFerry$Shores" ({ cls := "LackFerry$Shores", name := "isAlive", desc := "(I)Z" } : Jvm.MethodName) ({ cls := "LackFerry$Shores", name := "isAlive", desc := "(I)Z" } : Jvm.MethodName)) ∈ ab_G := ab_g 631 rfl rfl
set_option maxRecDepth 100000 in
theorem kw_632 : (Jvm.Cond.code ({ cls := "LackFerry$Shores", name := "isAlive", desc := "(I)Z" } : Jvm.MethodName) prog_8_method_9_code (2 : Nat) (Option.some Jvm.ClassFile.FieldType.boolean)) ∈ ab_G := ab_g 632 rfl rfl
set_option maxRecDepth 100000 in
theorem kw_633 : (Jvm.Cond.methodLink "LackFerry" (210 : Nat) ({ cls := "LackFerry$Shores", name := "apartOf", desc := "(II)I" } : Jvm.MethodName)) ∈ ab_G := ab_g 633 rfl rfl
set_option maxRecDepth 100000 in
theorem kw_634 : (Jvm.Cond.instanceMethod ({ cls := "LackFerry$Shores", name := "apartOf", desc := "(II)I" } : Jvm.MethodName)) ∈ ab_G := ab_g 634 rfl rfl
set_option maxRecDepth 100000 in
theorem kw_635 : (Jvm.Cond.selects "LackFerry$Shores" ({ cls := "LackFerry$Shores", name := "apartOf", desc := "(II)I" } : Jvm.MethodName) ({ cls := "LackFerry$Shores", name := "apartOf", desc := "(II)I" } : Jvm.MethodName)) ∈ ab_G := ab_g 635 rfl rfl
set_option maxRecDepth 100000 in
theorem kw_636 : (Jvm.Cond.code ({ cls := "LackFerry$Shores", name := "apartOf", desc := "(II)I" } : Jvm.MethodName) prog_8_method_11_code (3 : Nat) (Option.some Jvm.ClassFile.FieldType.int)) ∈ ab_G := ab_g 636 rfl rfl
set_option maxRecDepth 100000 in
theorem kw_637 : (Jvm.Cond.methodLink "LackFerryLaw" (60 : Nat) ({ cls := "LackFerry", name := "now", desc := "(I)I" } : Jvm.MethodName)) ∈ ab_G := ab_g 637 rfl rfl
set_option maxRecDepth 100000 in
theorem kw_638 : (Jvm.Cond.instanceMethod ({ cls := "LackFerry", name := "now", desc := "(I)I" } : Jvm.MethodName)) ∈ ab_G := ab_g 638 rfl rfl
set_option maxRecDepth 100000 in
theorem kw_639 : (Jvm.Cond.selects "LackFerry" ({ cls := "LackFerry", name := "now", desc := "(I)I" } : Jvm.MethodName) ({ cls := "LackFerry", name := "now", desc := "(I)I" } : Jvm.MethodName)) ∈ ab_G := ab_g 639 rfl rfl
set_option maxRecDepth 100000 in
theorem kw_640 : (Jvm.Cond.code ({ cls := "LackFerry", name := "now", desc := "(I)I" } : Jvm.MethodName) prog_1_method_17_code (2 : Nat) (Option.some Jvm.ClassFile.FieldType.int)) ∈ ab_G := ab_g 640 rfl rfl
set_option maxRecDepth 100000 in
theorem kw_641 : (Jvm.Cond.methodLink "LackFerry" (216 : Nat) ({ cls := "LackFerry$Shores", name := "ferryShore", desc := "()I" } : Jvm.MethodName)) ∈ ab_G := ab_g 641 rfl rfl
set_option maxRecDepth 100000 in
theorem kw_642 : (Jvm.Cond.instanceMethod ({ cls := "LackFerry$Shores", name := "ferryShore", desc := "()I" } : Jvm.MethodName)) ∈ ab_G := ab_g 642 rfl rfl
set_option maxRecDepth 100000 in
theorem kw_643 : (Jvm.Cond.selects "LackFerry$Shores" ({ cls := "LackFerry$Shores", name := "ferryShore", desc := "()I" } : Jvm.MethodName) ({ cls := "LackFerry$Shores", name := "ferryShore", desc := "()I" } : Jvm.MethodName)) ∈ ab_G := ab_g 643 rfl rfl
set_option maxRecDepth 100000 in
theorem kw_644 : (Jvm.Cond.code ({ cls := "LackFerry$Shores", name := "ferryShore", desc := "()I" } : Jvm.MethodName) prog_8_method_5_code (1 : Nat) (Option.some Jvm.ClassFile.FieldType.int)) ∈ ab_G := ab_g 644 rfl rfl
set_option maxRecDepth 100000 in
theorem kw_645 : (Jvm.Cond.methodLink "LackFerry" (220 : Nat) ({ cls := "LackFerry$Shores", name := "menOn", desc := "(LLackFerry$Strait;I)I" } : Jvm.MethodName)) ∈ ab_G := ab_g 645 rfl rfl
set_option maxRecDepth 100000 in
theorem kw_646 : (Jvm.Cond.instanceMethod ({ cls := "LackFerry$Shores", name := "menOn", desc := "(LLackFerry$Strait;I)I" } : Jvm.MethodName)) ∈ ab_G := ab_g 646 rfl rfl
set_option maxRecDepth 100000 in
theorem kw_647 : (Jvm.Cond.selects "LackFerry$Shores" ({ cls := "LackFerry$Shores", name := "menOn", desc := "(LLackFerry$Strait;I)I" } : Jvm.MethodName) ({ cls := "LackFerry$Shores", name := "menOn", desc := "(LLackFerry$Strait;I)I" } : Jvm.MethodName)) ∈ ab_G := ab_g 647 rfl rfl
set_option maxRecDepth 100000 in
theorem kw_648 : (Jvm.Cond.code ({ cls := "LackFerry$Shores", name := "menOn", desc := "(LLackFerry$Strait;I)I" } : Jvm.MethodName) prog_8_method_10_code (5 : Nat) (Option.some Jvm.ClassFile.FieldType.int)) ∈ ab_G := ab_g 648 rfl rfl
set_option maxRecDepth 100000 in
theorem kw_649 : (Jvm.Cond.methodLink "LackFerry" (229 : Nat) ({ cls := "LackFerry$Shores", name := "hungerInAll", desc := "()I" } : Jvm.MethodName)) ∈ ab_G := ab_g 649 rfl rfl
set_option maxRecDepth 100000 in
theorem kw_650 : (Jvm.Cond.instanceMethod ({ cls := "LackFerry$Shores", name := "hungerInAll", desc := "()I" } : Jvm.MethodName)) ∈ ab_G := ab_g 650 rfl rfl
set_option maxRecDepth 100000 in
theorem kw_651 : (Jvm.Cond.selects "LackFerry$Shores" ({ cls := "LackFerry$Shores", name := "hungerInAll", desc := "()I" } : Jvm.MethodName) ({ cls := "LackFerry$Shores", name := "hungerInAll", desc := "()I" } : Jvm.MethodName)) ∈ ab_G := ab_g 651 rfl rfl
set_option maxRecDepth 100000 in
theorem kw_652 : (Jvm.Cond.code ({ cls := "LackFerry$Shores", name := "hungerInAll", desc := "()I" } : Jvm.MethodName) prog_8_method_8_code (3 : Nat) (Option.some Jvm.ClassFile.FieldType.int)) ∈ ab_G := ab_g 652 rfl rfl
set_option maxRecDepth 100000 in
theorem kw_653 : (Jvm.Cond.methodLink "LackFerryLaw" (89 : Nat) ({ cls := "LackFerry", name := "lacks", desc := "(I)I" } : Jvm.MethodName)) ∈ ab_G := ab_g 653 rfl rfl
set_option maxRecDepth 100000 in
theorem kw_654 : (Jvm.Cond.instanceMethod ({ cls := "LackFerry", name := "lacks", desc := "(I)I" } : Jvm.MethodName)) ∈ ab_G := ab_g 654 rfl rfl
set_option maxRecDepth 100000 in
theorem kw_655 : (Jvm.Cond.selects "LackFerry" ({ cls := "LackFerry", name := "lacks", desc := "(I)I" } : Jvm.MethodName) ({ cls := "LackFerry", name := "lacks", desc := "(I)I" } : Jvm.MethodName)) ∈ ab_G := ab_g 655 rfl rfl
set_option maxRecDepth 100000 in
theorem kw_656 : (Jvm.Cond.code ({ cls := "LackFerry", name := "lacks", desc := "(I)I" } : Jvm.MethodName) prog_1_method_18_code (4 : Nat) (Option.some Jvm.ClassFile.FieldType.int)) ∈ ab_G := ab_g 656 rfl rfl
set_option maxRecDepth 100000 in
theorem kw_657 : (Jvm.Cond.methodLink "LackFerryLaw" (93 : Nat) ({ cls := "LackFerry", name := "falses", desc := "(I)I" } : Jvm.MethodName)) ∈ ab_G := ab_g 657 rfl rfl
set_option maxRecDepth 100000 in
theorem kw_658 : (Jvm.Cond.instanceMethod ({ cls := "LackFerry", name := "falses", desc := "(I)I" } : Jvm.MethodName)) ∈ ab_G := ab_g 658 rfl rfl
set_option maxRecDepth 100000 in
theorem kw_659 : (Jvm.Cond.selects "LackFerry" ({ cls := "LackFerry", name := "falses", desc := "(I)I" } : Jvm.MethodName) ({ cls := "LackFerry", name := "falses", desc := "(I)I" } : Jvm.MethodName)) ∈ ab_G := ab_g 659 rfl rfl
set_option maxRecDepth 100000 in
theorem kw_660 : (Jvm.Cond.code ({ cls := "LackFerry", name := "falses", desc := "(I)I" } : Jvm.MethodName) prog_1_method_19_code (4 : Nat) (Option.some Jvm.ClassFile.FieldType.int)) ∈ ab_G := ab_g 660 rfl rfl
set_option maxRecDepth 100000 in
theorem kw_661 : (Jvm.Cond.methodLink "LackFerryLaw" (146 : Nat) ({ cls := "LackFerry", name := "dearest", desc := "()I" } : Jvm.MethodName)) ∈ ab_G := ab_g 661 rfl rfl
set_option maxRecDepth 100000 in
theorem kw_662 : (Jvm.Cond.instanceMethod ({ cls := "LackFerry", name := "dearest", desc := "()I" } : Jvm.MethodName)) ∈ ab_G := ab_g 662 rfl rfl
set_option maxRecDepth 100000 in
theorem kw_663 : (Jvm.Cond.selects "LackFerry" ({ cls := "LackFerry", name := "dearest", desc := "()I" } : Jvm.MethodName) ({ cls := "LackFerry", name := "dearest", desc := "()I" } : Jvm.MethodName)) ∈ ab_G := ab_g 663 rfl rfl
set_option maxRecDepth 100000 in
theorem kw_664 : (Jvm.Cond.code ({ cls := "LackFerry", name := "dearest", desc := "()I" } : Jvm.MethodName) prog_1_method_20_code (5 : Nat) (Option.some Jvm.ClassFile.FieldType.int)) ∈ ab_G := ab_g 664 rfl rfl
set_option maxRecDepth 100000 in
theorem kw_665 : (Jvm.Cond.methodLink "LackFerry" (196 : Nat) ({ cls := "LackFerry$Shores", name := "missersOf", desc := "(LLackFerry$Strait;I)I" } : Jvm.MethodName)) ∈ ab_G := ab_g 665 rfl rfl
set_option maxRecDepth 100000 in
theorem kw_666 : (Jvm.Cond.instanceMethod ({ cls := "LackFerry$Shores", name := "missersOf", desc := "(LLackFerry$Strait;I)I" } : Jvm.MethodName)) ∈ ab_G := ab_g 666 rfl rfl
set_option maxRecDepth 100000 in
theorem kw_667 : (Jvm.Cond.selects "LackFerry$Shores" ({ cls := "LackFerry$Shores", name := "missersOf", desc := "(LLackFerry$Strait;I)I" } : Jvm.MethodName) ({ cls := "LackFerry$Shores", name := "missersOf", desc := "(LLackFerry$Strait;I)I" } : Jvm.MethodName)) ∈ ab_G := ab_g 667 rfl rfl
set_option maxRecDepth 100000 in
theorem kw_668 : (Jvm.Cond.code ({ cls := "LackFerry$Shores", name := "missersOf", desc := "(LLackFerry$Strait;I)I" } : Jvm.MethodName) prog_8_method_14_code (5 : Nat) (Option.some Jvm.ClassFile.FieldType.int)) ∈ ab_G := ab_g 668 rfl rfl
set_option maxRecDepth 100000 in
theorem kw_669 : (Jvm.Cond.methodLink "LackFerry$Shores" (81 : Nat) ({ cls := "LackFerry$Shores", name := "isFelt", desc := "(LLackFerry$Strait;I)Z" } : Jvm.MethodName)) ∈ ab_G := ab_g 669 rfl rfl
set_option maxRecDepth 100000 in
theorem kw_671 : (Jvm.Cond.instanceMethod ({ cls := "LackFerry$Shores", name := "isFelt", desc := "(LLackFerry$Strait;I)Z" } : Jvm.MethodName)) ∈ ab_G := ab_g 671 rfl rfl
set_option maxRecDepth 100000 in
theorem kw_672 : (Jvm.Cond.code ({ cls := "LackFerry$Shores", name := "isFelt", desc := "(LLackFerry$Strait;I)Z" } : Jvm.MethodName) prog_8_method_12_code (6 : Nat) (Option.some Jvm.ClassFile.FieldType.boolean)) ∈ ab_G := ab_g 672 rfl rfl
set_option maxRecDepth 100000 in
theorem kw_673 : (Jvm.Cond.methodLink "LackFerry$Shores" (72 : Nat) ({ cls := "LackFerry$Shores", name := "apartOf", desc := "(II)I" } : Jvm.MethodName)) ∈ ab_G := ab_g 673 rfl rfl
set_option maxRecDepth 100000 in
theorem kw_674 : (Jvm.Cond.methodLink "LackFerry" (232 : Nat) ({ cls := "java/lang/Integer", name := "bitCount", desc := "(I)I" } : Jvm.MethodName)) ∈ ab_G := ab_g 674 rfl rfl
set_option maxRecDepth 100000 in
theorem kw_675 : (Jvm.Cond.static ({ cls := "java/lang/Integer", name := "bitCount", desc := "(I)I" } : Jvm.MethodName)) ∈ ab_G := ab_g 675 rfl rfl
set_option maxRecDepth 100000 in
theorem kw_676 : (Jvm.Cond.code ({ cls := "java/lang/Integer", name := "bitCount", desc := "(I)I" } : Jvm.MethodName) prog_18_method_49_code (1 : Nat) (Option.some Jvm.ClassFile.FieldType.int)) ∈ ab_G := ab_g 676 rfl rfl
set_option maxRecDepth 100000 in
theorem kw_677 : (Jvm.Cond.constant "java/lang/Integer" (265 : Nat) (1431655765 : Int32)) ∈ ab_G := ab_g 677 rfl rfl
set_option maxRecDepth 100000 in
theorem kw_678 : (Jvm.Cond.constant "java/lang/Integer" (266 : Nat) (858993459 : Int32)) ∈ ab_G := ab_g 678 rfl rfl
set_option maxRecDepth 100000 in
theorem kw_679 : (Jvm.Cond.constant "java/lang/Integer" (267 : Nat) (252645135 : Int32)) ∈ ab_G := ab_g 679 rfl rfl
set_option maxRecDepth 100000 in
theorem kw_680 : (Jvm.Cond.methodLink "LackFerryLaw" (150 : Nat) ({ cls := "LackFerry", name := "rats", desc := "()I" } : Jvm.MethodName)) ∈ ab_G := ab_g 680 rfl rfl
set_option maxRecDepth 100000 in
theorem kw_681 : (Jvm.Cond.instanceMethod ({ cls := "LackFerry", name := "rats", desc := "()I" } : Jvm.MethodName)) ∈ ab_G := ab_g 681 rfl rfl
set_option maxRecDepth 100000 in
theorem kw_682 : (Jvm.Cond.selects "LackFerry" ({ cls := "LackFerry", name := "rats", desc := "()I" } : Jvm.MethodName) ({ cls := "LackFerry", name := "rats", desc := "()I" } : Jvm.MethodName)) ∈ ab_G := ab_g 682 rfl rfl
set_option maxRecDepth 100000 in
theorem kw_683 : (Jvm.Cond.code ({ cls := "LackFerry", name := "rats", desc := "()I" } : Jvm.MethodName) prog_1_method_21_code (3 : Nat) (Option.some Jvm.ClassFile.FieldType.int)) ∈ ab_G := ab_g 683 rfl rfl
set_option maxRecDepth 100000 in
theorem kw_684 : (Jvm.Cond.methodLink "LackFerry" (238 : Nat) ({ cls := "LackFerry$Shores", name := "couldBeMissed", desc := "(LLackFerry$Strait;I)Z" } : Jvm.MethodName)) ∈ ab_G := ab_g 684 rfl rfl
set_option maxRecDepth 100000 in
theorem kw_685 : (Jvm.Cond.instanceMethod ({ cls := "LackFerry$Shores", name := "couldBeMissed", desc := "(LLackFerry$Strait;I)Z" } : Jvm.MethodName)) ∈ ab_G := ab_g 685 rfl rfl
set_option maxRecDepth 100000 in
theorem kw_686 : (Jvm.Cond.selects "LackFerry$Shores" ({ cls := "LackFerry$Shores", name := "couldBeMissed", desc := "(LLackFerry$Strait;I)Z" } : Jvm.MethodName) ({ cls := "LackFerry$Shores", name := "couldBeMissed", desc := "(LLackFerry$Strait;I)Z" } : Jvm.MethodName)) ∈ ab_G := ab_g 686 rfl rfl
set_option maxRecDepth 100000 in
theorem kw_687 : (Jvm.Cond.code ({ cls := "LackFerry$Shores", name := "couldBeMissed", desc := "(LLackFerry$Strait;I)Z" } : Jvm.MethodName) prog_8_method_16_code (4 : Nat) (Option.some Jvm.ClassFile.FieldType.boolean)) ∈ ab_G := ab_g 687 rfl rfl
set_option maxRecDepth 100000 in
theorem kw_688 : (Jvm.Cond.methodLink "LackFerry$Shores" (85 : Nat) ({ cls := "LackFerry$Shores", name := "isAlive", desc := "(I)Z" } : Jvm.MethodName)) ∈ ab_G := ab_g 688 rfl rfl
set_option maxRecDepth 100000 in
theorem kw_689 : (Jvm.Cond.methodLink "LackFerryLaw" (154 : Nat) ({ cls := "LackFerry", name := "hoarded", desc := "(I)I" } : Jvm.MethodName)) ∈ ab_G := ab_g 689 rfl rfl
set_option maxRecDepth 100000 in
theorem kw_690 : (Jvm.Cond.instanceMethod ({ cls := "LackFerry", name := "hoarded", desc := "(I)I" } : Jvm.MethodName)) ∈ ab_G := ab_g 690 rfl rfl
set_option maxRecDepth 100000 in
theorem kw_691 : (Jvm.Cond.selects "LackFerry" ({ cls := "LackFerry", name := "hoarded", desc := "(I)I" } : Jvm.MethodName) ({ cls := "LackFerry", name := "hoarded", desc := "(I)I" } : Jvm.MethodName)) ∈ ab_G := ab_g 691 rfl rfl
set_option maxRecDepth 100000 in
theorem kw_692 : (Jvm.Cond.code ({ cls := "LackFerry", name := "hoarded", desc := "(I)I" } : Jvm.MethodName) prog_1_method_22_code (6 : Nat) (Option.some Jvm.ClassFile.FieldType.int)) ∈ ab_G := ab_g 692 rfl rfl
set_option maxRecDepth 100000 in
theorem kw_693 : (Jvm.Cond.methodLink "LackFerryLaw" (190 : Nat) ({ cls := "LackFerry", name := "count", desc := "(I)I" } : Jvm.MethodName)) ∈ ab_G := ab_g 693 rfl rfl
set_option maxRecDepth 100000 in
theorem kw_694 : (Jvm.Cond.instanceMethod ({ cls := "LackFerry", name := "count", desc := "(I)I" } : Jvm.MethodName)) ∈ ab_G := ab_g 694 rfl rfl
set_option maxRecDepth 100000 in
theorem kw_695 : (Jvm.Cond.selects "LackFerry" ({ cls := "LackFerry", name := "count", desc := "(I)I" } : Jvm.MethodName) ({ cls := "LackFerry", name := "count", desc := "(I)I" } : Jvm.MethodName)) ∈ ab_G := ab_g 695 rfl rfl
set_option maxRecDepth 100000 in
theorem kw_696 : (Jvm.Cond.code ({ cls := "LackFerry", name := "count", desc := "(I)I" } : Jvm.MethodName) prog_1_method_23_code (2 : Nat) (Option.some Jvm.ClassFile.FieldType.int)) ∈ ab_G := ab_g 696 rfl rfl
set_option maxRecDepth 100000 in
theorem kw_697 : (Jvm.Cond.methodLink "LackFerryLaw" (65 : Nat) ({ cls := "LackFerry", name := "hoard", desc := "(III)I" } : Jvm.MethodName)) ∈ ab_G := ab_g 697 rfl rfl
set_option maxRecDepth 100000 in
theorem kw_698 : (Jvm.Cond.instanceMethod ({ cls := "LackFerry", name := "hoard", desc := "(III)I" } : Jvm.MethodName)) ∈ ab_G := ab_g 698 rfl rfl
set_option maxRecDepth 100000 in
theorem kw_699 : (Jvm.Cond.selects "LackFerry" ({ cls := "LackFerry", name := "hoard", desc := "(III)I" } : Jvm.MethodName) ({ cls := "LackFerry", name := "hoard", desc := "(III)I" } : Jvm.MethodName)) ∈ ab_G := ab_g 699 rfl rfl
set_option maxRecDepth 100000 in
theorem kw_700 : (Jvm.Cond.code ({ cls := "LackFerry", name := "hoard", desc := "(III)I" } : Jvm.MethodName) prog_1_method_24_code (4 : Nat) (Option.some Jvm.ClassFile.FieldType.int)) ∈ ab_G := ab_g 700 rfl rfl
set_option maxRecDepth 100000 in
theorem kw_701 : (Jvm.Cond.methodLink "LackFerry" (247 : Nat) ({ cls := "LackFerry", name := "act", desc := "(IIII)I" } : Jvm.MethodName)) ∈ ab_G := ab_g 701 rfl rfl
set_option maxRecDepth 100000 in
theorem kw_703 : (Jvm.Cond.instanceMethod ({ cls := "LackFerry", name := "act", desc := "(IIII)I" } : Jvm.MethodName)) ∈ ab_G := ab_g 703 rfl rfl
set_option maxRecDepth 100000 in
theorem kw_704 : (Jvm.Cond.code ({ cls := "LackFerry", name := "act", desc := "(IIII)I" } : Jvm.MethodName) prog_1_method_27_code (7 : Nat) (Option.some Jvm.ClassFile.FieldType.int)) ∈ ab_G := ab_g 704 rfl rfl
set_option maxRecDepth 100000 in
theorem kw_705 : (Jvm.Cond.methodLink "LackFerry" (251 : Nat) ({ cls := "LackFerry", name := "isWithin", desc := "(II)Z" } : Jvm.MethodName)) ∈ ab_G := ab_g 705 rfl rfl
set_option maxRecDepth 100000 in
theorem kw_706 : (Jvm.Cond.static ({ cls := "LackFerry", name := "isWithin", desc := "(II)Z" } : Jvm.MethodName)) ∈ ab_G := ab_g 706 rfl rfl
set_option maxRecDepth 100000 in
theorem kw_707 : (Jvm.Cond.code ({ cls := "LackFerry", name := "isWithin", desc := "(II)Z" } : Jvm.MethodName) prog_1_method_11_code (2 : Nat) (Option.some Jvm.ClassFile.FieldType.boolean)) ∈ ab_G := ab_g 707 rfl rfl
set_option maxRecDepth 100000 in
theorem kw_708 : (Jvm.Cond.methodLink "LackFerry" (254 : Nat) ({ cls := "LackFerry$Shores", name := "whyNot", desc := "(III)I" } : Jvm.MethodName)) ∈ ab_G := ab_g 708 rfl rfl
set_option maxRecDepth 100000 in
theorem kw_709 : (Jvm.Cond.instanceMethod ({ cls := "LackFerry$Shores", name := "whyNot", desc := "(III)I" } : Jvm.MethodName)) ∈ ab_G := ab_g 709 rfl rfl
set_option maxRecDepth 100000 in
theorem kw_710 : (Jvm.Cond.selects "LackFerry$Shores" ({ cls := "LackFerry$Shores", name := "whyNot", desc := "(III)I" } : Jvm.MethodName) ({ cls := "LackFerry$Shores", name := "whyNot", desc := "(III)I" } : Jvm.MethodName)) ∈ ab_G := ab_g 710 rfl rfl
set_option maxRecDepth 100000 in
theorem kw_711 : (Jvm.Cond.code ({ cls := "LackFerry$Shores", name := "whyNot", desc := "(III)I" } : Jvm.MethodName) prog_8_method_17_code (4 : Nat) (Option.some Jvm.ClassFile.FieldType.int)) ∈ ab_G := ab_g 711 rfl rfl
set_option maxRecDepth 100000 in
theorem kw_712 : (Jvm.Cond.methodLink "LackFerry" (258 : Nat) ({ cls := "LackFerry$History", name := "keep", desc := "(LLackFerry$Shores;)V" } : Jvm.MethodName)) ∈ ab_G := ab_g 712 rfl rfl
set_option maxRecDepth 100000 in
theorem kw_713 : (Jvm.Cond.instanceMethod ({ cls := "LackFerry$History", name := "keep", desc := "(LLackFerry$Shores;)V" } : Jvm.MethodName)) ∈ ab_G := ab_g 713 rfl rfl
set_option maxRecDepth 100000 in
theorem kw_714 : (Jvm.Cond.selects "LackFerry$History" ({ cls := "LackFerry$History", name := "keep", desc := "(LLackFerry$Shores;)V" } : Jvm.MethodName) ({ cls := "LackFerry$History", name := "keep", desc := "(LLackFerry$Shores;)V" } : Jvm.MethodName)) ∈ ab_G := ab_g 714 rfl rfl
set_option maxRecDepth 100000 in
theorem kw_715 : (Jvm.Cond.code ({ cls := "LackFerry$History", name := "keep", desc := "(LLackFerry$Shores;)V" } : Jvm.MethodName) prog_4_method_3_code (3 : Nat) (Option.none : Option Jvm.ClassFile.FieldType)) ∈ ab_G := ab_g 715 rfl rfl
set_option maxRecDepth 100000 in
theorem kw_716 : (Jvm.Cond.methodLink "LackFerry$History" (21 : Nat) ({ cls := "LackFerry$History", name := "dropOldest", desc := "()V" } : Jvm.MethodName)) ∈ ab_G := ab_g 716 rfl rfl
set_option maxRecDepth 100000 in
theorem kw_718 : (Jvm.Cond.instanceMethod ({ cls := "LackFerry$History", name := "dropOldest", desc := "()V" } : Jvm.MethodName)) ∈ ab_G := ab_g 718 rfl rfl
set_option maxRecDepth 100000 in
theorem kw_719 : (Jvm.Cond.code ({ cls := "LackFerry$History", name := "dropOldest", desc := "()V" } : Jvm.MethodName) prog_4_method_4_code (3 : Nat) (Option.none : Option Jvm.ClassFile.FieldType)) ∈ ab_G := ab_g 719 rfl rfl
set_option maxRecDepth 100000 in
theorem kw_721 : (Jvm.Cond.methodLink "LackFerry$History" (25 : Nat) ({ cls := "LackFerry$Shores", name := "copyFrom", desc := "(LLackFerry$Shores;)V" } : Jvm.MethodName)) ∈ ab_G := ab_g 721 rfl rfl
set_option maxRecDepth 100000 in
theorem kw_722 : (Jvm.Cond.instanceMethod ({ cls := "LackFerry$Shores", name := "copyFrom", desc := "(LLackFerry$Shores;)V" } : Jvm.MethodName)) ∈ ab_G := ab_g 722 rfl rfl
set_option maxRecDepth 100000 in
theorem kw_723 : (Jvm.Cond.selects "LackFerry$Shores" ({ cls := "LackFerry$Shores", name := "copyFrom", desc := "(LLackFerry$Shores;)V" } : Jvm.MethodName) ({ cls := "LackFerry$Shores", name := "copyFrom", desc := "(LLackFerry$Shores;)V" } : Jvm.MethodName)) ∈ ab_G := ab_g 723 rfl rfl
set_option maxRecDepth 100000 in
theorem kw_724 : (Jvm.Cond.code ({ cls := "LackFerry$Shores", name := "copyFrom", desc := "(LLackFerry$Shores;)V" } : Jvm.MethodName) prog_8_method_3_code (2 : Nat) (Option.none : Option Jvm.ClassFile.FieldType)) ∈ ab_G := ab_g 724 rfl rfl
set_option maxRecDepth 100000 in
theorem kw_725 : (Jvm.Cond.methodLink "LackFerry$Shores" (52 : Nat) ({ cls := "java/lang/System", name := "arraycopy", desc := "(Ljava/lang/Object;ILjava/lang/Object;II)V" } : Jvm.MethodName)) ∈ ab_G := ab_g 725 rfl rfl
set_option maxRecDepth 100000 in
theorem kw_726 : (Jvm.Cond.static ({ cls := "java/lang/System", name := "arraycopy", desc := "(Ljava/lang/Object;ILjava/lang/Object;II)V" } : Jvm.MethodName)) ∈ ab_G := ab_g 726 rfl rfl
set_option maxRecDepth 100000 in
theorem kw_727 : (Jvm.Cond.native ({ cls := "java/lang/System", name := "arraycopy", desc := "(Ljava/lang/Object;ILjava/lang/Object;II)V" } : Jvm.MethodName)) ∈ ab_G := ab_g 727 rfl rfl
set_option maxRecDepth 100000 in
theorem kw_728 : (Jvm.Cond.methodLink "LackFerry" (262 : Nat) ({ cls := "LackFerry$Shores", name := "perform", desc := "(III)V" } : Jvm.MethodName)) ∈ ab_G := ab_g 728 rfl rfl
set_option maxRecDepth 100000 in
theorem kw_729 : (Jvm.Cond.instanceMethod ({ cls := "LackFerry$Shores", name := "perform", desc := "(III)V" } : Jvm.MethodName)) ∈ ab_G := ab_g 729 rfl rfl
set_option maxRecDepth 100000 in
theorem kw_730 : (Jvm.Cond.selects "LackFerry$Shores" ({ cls := "LackFerry$Shores", name := "perform", desc := "(III)V" } : Jvm.MethodName) ({ cls := "LackFerry$Shores", name := "perform", desc := "(III)V" } : Jvm.MethodName)) ∈ ab_G := ab_g 730 rfl rfl
set_option maxRecDepth 100000 in
theorem kw_731 : (Jvm.Cond.code ({ cls := "LackFerry$Shores", name := "perform", desc := "(III)V" } : Jvm.MethodName) prog_8_method_18_code (4 : Nat) (Option.none : Option Jvm.ClassFile.FieldType)) ∈ ab_G := ab_g 731 rfl rfl
set_option maxRecDepth 100000 in
theorem kw_732 : (Jvm.Cond.methodLink "LackFerryLaw" (69 : Nat) ({ cls := "LackFerry", name := "bare", desc := "(III)I" } : Jvm.MethodName)) ∈ ab_G := ab_g 732 rfl rfl
set_option maxRecDepth 100000 in
theorem kw_733 : (Jvm.Cond.instanceMethod ({ cls := "LackFerry", name := "bare", desc := "(III)I" } : Jvm.MethodName)) ∈ ab_G := ab_g 733 rfl rfl
set_option maxRecDepth 100000 in
theorem kw_734 : (Jvm.Cond.selects "LackFerry" ({ cls := "LackFerry", name := "bare", desc := "(III)I" } : Jvm.MethodName) ({ cls := "LackFerry", name := "bare", desc := "(III)I" } : Jvm.MethodName)) ∈ ab_G := ab_g 734 rfl rfl
set_option maxRecDepth 100000 in
theorem kw_735 : (Jvm.Cond.code ({ cls := "LackFerry", name := "bare", desc := "(III)I" } : Jvm.MethodName) prog_1_method_25_code (4 : Nat) (Option.some Jvm.ClassFile.FieldType.int)) ∈ ab_G := ab_g 735 rfl rfl
set_option maxRecDepth 100000 in
theorem kw_736 : (Jvm.Cond.methodLink "LackFerryLaw" (73 : Nat) ({ cls := "LackFerry", name := "waste", desc := "(III)I" } : Jvm.MethodName)) ∈ ab_G := ab_g 736 rfl rfl
set_option maxRecDepth 100000 in
theorem kw_737 : (Jvm.Cond.instanceMethod ({ cls := "LackFerry", name := "waste", desc := "(III)I" } : Jvm.MethodName)) ∈ ab_G := ab_g 737 rfl rfl
set_option maxRecDepth 100000 in
theorem kw_738 : (Jvm.Cond.selects "LackFerry" ({ cls := "LackFerry", name := "waste", desc := "(III)I" } : Jvm.MethodName) ({ cls := "LackFerry", name := "waste", desc := "(III)I" } : Jvm.MethodName)) ∈ ab_G := ab_g 738 rfl rfl
set_option maxRecDepth 100000 in
theorem kw_739 : (Jvm.Cond.code ({ cls := "LackFerry", name := "waste", desc := "(III)I" } : Jvm.MethodName) prog_1_method_26_code (4 : Nat) (Option.some Jvm.ClassFile.FieldType.int)) ∈ ab_G := ab_g 739 rfl rfl
set_option maxRecDepth 100000 in
theorem kw_740 : (Jvm.Cond.methodLink "LackFerryLaw" (77 : Nat) ({ cls := "LackFerry", name := "die", desc := "(I)I" } : Jvm.MethodName)) ∈ ab_G := ab_g 740 rfl rfl
set_option maxRecDepth 100000 in
theorem kw_741 : (Jvm.Cond.instanceMethod ({ cls := "LackFerry", name := "die", desc := "(I)I" } : Jvm.MethodName)) ∈ ab_G := ab_g 741 rfl rfl
set_option maxRecDepth 100000 in
theorem kw_742 : (Jvm.Cond.selects "LackFerry" ({ cls := "LackFerry", name := "die", desc := "(I)I" } : Jvm.MethodName) ({ cls := "LackFerry", name := "die", desc := "(I)I" } : Jvm.MethodName)) ∈ ab_G := ab_g 742 rfl rfl
set_option maxRecDepth 100000 in
theorem kw_743 : (Jvm.Cond.code ({ cls := "LackFerry", name := "die", desc := "(I)I" } : Jvm.MethodName) prog_1_method_28_code (3 : Nat) (Option.some Jvm.ClassFile.FieldType.int)) ∈ ab_G := ab_g 743 rfl rfl
set_option maxRecDepth 100000 in
theorem kw_744 : (Jvm.Cond.methodLink "LackFerryLaw" (81 : Nat) ({ cls := "LackFerry", name := "days", desc := "(I)I" } : Jvm.MethodName)) ∈ ab_G := ab_g 744 rfl rfl
set_option maxRecDepth 100000 in
theorem kw_745 : (Jvm.Cond.instanceMethod ({ cls := "LackFerry", name := "days", desc := "(I)I" } : Jvm.MethodName)) ∈ ab_G := ab_g 745 rfl rfl
set_option maxRecDepth 100000 in
theorem kw_746 : (Jvm.Cond.selects "LackFerry" ({ cls := "LackFerry", name := "days", desc := "(I)I" } : Jvm.MethodName) ({ cls := "LackFerry", name := "days", desc := "(I)I" } : Jvm.MethodName)) ∈ ab_G := ab_g 746 rfl rfl
set_option maxRecDepth 100000 in
theorem kw_747 : (Jvm.Cond.code ({ cls := "LackFerry", name := "days", desc := "(I)I" } : Jvm.MethodName) prog_1_method_29_code (2 : Nat) (Option.some Jvm.ClassFile.FieldType.int)) ∈ ab_G := ab_g 747 rfl rfl
set_option maxRecDepth 100000 in
theorem kw_748 : (Jvm.Cond.methodLink "LackFerry" (266 : Nat) ({ cls := "LackFerry$Ferry", name := "passDays", desc := "(LLackFerry$Strait;LLackFerry$Shores;I)I" } : Jvm.MethodName)) ∈ ab_G := ab_g 748 rfl rfl
set_option maxRecDepth 100000 in
theorem kw_749 : (Jvm.Cond.instanceMethod ({ cls := "LackFerry$Ferry", name := "passDays", desc := "(LLackFerry$Strait;LLackFerry$Shores;I)I" } : Jvm.MethodName)) ∈ ab_G := ab_g 749 rfl rfl
set_option maxRecDepth 100000 in
theorem kw_750 : (Jvm.Cond.selects "LackFerry$Ferry" ({ cls := "LackFerry$Ferry", name := "passDays", desc := "(LLackFerry$Strait;LLackFerry$Shores;I)I" } : Jvm.MethodName) ({ cls := "LackFerry$Ferry", name := "passDays", desc := "(LLackFerry$Strait;LLackFerry$Shores;I)I" } : Jvm.MethodName)) ∈ ab_G := ab_g 750 rfl rfl
set_option maxRecDepth 100000 in
theorem kw_751 : (Jvm.Cond.code ({ cls := "LackFerry$Ferry", name := "passDays", desc := "(LLackFerry$Strait;LLackFerry$Shores;I)I" } : Jvm.MethodName) prog_3_method_4_code (6 : Nat) (Option.some Jvm.ClassFile.FieldType.int)) ∈ ab_G := ab_g 751 rfl rfl
set_option maxRecDepth 100000 in
theorem kw_752 : (Jvm.Cond.methodLink "LackFerry$Ferry" (75 : Nat) ({ cls := "LackFerry$Ferry", name := "plan", desc := "(LLackFerry$Strait;LLackFerry$Shores;)V" } : Jvm.MethodName)) ∈ ab_G := ab_g 752 rfl rfl
set_option maxRecDepth 100000 in
theorem kw_753 : (Jvm.Cond.instanceMethod ({ cls := "LackFerry$Ferry", name := "plan", desc := "(LLackFerry$Strait;LLackFerry$Shores;)V" } : Jvm.MethodName)) ∈ ab_G := ab_g 753 rfl rfl
set_option maxRecDepth 100000 in
theorem kw_754 : (Jvm.Cond.selects "LackFerry$Ferry" ({ cls := "LackFerry$Ferry", name := "plan", desc := "(LLackFerry$Strait;LLackFerry$Shores;)V" } : Jvm.MethodName) ({ cls := "LackFerry$Ferry", name := "plan", desc := "(LLackFerry$Strait;LLackFerry$Shores;)V" } : Jvm.MethodName)) ∈ ab_G := ab_g 754 rfl rfl
set_option maxRecDepth 100000 in
theorem kw_755 : (Jvm.Cond.code ({ cls := "LackFerry$Ferry", name := "plan", desc := "(LLackFerry$Strait;LLackFerry$Shores;)V" } : Jvm.MethodName) prog_3_method_3_code (8 : Nat) (Option.none : Option Jvm.ClassFile.FieldType)) ∈ ab_G := ab_g 755 rfl rfl
set_option maxRecDepth 100000 in
theorem kw_756 : (Jvm.Cond.methodLink "LackFerry$Ferry" (27 : Nat) ({ cls := "LackFerry$Shores", name := "ferryShore", desc := "()I" } : Jvm.MethodName)) ∈ ab_G := ab_g 756 rfl rfl
set_option maxRecDepth 100000 in
theorem kw_757 : (Jvm.Cond.methodLink "LackFerry$Ferry" (48 : Nat) ({ cls := "LackFerry$Shores", name := "allMissed", desc := "(LLackFerry$Strait;)I" } : Jvm.MethodName)) ∈ ab_G := ab_g 757 rfl rfl
set_option maxRecDepth 100000 in
theorem kw_758 : (Jvm.Cond.instanceMethod ({ cls := "LackFerry$Shores", name := "allMissed", desc := "(LLackFerry$Strait;)I" } : Jvm.MethodName)) ∈ ab_G := ab_g 758 rfl rfl
set_option maxRecDepth 100000 in
theorem kw_759 : (Jvm.Cond.selects "LackFerry$Shores" ({ cls := "LackFerry$Shores", name := "allMissed", desc := "(LLackFerry$Strait;)I" } : Jvm.MethodName) ({ cls := "LackFerry$Shores", name := "allMissed", desc := "(LLackFerry$Strait;)I" } : Jvm.MethodName)) ∈ ab_G := ab_g 759 rfl rfl
set_option maxRecDepth 100000 in
theorem kw_760 : (Jvm.Cond.code ({ cls := "LackFerry$Shores", name := "allMissed", desc := "(LLackFerry$Strait;)I" } : Jvm.MethodName) prog_8_method_13_code (4 : Nat) (Option.some Jvm.ClassFile.FieldType.int)) ∈ ab_G := ab_g 760 rfl rfl
set_option maxRecDepth 100000 in
theorem kw_762 : (Jvm.Cond.methodLink "LackFerry$Ferry" (64 : Nat) ({ cls := "LackFerry$Shores", name := "lackAt", desc := "(LLackFerry$Strait;I)I" } : Jvm.MethodName)) ∈ ab_G := ab_g 762 rfl rfl
set_option maxRecDepth 100000 in
theorem kw_763 : (Jvm.Cond.methodLink "LackFerry$Ferry" (71 : Nat) ({ cls := "LackFerry$Ferry", name := "amountMoved", desc := "(III)I" } : Jvm.MethodName)) ∈ ab_G := ab_g 763 rfl rfl
set_option maxRecDepth 100000 in
theorem kw_764 : (Jvm.Cond.static ({ cls := "LackFerry$Ferry", name := "amountMoved", desc := "(III)I" } : Jvm.MethodName)) ∈ ab_G := ab_g 764 rfl rfl
set_option maxRecDepth 100000 in
theorem kw_765 : (Jvm.Cond.code ({ cls := "LackFerry$Ferry", name := "amountMoved", desc := "(III)I" } : Jvm.MethodName) prog_3_method_2_code (3 : Nat) (Option.some Jvm.ClassFile.FieldType.int)) ∈ ab_G := ab_g 765 rfl rfl
set_option maxRecDepth 100000 in
theorem kw_766 : (Jvm.Cond.methodLink "LackFerry$Ferry" (18 : Nat) ({ cls := "java/lang/Math", name := "min", desc := "(II)I" } : Jvm.MethodName)) ∈ ab_G := ab_g 766 rfl rfl
set_option maxRecDepth 100000 in
theorem kw_767 : (Jvm.Cond.methodLink "LackFerry$Ferry" (24 : Nat) ({ cls := "java/lang/Math", name := "max", desc := "(II)I" } : Jvm.MethodName)) ∈ ab_G := ab_g 767 rfl rfl
set_option maxRecDepth 100000 in
theorem kw_768 : (Jvm.Cond.methodLink "LackFerry$Ferry" (79 : Nat) ({ cls := "LackFerry$Ferry", name := "carry", desc := "(LLackFerry$Strait;LLackFerry$Shores;)V" } : Jvm.MethodName)) ∈ ab_G := ab_g 768 rfl rfl
set_option maxRecDepth 100000 in
theorem kw_770 : (Jvm.Cond.instanceMethod ({ cls := "LackFerry$Ferry", name := "carry", desc := "(LLackFerry$Strait;LLackFerry$Shores;)V" } : Jvm.MethodName)) ∈ ab_G := ab_g 770 rfl rfl
set_option maxRecDepth 100000 in
theorem kw_771 : (Jvm.Cond.code ({ cls := "LackFerry$Ferry", name := "carry", desc := "(LLackFerry$Strait;LLackFerry$Shores;)V" } : Jvm.MethodName) prog_3_method_5_code (5 : Nat) (Option.none : Option Jvm.ClassFile.FieldType)) ∈ ab_G := ab_g 771 rfl rfl
set_option maxRecDepth 100000 in
theorem kw_772 : (Jvm.Cond.methodLink "LackFerry$Ferry" (82 : Nat) ({ cls := "LackFerry$Shores", name := "makeAndEat", desc := "(LLackFerry$Strait;)V" } : Jvm.MethodName)) ∈ ab_G := ab_g 772 rfl rfl
set_option maxRecDepth 100000 in
theorem kw_773 : (Jvm.Cond.instanceMethod ({ cls := "LackFerry$Shores", name := "makeAndEat", desc := "(LLackFerry$Strait;)V" } : Jvm.MethodName)) ∈ ab_G := ab_g 773 rfl rfl
set_option maxRecDepth 100000 in
theorem kw_774 : (Jvm.Cond.selects "LackFerry$Shores" ({ cls := "LackFerry$Shores", name := "makeAndEat", desc := "(LLackFerry$Strait;)V" } : Jvm.MethodName) ({ cls := "LackFerry$Shores", name := "makeAndEat", desc := "(LLackFerry$Strait;)V" } : Jvm.MethodName)) ∈ ab_G := ab_g 774 rfl rfl
set_option maxRecDepth 100000 in
theorem kw_775 : (Jvm.Cond.code ({ cls := "LackFerry$Shores", name := "makeAndEat", desc := "(LLackFerry$Strait;)V" } : Jvm.MethodName) prog_8_method_20_code (4 : Nat) (Option.none : Option Jvm.ClassFile.FieldType)) ∈ ab_G := ab_g 775 rfl rfl
set_option maxRecDepth 100000 in
theorem kw_776 : (Jvm.Cond.methodLink "LackFerry$Shores" (100 : Nat) ({ cls := "LackFerry$Strait", name := "leftAfter", desc := "(II)I" } : Jvm.MethodName)) ∈ ab_G := ab_g 776 rfl rfl
set_option maxRecDepth 100000 in
theorem kw_777 : (Jvm.Cond.instanceMethod ({ cls := "LackFerry$Strait", name := "leftAfter", desc := "(II)I" } : Jvm.MethodName)) ∈ ab_G := ab_g 777 rfl rfl
set_option maxRecDepth 100000 in
theorem kw_778 : (Jvm.Cond.selects "LackFerry$Strait" ({ cls := "LackFerry$Strait", name := "leftAfter", desc := "(II)I" } : Jvm.MethodName) ({ cls := "LackFerry$Strait", name := "leftAfter", desc := "(II)I" } : Jvm.MethodName)) ∈ ab_G := ab_g 778 rfl rfl
set_option maxRecDepth 100000 in
theorem kw_779 : (Jvm.Cond.code ({ cls := "LackFerry$Strait", name := "leftAfter", desc := "(II)I" } : Jvm.MethodName) prog_9_method_3_code (4 : Nat) (Option.some Jvm.ClassFile.FieldType.int)) ∈ ab_G := ab_g 779 rfl rfl
set_option maxRecDepth 100000 in
theorem kw_780 : (Jvm.Cond.methodLink "LackFerry$Strait" (38 : Nat) ({ cls := "java/lang/Math", name := "min", desc := "(II)I" } : Jvm.MethodName)) ∈ ab_G := ab_g 780 rfl rfl
set_option maxRecDepth 100000 in
theorem kw_781 : (Jvm.Cond.methodLink "LackFerry$Ferry" (86 : Nat) ({ cls := "LackFerry$Shores", name := "countApart", desc := "(LLackFerry$Strait;)V" } : Jvm.MethodName)) ∈ ab_G := ab_g 781 rfl rfl
set_option maxRecDepth 100000 in
theorem kw_782 : (Jvm.Cond.instanceMethod ({ cls := "LackFerry$Shores", name := "countApart", desc := "(LLackFerry$Strait;)V" } : Jvm.MethodName)) ∈ ab_G := ab_g 782 rfl rfl
set_option maxRecDepth 100000 in
theorem kw_783 : (Jvm.Cond.selects "LackFerry$Shores" ({ cls := "LackFerry$Shores", name := "countApart", desc := "(LLackFerry$Strait;)V" } : Jvm.MethodName) ({ cls := "LackFerry$Shores", name := "countApart", desc := "(LLackFerry$Strait;)V" } : Jvm.MethodName)) ∈ ab_G := ab_g 783 rfl rfl
set_option maxRecDepth 100000 in
theorem kw_784 : (Jvm.Cond.code ({ cls := "LackFerry$Shores", name := "countApart", desc := "(LLackFerry$Strait;)V" } : Jvm.MethodName) prog_8_method_21_code (5 : Nat) (Option.none : Option Jvm.ClassFile.FieldType)) ∈ ab_G := ab_g 784 rfl rfl
set_option maxRecDepth 100000 in
theorem kw_785 : (Jvm.Cond.methodLink "LackFerryLaw" (85 : Nat) ({ cls := "LackFerry", name := "undo", desc := "()I" } : Jvm.MethodName)) ∈ ab_G := ab_g 785 rfl rfl
set_option maxRecDepth 100000 in
theorem kw_786 : (Jvm.Cond.instanceMethod ({ cls := "LackFerry", name := "undo", desc := "()I" } : Jvm.MethodName)) ∈ ab_G := ab_g 786 rfl rfl
set_option maxRecDepth 100000 in
theorem kw_787 : (Jvm.Cond.selects "LackFerry" ({ cls := "LackFerry", name := "undo", desc := "()I" } : Jvm.MethodName) ({ cls := "LackFerry", name := "undo", desc := "()I" } : Jvm.MethodName)) ∈ ab_G := ab_g 787 rfl rfl
set_option maxRecDepth 100000 in
theorem kw_788 : (Jvm.Cond.code ({ cls := "LackFerry", name := "undo", desc := "()I" } : Jvm.MethodName) prog_1_method_30_code (1 : Nat) (Option.some Jvm.ClassFile.FieldType.int)) ∈ ab_G := ab_g 788 rfl rfl
set_option maxRecDepth 100000 in
theorem kw_789 : (Jvm.Cond.methodLink "LackFerry" (270 : Nat) ({ cls := "LackFerry$History", name := "takeBack", desc := "(LLackFerry$Shores;)I" } : Jvm.MethodName)) ∈ ab_G := ab_g 789 rfl rfl
set_option maxRecDepth 100000 in
theorem kw_790 : (Jvm.Cond.instanceMethod ({ cls := "LackFerry$History", name := "takeBack", desc := "(LLackFerry$Shores;)I" } : Jvm.MethodName)) ∈ ab_G := ab_g 790 rfl rfl
set_option maxRecDepth 100000 in
theorem kw_791 : (Jvm.Cond.selects "LackFerry$History" ({ cls := "LackFerry$History", name := "takeBack", desc := "(LLackFerry$Shores;)I" } : Jvm.MethodName) ({ cls := "LackFerry$History", name := "takeBack", desc := "(LLackFerry$Shores;)I" } : Jvm.MethodName)) ∈ ab_G := ab_g 791 rfl rfl
set_option maxRecDepth 100000 in
theorem kw_792 : (Jvm.Cond.code ({ cls := "LackFerry$History", name := "takeBack", desc := "(LLackFerry$Shores;)I" } : Jvm.MethodName) prog_4_method_5_code (3 : Nat) (Option.some Jvm.ClassFile.FieldType.int)) ∈ ab_G := ab_g 792 rfl rfl
set_option maxRecDepth 100000 in
theorem kw_793 : (Jvm.Cond.methodLink "LackFerryLaw" (97 : Nat) ({ cls := "LackFerry", name := "going", desc := "()I" } : Jvm.MethodName)) ∈ ab_G := ab_g 793 rfl rfl
set_option maxRecDepth 100000 in
theorem kw_794 : (Jvm.Cond.instanceMethod ({ cls := "LackFerry", name := "going", desc := "()I" } : Jvm.MethodName)) ∈ ab_G := ab_g 794 rfl rfl
set_option maxRecDepth 100000 in
theorem kw_795 : (Jvm.Cond.selects "LackFerry" ({ cls := "LackFerry", name := "going", desc := "()I" } : Jvm.MethodName) ({ cls := "LackFerry", name := "going", desc := "()I" } : Jvm.MethodName)) ∈ ab_G := ab_g 795 rfl rfl
set_option maxRecDepth 100000 in
theorem kw_796 : (Jvm.Cond.code ({ cls := "LackFerry", name := "going", desc := "()I" } : Jvm.MethodName) prog_1_method_31_code (1 : Nat) (Option.some Jvm.ClassFile.FieldType.int)) ∈ ab_G := ab_g 796 rfl rfl
set_option maxRecDepth 100000 in
theorem kw_797 : (Jvm.Cond.methodLink "LackFerry" (274 : Nat) ({ cls := "LackFerry$Ferry", name := "plan", desc := "(LLackFerry$Strait;LLackFerry$Shores;)V" } : Jvm.MethodName)) ∈ ab_G := ab_g 797 rfl rfl
set_option maxRecDepth 100000 in
theorem kw_798 : (Jvm.Cond.methodLink "LackFerryLaw" (101 : Nat) ({ cls := "LackFerry", name := "goes", desc := "(I)I" } : Jvm.MethodName)) ∈ ab_G := ab_g 798 rfl rfl
set_option maxRecDepth 100000 in
theorem kw_799 : (Jvm.Cond.instanceMethod ({ cls := "LackFerry", name := "goes", desc := "(I)I" } : Jvm.MethodName)) ∈ ab_G := ab_g 799 rfl rfl
set_option maxRecDepth 100000 in
theorem kw_800 : (Jvm.Cond.selects "LackFerry" ({ cls := "LackFerry", name := "goes", desc := "(I)I" } : Jvm.MethodName) ({ cls := "LackFerry", name := "goes", desc := "(I)I" } : Jvm.MethodName)) ∈ ab_G := ab_g 800 rfl rfl
set_option maxRecDepth 100000 in
theorem kw_801 : (Jvm.Cond.code ({ cls := "LackFerry", name := "goes", desc := "(I)I" } : Jvm.MethodName) prog_1_method_32_code (2 : Nat) (Option.some Jvm.ClassFile.FieldType.int)) ∈ ab_G := ab_g 801 rfl rfl
set_option maxRecDepth 100000 in
theorem kw_802 : (Jvm.Cond.methodLink "LackFerryLaw" (105 : Nat) ({ cls := "LackFerry", name := "crosses", desc := "(I)I" } : Jvm.MethodName)) ∈ ab_G := ab_g 802 rfl rfl
set_option maxRecDepth 100000 in
theorem kw_803 : (Jvm.Cond.instanceMethod ({ cls := "LackFerry", name := "crosses", desc := "(I)I" } : Jvm.MethodName)) ∈ ab_G := ab_g 803 rfl rfl
set_option maxRecDepth 100000 in
theorem kw_804 : (Jvm.Cond.selects "LackFerry" ({ cls := "LackFerry", name := "crosses", desc := "(I)I" } : Jvm.MethodName) ({ cls := "LackFerry", name := "crosses", desc := "(I)I" } : Jvm.MethodName)) ∈ ab_G := ab_g 804 rfl rfl
set_option maxRecDepth 100000 in
theorem kw_805 : (Jvm.Cond.code ({ cls := "LackFerry", name := "crosses", desc := "(I)I" } : Jvm.MethodName) prog_1_method_33_code (4 : Nat) (Option.some Jvm.ClassFile.FieldType.int)) ∈ ab_G := ab_g 805 rfl rfl
set_option maxRecDepth 100000 in
theorem kw_806 : (Jvm.Cond.methodLink "LackFerry" (284 : Nat) ({ cls := "LackFerry$Shores", name := "copyFrom", desc := "(LLackFerry$Shores;)V" } : Jvm.MethodName)) ∈ ab_G := ab_g 806 rfl rfl
set_option maxRecDepth 100000 in
theorem kw_807 : (Jvm.Cond.methodLink "LackFerryLaw" (109 : Nat) ({ cls := "LackFerry", name := "comes", desc := "(II)I" } : Jvm.MethodName)) ∈ ab_G := ab_g 807 rfl rfl
set_option maxRecDepth 100000 in
theorem kw_808 : (Jvm.Cond.instanceMethod ({ cls := "LackFerry", name := "comes", desc := "(II)I" } : Jvm.MethodName)) ∈ ab_G := ab_g 808 rfl rfl
set_option maxRecDepth 100000 in
theorem kw_809 : (Jvm.Cond.selects "LackFerry" ({ cls := "LackFerry", name := "comes", desc := "(II)I" } : Jvm.MethodName) ({ cls := "LackFerry", name := "comes", desc := "(II)I" } : Jvm.MethodName)) ∈ ab_G := ab_g 809 rfl rfl
set_option maxRecDepth 100000 in
theorem kw_810 : (Jvm.Cond.code ({ cls := "LackFerry", name := "comes", desc := "(II)I" } : Jvm.MethodName) prog_1_method_34_code (6 : Nat) (Option.some Jvm.ClassFile.FieldType.int)) ∈ ab_G := ab_g 810 rfl rfl
set_option maxRecDepth 100000 in
theorem kw_811 : (Jvm.Cond.methodLink "LackFerryLaw" (113 : Nat) ({ cls := "LackFerry", name := "without", desc := "(IIII)I" } : Jvm.MethodName)) ∈ ab_G := ab_g 811 rfl rfl
set_option maxRecDepth 100000 in
theorem kw_812 : (Jvm.Cond.instanceMethod ({ cls := "LackFerry", name := "without", desc := "(IIII)I" } : Jvm.MethodName)) ∈ ab_G := ab_g 812 rfl rfl
set_option maxRecDepth 100000 in
theorem kw_813 : (Jvm.Cond.selects "LackFerry" ({ cls := "LackFerry", name := "without", desc := "(IIII)I" } : Jvm.MethodName) ({ cls := "LackFerry", name := "without", desc := "(IIII)I" } : Jvm.MethodName)) ∈ ab_G := ab_g 813 rfl rfl
set_option maxRecDepth 100000 in
theorem kw_814 : (Jvm.Cond.code ({ cls := "LackFerry", name := "without", desc := "(IIII)I" } : Jvm.MethodName) prog_1_method_35_code (8 : Nat) (Option.some Jvm.ClassFile.FieldType.int)) ∈ ab_G := ab_g 814 rfl rfl
set_option maxRecDepth 100000 in
theorem kw_815 : (Jvm.Cond.methodLink "LackFerry" (287 : Nat) ({ cls := "LackFerry", name := "foreseeRoom", desc := "(II)I" } : Jvm.MethodName)) ∈ ab_G := ab_g 815 rfl rfl
set_option maxRecDepth 100000 in
theorem kw_817 : (Jvm.Cond.instanceMethod ({ cls := "LackFerry", name := "foreseeRoom", desc := "(II)I" } : Jvm.MethodName)) ∈ ab_G := ab_g 817 rfl rfl
set_option maxRecDepth 100000 in
theorem kw_818 : (Jvm.Cond.code ({ cls := "LackFerry", name := "foreseeRoom", desc := "(II)I" } : Jvm.MethodName) prog_1_method_36_code (5 : Nat) (Option.some Jvm.ClassFile.FieldType.int)) ∈ ab_G := ab_g 818 rfl rfl
set_option maxRecDepth 100000 in
theorem kw_819 : (Jvm.Cond.methodLink "LackFerry" (290 : Nat) ({ cls := "LackFerry", name := "roomTowards", desc := "(II)I" } : Jvm.MethodName)) ∈ ab_G := ab_g 819 rfl rfl
set_option maxRecDepth 100000 in
theorem kw_821 : (Jvm.Cond.instanceMethod ({ cls := "LackFerry", name := "roomTowards", desc := "(II)I" } : Jvm.MethodName)) ∈ ab_G := ab_g 821 rfl rfl
set_option maxRecDepth 100000 in
theorem kw_822 : (Jvm.Cond.code ({ cls := "LackFerry", name := "roomTowards", desc := "(II)I" } : Jvm.MethodName) prog_1_method_37_code (5 : Nat) (Option.some Jvm.ClassFile.FieldType.int)) ∈ ab_G := ab_g 822 rfl rfl
set_option maxRecDepth 100000 in
theorem kw_823 : (Jvm.Cond.methodLink "LackFerry" (293 : Nat) ({ cls := "LackFerry", name := "wouldCome", desc := "(IIII)I" } : Jvm.MethodName)) ∈ ab_G := ab_g 823 rfl rfl
set_option maxRecDepth 100000 in
theorem kw_825 : (Jvm.Cond.instanceMethod ({ cls := "LackFerry", name := "wouldCome", desc := "(IIII)I" } : Jvm.MethodName)) ∈ ab_G := ab_g 825 rfl rfl
set_option maxRecDepth 100000 in
theorem kw_826 : (Jvm.Cond.code ({ cls := "LackFerry", name := "wouldCome", desc := "(IIII)I" } : Jvm.MethodName) prog_1_method_38_code (14 : Nat) (Option.some Jvm.ClassFile.FieldType.int)) ∈ ab_G := ab_g 826 rfl rfl
set_option maxRecDepth 100000 in
theorem kw_827 : (Jvm.Cond.methodLink "LackFerry" (299 : Nat) ({ cls := "LackFerry$Ferry", name := "amountMoved", desc := "(III)I" } : Jvm.MethodName)) ∈ ab_G := ab_g 827 rfl rfl
set_option maxRecDepth 100000 in
theorem kw_828 : (Jvm.Cond.methodLink "LackFerry" (302 : Nat) ({ cls := "LackFerry$Strait", name := "stockAfter", desc := "(II)I" } : Jvm.MethodName)) ∈ ab_G := ab_g 828 rfl rfl
set_option maxRecDepth 100000 in
theorem kw_829 : (Jvm.Cond.instanceMethod ({ cls := "LackFerry$Strait", name := "stockAfter", desc := "(II)I" } : Jvm.MethodName)) ∈ ab_G := ab_g 829 rfl rfl
set_option maxRecDepth 100000 in
theorem kw_830 : (Jvm.Cond.selects "LackFerry$Strait" ({ cls := "LackFerry$Strait", name := "stockAfter", desc := "(II)I" } : Jvm.MethodName) ({ cls := "LackFerry$Strait", name := "stockAfter", desc := "(II)I" } : Jvm.MethodName)) ∈ ab_G := ab_g 830 rfl rfl
set_option maxRecDepth 100000 in
theorem kw_831 : (Jvm.Cond.code ({ cls := "LackFerry$Strait", name := "stockAfter", desc := "(II)I" } : Jvm.MethodName) prog_9_method_4_code (3 : Nat) (Option.some Jvm.ClassFile.FieldType.int)) ∈ ab_G := ab_g 831 rfl rfl
set_option maxRecDepth 100000 in
theorem kw_832 : (Jvm.Cond.methodLink "LackFerry$Strait" (44 : Nat) ({ cls := "LackFerry$Strait", name := "leftAfter", desc := "(II)I" } : Jvm.MethodName)) ∈ ab_G := ab_g 832 rfl rfl
set_option maxRecDepth 100000 in
theorem kw_833 : (Jvm.Cond.methodLink "LackFerry$Strait" (47 : Nat) ({ cls := "java/lang/Math", name := "max", desc := "(II)I" } : Jvm.MethodName)) ∈ ab_G := ab_g 833 rfl rfl
set_option maxRecDepth 100000 in
theorem kw_834 : (Jvm.Cond.methodLink "LackFerryLaw" (118 : Nat) ({ cls := "LackFerry", name := "meet", desc := "(II)I" } : Jvm.MethodName)) ∈ ab_G := ab_g 834 rfl rfl
set_option maxRecDepth 100000 in
theorem kw_835 : (Jvm.Cond.instanceMethod ({ cls := "LackFerry", name := "meet", desc := "(II)I" } : Jvm.MethodName)) ∈ ab_G := ab_g 835 rfl rfl
set_option maxRecDepth 100000 in
theorem kw_836 : (Jvm.Cond.selects "LackFerry" ({ cls := "LackFerry", name := "meet", desc := "(II)I" } : Jvm.MethodName) ({ cls := "LackFerry", name := "meet", desc := "(II)I" } : Jvm.MethodName)) ∈ ab_G := ab_g 836 rfl rfl
set_option maxRecDepth 100000 in
theorem kw_837 : (Jvm.Cond.code ({ cls := "LackFerry", name := "meet", desc := "(II)I" } : Jvm.MethodName) prog_1_method_39_code (4 : Nat) (Option.some Jvm.ClassFile.FieldType.int)) ∈ ab_G := ab_g 837 rfl rfl
set_option maxRecDepth 100000 in
theorem kw_838 : (Jvm.Cond.methodLink "LackFerryLaw" (122 : Nat) ({ cls := "LackFerry", name := "loads", desc := "(I)I" } : Jvm.MethodName)) ∈ ab_G := ab_g 838 rfl rfl
set_option maxRecDepth 100000 in
theorem kw_839 : (Jvm.Cond.instanceMethod ({ cls := "LackFerry", name := "loads", desc := "(I)I" } : Jvm.MethodName)) ∈ ab_G := ab_g 839 rfl rfl
set_option maxRecDepth 100000 in
theorem kw_840 : (Jvm.Cond.selects "LackFerry" ({ cls := "LackFerry", name := "loads", desc := "(I)I" } : Jvm.MethodName) ({ cls := "LackFerry", name := "loads", desc := "(I)I" } : Jvm.MethodName)) ∈ ab_G := ab_g 840 rfl rfl
set_option maxRecDepth 100000 in
theorem kw_841 : (Jvm.Cond.code ({ cls := "LackFerry", name := "loads", desc := "(I)I" } : Jvm.MethodName) prog_1_method_40_code (2 : Nat) (Option.some Jvm.ClassFile.FieldType.int)) ∈ ab_G := ab_g 841 rfl rfl
set_option maxRecDepth 100000 in
theorem kw_842 : (Jvm.Cond.methodLink "LackFerryLaw" (130 : Nat) ({ cls := "LackFerry", name := "settles", desc := "()I" } : Jvm.MethodName)) ∈ ab_G := ab_g 842 rfl rfl
set_option maxRecDepth 100000 in
theorem kw_843 : (Jvm.Cond.instanceMethod ({ cls := "LackFerry", name := "settles", desc := "()I" } : Jvm.MethodName)) ∈ ab_G := ab_g 843 rfl rfl
set_option maxRecDepth 100000 in
theorem kw_844 : (Jvm.Cond.selects "LackFerry" ({ cls := "LackFerry", name := "settles", desc := "()I" } : Jvm.MethodName) ({ cls := "LackFerry", name := "settles", desc := "()I" } : Jvm.MethodName)) ∈ ab_G := ab_g 844 rfl rfl
set_option maxRecDepth 100000 in
theorem kw_845 : (Jvm.Cond.code ({ cls := "LackFerry", name := "settles", desc := "()I" } : Jvm.MethodName) prog_1_method_41_code (2 : Nat) (Option.some Jvm.ClassFile.FieldType.int)) ∈ ab_G := ab_g 845 rfl rfl
set_option maxRecDepth 100000 in
theorem kw_846 : (Jvm.Cond.methodLink "LackFerry" (305 : Nat) ({ cls := "LackFerry$Shores", name := "looksLike", desc := "(LLackFerry$Shores;)Z" } : Jvm.MethodName)) ∈ ab_G := ab_g 846 rfl rfl
set_option maxRecDepth 100000 in
theorem kw_847 : (Jvm.Cond.instanceMethod ({ cls := "LackFerry$Shores", name := "looksLike", desc := "(LLackFerry$Shores;)Z" } : Jvm.MethodName)) ∈ ab_G := ab_g 847 rfl rfl
set_option maxRecDepth 100000 in
theorem kw_848 : (Jvm.Cond.selects "LackFerry$Shores" ({ cls := "LackFerry$Shores", name := "looksLike", desc := "(LLackFerry$Shores;)Z" } : Jvm.MethodName) ({ cls := "LackFerry$Shores", name := "looksLike", desc := "(LLackFerry$Shores;)Z" } : Jvm.MethodName)) ∈ ab_G := ab_g 848 rfl rfl
set_option maxRecDepth 100000 in
theorem kw_849 : (Jvm.Cond.code ({ cls := "LackFerry$Shores", name := "looksLike", desc := "(LLackFerry$Shores;)Z" } : Jvm.MethodName) prog_8_method_4_code (3 : Nat) (Option.some Jvm.ClassFile.FieldType.boolean)) ∈ ab_G := ab_g 849 rfl rfl
set_option maxRecDepth 100000 in
theorem kw_850 : (Jvm.Cond.methodLink "LackFerryLaw" (134 : Nat) ({ cls := "LackFerry", name := "hunger", desc := "(III)I" } : Jvm.MethodName)) ∈ ab_G := ab_g 850 rfl rfl
set_option maxRecDepth 100000 in
theorem kw_851 : (Jvm.Cond.instanceMethod ({ cls := "LackFerry", name := "hunger", desc := "(III)I" } : Jvm.MethodName)) ∈ ab_G := ab_g 851 rfl rfl
set_option maxRecDepth 100000 in
theorem kw_852 : (Jvm.Cond.selects "LackFerry" ({ cls := "LackFerry", name := "hunger", desc := "(III)I" } : Jvm.MethodName) ({ cls := "LackFerry", name := "hunger", desc := "(III)I" } : Jvm.MethodName)) ∈ ab_G := ab_g 852 rfl rfl
set_option maxRecDepth 100000 in
theorem kw_853 : (Jvm.Cond.code ({ cls := "LackFerry", name := "hunger", desc := "(III)I" } : Jvm.MethodName) prog_1_method_42_code (5 : Nat) (Option.some Jvm.ClassFile.FieldType.int)) ∈ ab_G := ab_g 853 rfl rfl
set_option maxRecDepth 100000 in
theorem kw_854 : (Jvm.Cond.methodLink "LackFerryLaw" (126 : Nat) ({ cls := "LackFerry", name := "which", desc := "()I" } : Jvm.MethodName)) ∈ ab_G := ab_g 854 rfl rfl
set_option maxRecDepth 100000 in
theorem kw_855 : (Jvm.Cond.instanceMethod ({ cls := "LackFerry", name := "which", desc := "()I" } : Jvm.MethodName)) ∈ ab_G := ab_g 855 rfl rfl
set_option maxRecDepth 100000 in
theorem kw_856 : (Jvm.Cond.selects "LackFerry" ({ cls := "LackFerry", name := "which", desc := "()I" } : Jvm.MethodName) ({ cls := "LackFerry", name := "which", desc := "()I" } : Jvm.MethodName)) ∈ ab_G := ab_g 856 rfl rfl
set_option maxRecDepth 100000 in
theorem kw_857 : (Jvm.Cond.code ({ cls := "LackFerry", name := "which", desc := "()I" } : Jvm.MethodName) prog_1_method_43_code (6 : Nat) (Option.some Jvm.ClassFile.FieldType.int)) ∈ ab_G := ab_g 857 rfl rfl
set_option maxRecDepth 100000 in
theorem kw_858 : (Jvm.Cond.methodLink "LackFerry" (309 : Nat) ({ cls := "LackFerry$Tape", name := "valueAt", desc := "(I)I" } : Jvm.MethodName)) ∈ ab_G := ab_g 858 rfl rfl
set_option maxRecDepth 100000 in
theorem kw_859 : (Jvm.Cond.methodLink "LackFerry" (312 : Nat) ({ cls := "LackFerry", name := "couldGoSo", desc := "(II)Z" } : Jvm.MethodName)) ∈ ab_G := ab_g 859 rfl rfl
set_option maxRecDepth 100000 in
theorem kw_861 : (Jvm.Cond.instanceMethod ({ cls := "LackFerry", name := "couldGoSo", desc := "(II)Z" } : Jvm.MethodName)) ∈ ab_G := ab_g 861 rfl rfl
set_option maxRecDepth 100000 in
theorem kw_862 : (Jvm.Cond.code ({ cls := "LackFerry", name := "couldGoSo", desc := "(II)Z" } : Jvm.MethodName) prog_1_method_44_code (4 : Nat) (Option.some Jvm.ClassFile.FieldType.boolean)) ∈ ab_G := ab_g 862 rfl rfl
set_option maxRecDepth 100000 in
theorem kw_863 : (Jvm.Cond.methodLink "LackFerryLaw" (138 : Nat) ({ cls := "LackFerry", name := "prices", desc := "()I" } : Jvm.MethodName)) ∈ ab_G := ab_g 863 rfl rfl
set_option maxRecDepth 100000 in
theorem kw_864 : (Jvm.Cond.instanceMethod ({ cls := "LackFerry", name := "prices", desc := "()I" } : Jvm.MethodName)) ∈ ab_G := ab_g 864 rfl rfl
set_option maxRecDepth 100000 in
theorem kw_865 : (Jvm.Cond.selects "LackFerry" ({ cls := "LackFerry", name := "prices", desc := "()I" } : Jvm.MethodName) ({ cls := "LackFerry", name := "prices", desc := "()I" } : Jvm.MethodName)) ∈ ab_G := ab_g 865 rfl rfl
set_option maxRecDepth 100000 in
theorem kw_866 : (Jvm.Cond.code ({ cls := "LackFerry", name := "prices", desc := "()I" } : Jvm.MethodName) prog_1_method_45_code (2 : Nat) (Option.some Jvm.ClassFile.FieldType.int)) ∈ ab_G := ab_g 866 rfl rfl
set_option maxRecDepth 100000 in
theorem kw_867 : (Jvm.Cond.methodLink "LackFerry" (318 : Nat) ({ cls := "LackFerry", name := "movePrices", desc := "()Z" } : Jvm.MethodName)) ∈ ab_G := ab_g 867 rfl rfl
set_option maxRecDepth 100000 in
theorem kw_869 : (Jvm.Cond.instanceMethod ({ cls := "LackFerry", name := "movePrices", desc := "()Z" } : Jvm.MethodName)) ∈ ab_G := ab_g 869 rfl rfl
set_option maxRecDepth 100000 in
theorem kw_870 : (Jvm.Cond.code ({ cls := "LackFerry", name := "movePrices", desc := "()Z" } : Jvm.MethodName) prog_1_method_46_code (4 : Nat) (Option.some Jvm.ClassFile.FieldType.boolean)) ∈ ab_G := ab_g 870 rfl rfl
set_option maxRecDepth 100000 in
theorem kw_871 : (Jvm.Cond.methodLink "LackFerryLaw" (142 : Nat) ({ cls := "LackFerry", name := "price", desc := "(II)I" } : Jvm.MethodName)) ∈ ab_G := ab_g 871 rfl rfl
set_option maxRecDepth 100000 in
theorem kw_872 : (Jvm.Cond.instanceMethod ({ cls := "LackFerry", name := "price", desc := "(II)I" } : Jvm.MethodName)) ∈ ab_G := ab_g 872 rfl rfl
set_option maxRecDepth 100000 in
theorem kw_873 : (Jvm.Cond.selects "LackFerry" ({ cls := "LackFerry", name := "price", desc := "(II)I" } : Jvm.MethodName) ({ cls := "LackFerry", name := "price", desc := "(II)I" } : Jvm.MethodName)) ∈ ab_G := ab_g 873 rfl rfl
set_option maxRecDepth 100000 in
theorem kw_874 : (Jvm.Cond.code ({ cls := "LackFerry", name := "price", desc := "(II)I" } : Jvm.MethodName) prog_1_method_47_code (4 : Nat) (Option.some Jvm.ClassFile.FieldType.int)) ∈ ab_G := ab_g 874 rfl rfl
set_option maxRecDepth 100000 in
theorem kw_875 : (Jvm.Cond.methodLink "LackFerryLaw" (158 : Nat) ({ cls := "LackFerry", name := "drawn", desc := "(II)I" } : Jvm.MethodName)) ∈ ab_G := ab_g 875 rfl rfl
set_option maxRecDepth 100000 in
theorem kw_876 : (Jvm.Cond.instanceMethod ({ cls := "LackFerry", name := "drawn", desc := "(II)I" } : Jvm.MethodName)) ∈ ab_G := ab_g 876 rfl rfl
set_option maxRecDepth 100000 in
theorem kw_877 : (Jvm.Cond.selects "LackFerry" ({ cls := "LackFerry", name := "drawn", desc := "(II)I" } : Jvm.MethodName) ({ cls := "LackFerry", name := "drawn", desc := "(II)I" } : Jvm.MethodName)) ∈ ab_G := ab_g 877 rfl rfl
set_option maxRecDepth 100000 in
theorem kw_878 : (Jvm.Cond.code ({ cls := "LackFerry", name := "drawn", desc := "(II)I" } : Jvm.MethodName) prog_1_method_48_code (3 : Nat) (Option.some Jvm.ClassFile.FieldType.int)) ∈ ab_G := ab_g 878 rfl rfl
set_option maxRecDepth 100000 in
theorem kw_879 : (Jvm.Cond.methodLink "LackFerry" (322 : Nat) ({ cls := "LackFerry", name := "drawDays", desc := "(LLackFerry$Shores;II)I" } : Jvm.MethodName)) ∈ ab_G := ab_g 879 rfl rfl
set_option maxRecDepth 100000 in
theorem kw_881 : (Jvm.Cond.instanceMethod ({ cls := "LackFerry", name := "drawDays", desc := "(LLackFerry$Shores;II)I" } : Jvm.MethodName)) ∈ ab_G := ab_g 881 rfl rfl
set_option maxRecDepth 100000 in
theorem kw_882 : (Jvm.Cond.code ({ cls := "LackFerry", name := "drawDays", desc := "(LLackFerry$Shores;II)I" } : Jvm.MethodName) prog_1_method_50_code (6 : Nat) (Option.some Jvm.ClassFile.FieldType.int)) ∈ ab_G := ab_g 882 rfl rfl
set_option maxRecDepth 100000 in
theorem kw_883 : (Jvm.Cond.methodLink "LackFerry" (329 : Nat) ({ cls := "LackFerry", name := "drawDeed", desc := "(LLackFerry$Shores;)V" } : Jvm.MethodName)) ∈ ab_G := ab_g 883 rfl rfl
set_option maxRecDepth 100000 in
theorem kw_885 : (Jvm.Cond.instanceMethod ({ cls := "LackFerry", name := "drawDeed", desc := "(LLackFerry$Shores;)V" } : Jvm.MethodName)) ∈ ab_G := ab_g 885 rfl rfl
set_option maxRecDepth 100000 in
theorem kw_886 : (Jvm.Cond.code ({ cls := "LackFerry", name := "drawDeed", desc := "(LLackFerry$Shores;)V" } : Jvm.MethodName) prog_1_method_51_code (6 : Nat) (Option.none : Option Jvm.ClassFile.FieldType)) ∈ ab_G := ab_g 886 rfl rfl
set_option maxRecDepth 100000 in
theorem kw_887 : (Jvm.Cond.methodLink "LackFerry" (335 : Nat) ({ cls := "LackFerry$Draws", name := "drawOf", desc := "(I)I" } : Jvm.MethodName)) ∈ ab_G := ab_g 887 rfl rfl
set_option maxRecDepth 100000 in
theorem kw_888 : (Jvm.Cond.instanceMethod ({ cls := "LackFerry$Draws", name := "drawOf", desc := "(I)I" } : Jvm.MethodName)) ∈ ab_G := ab_g 888 rfl rfl
set_option maxRecDepth 100000 in
theorem kw_889 : (Jvm.Cond.selects "LackFerry$Draws" ({ cls := "LackFerry$Draws", name := "drawOf", desc := "(I)I" } : Jvm.MethodName) ({ cls := "LackFerry$Draws", name := "drawOf", desc := "(I)I" } : Jvm.MethodName)) ∈ ab_G := ab_g 889 rfl rfl
set_option maxRecDepth 100000 in
theorem kw_890 : (Jvm.Cond.code ({ cls := "LackFerry$Draws", name := "drawOf", desc := "(I)I" } : Jvm.MethodName) prog_2_method_2_code (2 : Nat) (Option.some Jvm.ClassFile.FieldType.int)) ∈ ab_G := ab_g 890 rfl rfl
set_option maxRecDepth 100000 in
theorem kw_891 : (Jvm.Cond.constant "LackFerry$Draws" (13 : Nat) (1103515245 : Int32)) ∈ ab_G := ab_g 891 rfl rfl
set_option maxRecDepth 100000 in
theorem kw_892 : (Jvm.Cond.methodLink "LackFerry" (338 : Nat) ({ cls := "LackFerry$Shores", name := "attempt", desc := "(III)I" } : Jvm.MethodName)) ∈ ab_G := ab_g 892 rfl rfl
set_option maxRecDepth 100000 in
theorem kw_893 : (Jvm.Cond.instanceMethod ({ cls := "LackFerry$Shores", name := "attempt", desc := "(III)I" } : Jvm.MethodName)) ∈ ab_G := ab_g 893 rfl rfl
set_option maxRecDepth 100000 in
theorem kw_894 : (Jvm.Cond.selects "LackFerry$Shores" ({ cls := "LackFerry$Shores", name := "attempt", desc := "(III)I" } : Jvm.MethodName) ({ cls := "LackFerry$Shores", name := "attempt", desc := "(III)I" } : Jvm.MethodName)) ∈ ab_G := ab_g 894 rfl rfl
set_option maxRecDepth 100000 in
theorem kw_895 : (Jvm.Cond.code ({ cls := "LackFerry$Shores", name := "attempt", desc := "(III)I" } : Jvm.MethodName) prog_8_method_19_code (5 : Nat) (Option.some Jvm.ClassFile.FieldType.int)) ∈ ab_G := ab_g 895 rfl rfl
set_option maxRecDepth 100000 in
theorem kw_896 : (Jvm.Cond.methodLink "LackFerry$Shores" (89 : Nat) ({ cls := "LackFerry$Shores", name := "whyNot", desc := "(III)I" } : Jvm.MethodName)) ∈ ab_G := ab_g 896 rfl rfl
set_option maxRecDepth 100000 in
theorem kw_897 : (Jvm.Cond.methodLink "LackFerry$Shores" (93 : Nat) ({ cls := "LackFerry$Shores", name := "perform", desc := "(III)V" } : Jvm.MethodName)) ∈ ab_G := ab_g 897 rfl rfl
set_option maxRecDepth 100000 in
theorem kw_898 : (Jvm.Cond.methodLink "LackFerry" (332 : Nat) ({ cls := "LackFerry", name := "drawDeath", desc := "(LLackFerry$Shores;)V" } : Jvm.MethodName)) ∈ ab_G := ab_g 898 rfl rfl
set_option maxRecDepth 100000 in
theorem kw_900 : (Jvm.Cond.instanceMethod ({ cls := "LackFerry", name := "drawDeath", desc := "(LLackFerry$Shores;)V" } : Jvm.MethodName)) ∈ ab_G := ab_g 900 rfl rfl
set_option maxRecDepth 100000 in
theorem kw_901 : (Jvm.Cond.code ({ cls := "LackFerry", name := "drawDeath", desc := "(LLackFerry$Shores;)V" } : Jvm.MethodName) prog_1_method_52_code (2 : Nat) (Option.none : Option Jvm.ClassFile.FieldType)) ∈ ab_G := ab_g 901 rfl rfl
set_option maxRecDepth 100000 in
theorem kw_902 : (Jvm.Cond.methodLink "LackFerryLaw" (162 : Nat) ({ cls := "LackFerry", name := "odds", desc := "(III)I" } : Jvm.MethodName)) ∈ ab_G := ab_g 902 rfl rfl
set_option maxRecDepth 100000 in
theorem kw_903 : (Jvm.Cond.instanceMethod ({ cls := "LackFerry", name := "odds", desc := "(III)I" } : Jvm.MethodName)) ∈ ab_G := ab_g 903 rfl rfl
set_option maxRecDepth 100000 in
theorem kw_904 : (Jvm.Cond.selects "LackFerry" ({ cls := "LackFerry", name := "odds", desc := "(III)I" } : Jvm.MethodName) ({ cls := "LackFerry", name := "odds", desc := "(III)I" } : Jvm.MethodName)) ∈ ab_G := ab_g 904 rfl rfl
set_option maxRecDepth 100000 in
theorem kw_905 : (Jvm.Cond.code ({ cls := "LackFerry", name := "odds", desc := "(III)I" } : Jvm.MethodName) prog_1_method_49_code (6 : Nat) (Option.some Jvm.ClassFile.FieldType.int)) ∈ ab_G := ab_g 905 rfl rfl
set_option maxRecDepth 100000 in
theorem kw_906 : (Jvm.Cond.methodLink "LackFerryLaw" (166 : Nat) ({ cls := "LackFerry", name := "log", desc := "(I)I" } : Jvm.MethodName)) ∈ ab_G := ab_g 906 rfl rfl
set_option maxRecDepth 100000 in
theorem kw_907 : (Jvm.Cond.instanceMethod ({ cls := "LackFerry", name := "log", desc := "(I)I" } : Jvm.MethodName)) ∈ ab_G := ab_g 907 rfl rfl
set_option maxRecDepth 100000 in
theorem kw_908 : (Jvm.Cond.selects "LackFerry" ({ cls := "LackFerry", name := "log", desc := "(I)I" } : Jvm.MethodName) ({ cls := "LackFerry", name := "log", desc := "(I)I" } : Jvm.MethodName)) ∈ ab_G := ab_g 908 rfl rfl
set_option maxRecDepth 100000 in
theorem kw_909 : (Jvm.Cond.code ({ cls := "LackFerry", name := "log", desc := "(I)I" } : Jvm.MethodName) prog_1_method_53_code (3 : Nat) (Option.some Jvm.ClassFile.FieldType.int)) ∈ ab_G := ab_g 909 rfl rfl
set_option maxRecDepth 100000 in
theorem kw_910 : (Jvm.Cond.methodLink "LackFerry" (341 : Nat) ({ cls := "LackFerry$LogText", name := "readText", desc := "(LLackFerry$Tokens;LLackFerry$Strait;)V" } : Jvm.MethodName)) ∈ ab_G := ab_g 910 rfl rfl
set_option maxRecDepth 100000 in
theorem kw_911 : (Jvm.Cond.instanceMethod ({ cls := "LackFerry$LogText", name := "readText", desc := "(LLackFerry$Tokens;LLackFerry$Strait;)V" } : Jvm.MethodName)) ∈ ab_G := ab_g 911 rfl rfl
set_option maxRecDepth 100000 in
theorem kw_912 : (Jvm.Cond.selects "LackFerry$LogText" ({ cls := "LackFerry$LogText", name := "readText", desc := "(LLackFerry$Tokens;LLackFerry$Strait;)V" } : Jvm.MethodName) ({ cls := "LackFerry$LogText", name := "readText", desc := "(LLackFerry$Tokens;LLackFerry$Strait;)V" } : Jvm.MethodName)) ∈ ab_G := ab_g 912 rfl rfl
set_option maxRecDepth 100000 in
theorem kw_913 : (Jvm.Cond.code ({ cls := "LackFerry$LogText", name := "readText", desc := "(LLackFerry$Tokens;LLackFerry$Strait;)V" } : Jvm.MethodName) prog_6_method_2_code (5 : Nat) (Option.none : Option Jvm.ClassFile.FieldType)) ∈ ab_G := ab_g 913 rfl rfl
set_option maxRecDepth 100000 in
theorem kw_914 : (Jvm.Cond.methodLink "LackFerry$LogText" (25 : Nat) ({ cls := "LackFerry$Tokens", name := "step", desc := "()V" } : Jvm.MethodName)) ∈ ab_G := ab_g 914 rfl rfl
set_option maxRecDepth 100000 in
theorem kw_915 : (Jvm.Cond.methodLink "LackFerry$LogText" (33 : Nat) ({ cls := "LackFerry$LogText", name := "readLine", desc := "(LLackFerry$Tokens;LLackFerry$Strait;)Z" } : Jvm.MethodName)) ∈ ab_G := ab_g 915 rfl rfl
set_option maxRecDepth 100000 in
theorem kw_917 : (Jvm.Cond.instanceMethod ({ cls := "LackFerry$LogText", name := "readLine", desc := "(LLackFerry$Tokens;LLackFerry$Strait;)Z" } : Jvm.MethodName)) ∈ ab_G := ab_g 917 rfl rfl
set_option maxRecDepth 100000 in
theorem kw_918 : (Jvm.Cond.code ({ cls := "LackFerry$LogText", name := "readLine", desc := "(LLackFerry$Tokens;LLackFerry$Strait;)Z" } : Jvm.MethodName) prog_6_method_3_code (6 : Nat) (Option.some Jvm.ClassFile.FieldType.boolean)) ∈ ab_G := ab_g 918 rfl rfl
set_option maxRecDepth 100000 in
theorem kw_919 : (Jvm.Cond.methodLink "LackFerry$LogText" (41 : Nat) ({ cls := "LackFerry$Tokens", name := "fail", desc := "(I)Z" } : Jvm.MethodName)) ∈ ab_G := ab_g 919 rfl rfl
set_option maxRecDepth 100000 in
theorem kw_920 : (Jvm.Cond.methodLink "LackFerry$LogText" (48 : Nat) ({ cls := "LackFerry$Strait", name := "manNamed", desc := "(J)I" } : Jvm.MethodName)) ∈ ab_G := ab_g 920 rfl rfl
set_option maxRecDepth 100000 in
theorem kw_921 : (Jvm.Cond.methodLink "LackFerry$LogText" (54 : Nat) ({ cls := "LackFerry$LogText", name := "readDeed", desc := "(LLackFerry$Tokens;LLackFerry$Strait;I)Z" } : Jvm.MethodName)) ∈ ab_G := ab_g 921 rfl rfl
set_option maxRecDepth 100000 in
theorem kw_923 : (Jvm.Cond.instanceMethod ({ cls := "LackFerry$LogText", name := "readDeed", desc := "(LLackFerry$Tokens;LLackFerry$Strait;I)Z" } : Jvm.MethodName)) ∈ ab_G := ab_g 923 rfl rfl
set_option maxRecDepth 100000 in
theorem kw_924 : (Jvm.Cond.code ({ cls := "LackFerry$LogText", name := "readDeed", desc := "(LLackFerry$Tokens;LLackFerry$Strait;I)Z" } : Jvm.MethodName) prog_6_method_4_code (6 : Nat) (Option.some Jvm.ClassFile.FieldType.boolean)) ∈ ab_G := ab_g 924 rfl rfl
set_option maxRecDepth 100000 in
theorem kw_925 : (Jvm.Cond.methodLink "LackFerry$LogText" (66 : Nat) ({ cls := "LackFerry$Strait", name := "takeGood", desc := "(LLackFerry$Tokens;)I" } : Jvm.MethodName)) ∈ ab_G := ab_g 925 rfl rfl
set_option maxRecDepth 100000 in
theorem kw_926 : (Jvm.Cond.methodLink "LackFerry$LogText" (70 : Nat) ({ cls := "LackFerry$Tokens", name := "takeNumber", desc := "(II)Z" } : Jvm.MethodName)) ∈ ab_G := ab_g 926 rfl rfl
set_option maxRecDepth 100000 in
theorem kw_928 : (Jvm.Cond.methodLink "LackFerry$LogText" (81 : Nat) ({ cls := "LackFerry$LogText", name := "addLine", desc := "(III)Z" } : Jvm.MethodName)) ∈ ab_G := ab_g 928 rfl rfl
set_option maxRecDepth 100000 in
theorem kw_930 : (Jvm.Cond.instanceMethod ({ cls := "LackFerry$LogText", name := "addLine", desc := "(III)Z" } : Jvm.MethodName)) ∈ ab_G := ab_g 930 rfl rfl
set_option maxRecDepth 100000 in
theorem kw_931 : (Jvm.Cond.code ({ cls := "LackFerry$LogText", name := "addLine", desc := "(III)Z" } : Jvm.MethodName) prog_6_method_7_code (4 : Nat) (Option.some Jvm.ClassFile.FieldType.boolean)) ∈ ab_G := ab_g 931 rfl rfl
set_option maxRecDepth 100000 in
theorem kw_932 : (Jvm.Cond.methodLink "LackFerry$LogText" (58 : Nat) ({ cls := "LackFerry$LogText", name := "readDays", desc := "(LLackFerry$Tokens;)Z" } : Jvm.MethodName)) ∈ ab_G := ab_g 932 rfl rfl
set_option maxRecDepth 100000 in
theorem kw_934 : (Jvm.Cond.instanceMethod ({ cls := "LackFerry$LogText", name := "readDays", desc := "(LLackFerry$Tokens;)Z" } : Jvm.MethodName)) ∈ ab_G := ab_g 934 rfl rfl
set_option maxRecDepth 100000 in
theorem kw_935 : (Jvm.Cond.code ({ cls := "LackFerry$LogText", name := "readDays", desc := "(LLackFerry$Tokens;)Z" } : Jvm.MethodName) prog_6_method_5_code (2 : Nat) (Option.some Jvm.ClassFile.FieldType.boolean)) ∈ ab_G := ab_g 935 rfl rfl
set_option maxRecDepth 100000 in
theorem kw_936 : (Jvm.Cond.methodLink "LackFerry$LogText" (62 : Nat) ({ cls := "LackFerry$LogText", name := "readDeath", desc := "(LLackFerry$Tokens;I)Z" } : Jvm.MethodName)) ∈ ab_G := ab_g 936 rfl rfl
set_option maxRecDepth 100000 in
theorem kw_938 : (Jvm.Cond.instanceMethod ({ cls := "LackFerry$LogText", name := "readDeath", desc := "(LLackFerry$Tokens;I)Z" } : Jvm.MethodName)) ∈ ab_G := ab_g 938 rfl rfl
set_option maxRecDepth 100000 in
theorem kw_939 : (Jvm.Cond.code ({ cls := "LackFerry$LogText", name := "readDeath", desc := "(LLackFerry$Tokens;I)Z" } : Jvm.MethodName) prog_6_method_6_code (3 : Nat) (Option.some Jvm.ClassFile.FieldType.boolean)) ∈ ab_G := ab_g 939 rfl rfl
set_option maxRecDepth 100000 in
theorem kw_940 : (Jvm.Cond.methodLink "LackFerry$LogText" (37 : Nat) ({ cls := "LackFerry$Tokens", name := "takeSign", desc := "(I)Z" } : Jvm.MethodName)) ∈ ab_G := ab_g 940 rfl rfl
set_option maxRecDepth 100000 in
theorem kw_941 : (Jvm.Cond.methodLink "LackFerry" (344 : Nat) ({ cls := "LackFerry", name := "judgeLog", desc := "()I" } : Jvm.MethodName)) ∈ ab_G := ab_g 941 rfl rfl
set_option maxRecDepth 100000 in
theorem kw_943 : (Jvm.Cond.instanceMethod ({ cls := "LackFerry", name := "judgeLog", desc := "()I" } : Jvm.MethodName)) ∈ ab_G := ab_g 943 rfl rfl
set_option maxRecDepth 100000 in
theorem kw_944 : (Jvm.Cond.code ({ cls := "LackFerry", name := "judgeLog", desc := "()I" } : Jvm.MethodName) prog_1_method_54_code (3 : Nat) (Option.some Jvm.ClassFile.FieldType.int)) ∈ ab_G := ab_g 944 rfl rfl
set_option maxRecDepth 100000 in
theorem kw_945 : (Jvm.Cond.methodLink "LackFerry" (359 : Nat) ({ cls := "LackFerry", name := "liveLine", desc := "(III)I" } : Jvm.MethodName)) ∈ ab_G := ab_g 945 rfl rfl
set_option maxRecDepth 100000 in
theorem kw_947 : (Jvm.Cond.instanceMethod ({ cls := "LackFerry", name := "liveLine", desc := "(III)I" } : Jvm.MethodName)) ∈ ab_G := ab_g 947 rfl rfl
set_option maxRecDepth 100000 in
theorem kw_948 : (Jvm.Cond.code ({ cls := "LackFerry", name := "liveLine", desc := "(III)I" } : Jvm.MethodName) prog_1_method_55_code (5 : Nat) (Option.some Jvm.ClassFile.FieldType.int)) ∈ ab_G := ab_g 948 rfl rfl
set_option maxRecDepth 100000 in
theorem kw_949 : (Jvm.Cond.methodLink "LackFerryLaw" (170 : Nat) ({ cls := "LackFerry", name := "logged", desc := "(I)I" } : Jvm.MethodName)) ∈ ab_G := ab_g 949 rfl rfl
set_option maxRecDepth 100000 in
theorem kw_950 : (Jvm.Cond.instanceMethod ({ cls := "LackFerry", name := "logged", desc := "(I)I" } : Jvm.MethodName)) ∈ ab_G := ab_g 950 rfl rfl
set_option maxRecDepth 100000 in
theorem kw_951 : (Jvm.Cond.selects "LackFerry" ({ cls := "LackFerry", name := "logged", desc := "(I)I" } : Jvm.MethodName) ({ cls := "LackFerry", name := "logged", desc := "(I)I" } : Jvm.MethodName)) ∈ ab_G := ab_g 951 rfl rfl
set_option maxRecDepth 100000 in
theorem kw_952 : (Jvm.Cond.code ({ cls := "LackFerry", name := "logged", desc := "(I)I" } : Jvm.MethodName) prog_1_method_56_code (2 : Nat) (Option.some Jvm.ClassFile.FieldType.int)) ∈ ab_G := ab_g 952 rfl rfl
set_option maxRecDepth 100000 in
theorem kw_953 : (Jvm.Cond.methodLink "LackFerryLaw" (174 : Nat) ({ cls := "LackFerry", name := "sentence", desc := "()I" } : Jvm.MethodName)) ∈ ab_G := ab_g 953 rfl rfl
set_option maxRecDepth 100000 in
theorem kw_954 : (Jvm.Cond.instanceMethod ({ cls := "LackFerry", name := "sentence", desc := "()I" } : Jvm.MethodName)) ∈ ab_G := ab_g 954 rfl rfl
set_option maxRecDepth 100000 in
theorem kw_955 : (Jvm.Cond.selects "LackFerry" ({ cls := "LackFerry", name := "sentence", desc := "()I" } : Jvm.MethodName) ({ cls := "LackFerry", name := "sentence", desc := "()I" } : Jvm.MethodName)) ∈ ab_G := ab_g 955 rfl rfl
set_option maxRecDepth 100000 in
theorem kw_956 : (Jvm.Cond.code ({ cls := "LackFerry", name := "sentence", desc := "()I" } : Jvm.MethodName) prog_1_method_57_code (2 : Nat) (Option.some Jvm.ClassFile.FieldType.int)) ∈ ab_G := ab_g 956 rfl rfl
set_option maxRecDepth 100000 in
theorem kw_957 : (Jvm.Cond.methodLink "LackFerry" (362 : Nat) ({ cls := "LackFerry$Sentence", name := "readText", desc := "(LLackFerry$Tokens;)V" } : Jvm.MethodName)) ∈ ab_G := ab_g 957 rfl rfl
set_option maxRecDepth 100000 in
theorem kw_958 : (Jvm.Cond.instanceMethod ({ cls := "LackFerry$Sentence", name := "readText", desc := "(LLackFerry$Tokens;)V" } : Jvm.MethodName)) ∈ ab_G := ab_g 958 rfl rfl
set_option maxRecDepth 100000 in
theorem kw_959 : (Jvm.Cond.selects "LackFerry$Sentence" ({ cls := "LackFerry$Sentence", name := "readText", desc := "(LLackFerry$Tokens;)V" } : Jvm.MethodName) ({ cls := "LackFerry$Sentence", name := "readText", desc := "(LLackFerry$Tokens;)V" } : Jvm.MethodName)) ∈ ab_G := ab_g 959 rfl rfl
set_option maxRecDepth 100000 in
theorem kw_960 : (Jvm.Cond.code ({ cls := "LackFerry$Sentence", name := "readText", desc := "(LLackFerry$Tokens;)V" } : Jvm.MethodName) prog_7_method_3_code (2 : Nat) (Option.none : Option Jvm.ClassFile.FieldType)) ∈ ab_G := ab_g 960 rfl rfl
set_option maxRecDepth 100000 in
theorem kw_961 : (Jvm.Cond.methodLink "LackFerry$Sentence" (38 : Nat) ({ cls := "LackFerry$Tokens", name := "step", desc := "()V" } : Jvm.MethodName)) ∈ ab_G := ab_g 961 rfl rfl
set_option maxRecDepth 100000 in
theorem kw_962 : (Jvm.Cond.methodLink "LackFerry$Sentence" (43 : Nat) ({ cls := "LackFerry$Sentence", name := "readCond", desc := "(LLackFerry$Tokens;I)Z" } : Jvm.MethodName)) ∈ ab_G := ab_g 962 rfl rfl
set_option maxRecDepth 100000 in
theorem kw_964 : (Jvm.Cond.instanceMethod ({ cls := "LackFerry$Sentence", name := "readCond", desc := "(LLackFerry$Tokens;I)Z" } : Jvm.MethodName)) ∈ ab_G := ab_g 964 rfl rfl
set_option maxRecDepth 100000 in
theorem kw_965 : (Jvm.Cond.code ({ cls := "LackFerry$Sentence", name := "readCond", desc := "(LLackFerry$Tokens;I)Z" } : Jvm.MethodName) prog_7_method_4_code (4 : Nat) (Option.some Jvm.ClassFile.FieldType.boolean)) ∈ ab_G := ab_g 965 rfl rfl
set_option maxRecDepth 100000 in
theorem kw_966 : (Jvm.Cond.methodLink "LackFerry$Sentence" (54 : Nat) ({ cls := "LackFerry$Sentence", name := "readAll", desc := "(LLackFerry$Tokens;I)Z" } : Jvm.MethodName)) ∈ ab_G := ab_g 966 rfl rfl
set_option maxRecDepth 100000 in
theorem kw_968 : (Jvm.Cond.instanceMethod ({ cls := "LackFerry$Sentence", name := "readAll", desc := "(LLackFerry$Tokens;I)Z" } : Jvm.MethodName)) ∈ ab_G := ab_g 968 rfl rfl
set_option maxRecDepth 100000 in
theorem kw_969 : (Jvm.Cond.code ({ cls := "LackFerry$Sentence", name := "readAll", desc := "(LLackFerry$Tokens;I)Z" } : Jvm.MethodName) prog_7_method_5_code (4 : Nat) (Option.some Jvm.ClassFile.FieldType.boolean)) ∈ ab_G := ab_g 969 rfl rfl
set_option maxRecDepth 100000 in
theorem kw_970 : (Jvm.Cond.methodLink "LackFerry$Sentence" (61 : Nat) ({ cls := "LackFerry$Sentence", name := "readOne", desc := "(LLackFerry$Tokens;I)Z" } : Jvm.MethodName)) ∈ ab_G := ab_g 970 rfl rfl
set_option maxRecDepth 100000 in
theorem kw_972 : (Jvm.Cond.instanceMethod ({ cls := "LackFerry$Sentence", name := "readOne", desc := "(LLackFerry$Tokens;I)Z" } : Jvm.MethodName)) ∈ ab_G := ab_g 972 rfl rfl
set_option maxRecDepth 100000 in
theorem kw_973 : (Jvm.Cond.code ({ cls := "LackFerry$Sentence", name := "readOne", desc := "(LLackFerry$Tokens;I)Z" } : Jvm.MethodName) prog_7_method_6_code (6 : Nat) (Option.some Jvm.ClassFile.FieldType.boolean)) ∈ ab_G := ab_g 973 rfl rfl
set_option maxRecDepth 100000 in
theorem kw_974 : (Jvm.Cond.methodLink "LackFerry$Sentence" (50 : Nat) ({ cls := "LackFerry$Tokens", name := "fail", desc := "(I)Z" } : Jvm.MethodName)) ∈ ab_G := ab_g 974 rfl rfl
set_option maxRecDepth 100000 in
theorem kw_979 : (Jvm.Cond.methodLink "LackFerry$Sentence" (57 : Nat) ({ cls := "LackFerry$Sentence", name := "addOp", desc := "(III)Z" } : Jvm.MethodName)) ∈ ab_G := ab_g 979 rfl rfl
set_option maxRecDepth 100000 in
theorem kw_981 : (Jvm.Cond.instanceMethod ({ cls := "LackFerry$Sentence", name := "addOp", desc := "(III)Z" } : Jvm.MethodName)) ∈ ab_G := ab_g 981 rfl rfl
set_option maxRecDepth 100000 in
theorem kw_982 : (Jvm.Cond.code ({ cls := "LackFerry$Sentence", name := "addOp", desc := "(III)Z" } : Jvm.MethodName) prog_7_method_10_code (4 : Nat) (Option.some Jvm.ClassFile.FieldType.boolean)) ∈ ab_G := ab_g 982 rfl rfl
set_option maxRecDepth 100000 in
theorem kw_983 : (Jvm.Cond.methodLink "LackFerry$Sentence" (67 : Nat) ({ cls := "LackFerry$Sentence", name := "readOnShore", desc := "(LLackFerry$Tokens;I)Z" } : Jvm.MethodName)) ∈ ab_G := ab_g 983 rfl rfl
set_option maxRecDepth 100000 in
theorem kw_985 : (Jvm.Cond.instanceMethod ({ cls := "LackFerry$Sentence", name := "readOnShore", desc := "(LLackFerry$Tokens;I)Z" } : Jvm.MethodName)) ∈ ab_G := ab_g 985 rfl rfl
set_option maxRecDepth 100000 in
theorem kw_986 : (Jvm.Cond.code ({ cls := "LackFerry$Sentence", name := "readOnShore", desc := "(LLackFerry$Tokens;I)Z" } : Jvm.MethodName) prog_7_method_8_code (4 : Nat) (Option.some Jvm.ClassFile.FieldType.boolean)) ∈ ab_G := ab_g 986 rfl rfl
set_option maxRecDepth 100000 in
theorem kw_987 : (Jvm.Cond.methodLink "LackFerry$Sentence" (73 : Nat) ({ cls := "LackFerry$Tokens", name := "takeNumber", desc := "(II)Z" } : Jvm.MethodName)) ∈ ab_G := ab_g 987 rfl rfl
set_option maxRecDepth 100000 in
theorem kw_988 : (Jvm.Cond.methodLink "LackFerry$Sentence" (70 : Nat) ({ cls := "LackFerry$Sentence", name := "readCompared", desc := "(LLackFerry$Tokens;I)Z" } : Jvm.MethodName)) ∈ ab_G := ab_g 988 rfl rfl
set_option maxRecDepth 100000 in
theorem kw_990 : (Jvm.Cond.instanceMethod ({ cls := "LackFerry$Sentence", name := "readCompared", desc := "(LLackFerry$Tokens;I)Z" } : Jvm.MethodName)) ∈ ab_G := ab_g 990 rfl rfl
set_option maxRecDepth 100000 in
theorem kw_991 : (Jvm.Cond.code ({ cls := "LackFerry$Sentence", name := "readCompared", desc := "(LLackFerry$Tokens;I)Z" } : Jvm.MethodName) prog_7_method_9_code (5 : Nat) (Option.some Jvm.ClassFile.FieldType.boolean)) ∈ ab_G := ab_g 991 rfl rfl
set_option maxRecDepth 100000 in
theorem kw_992 : (Jvm.Cond.methodLink "LackFerryLaw" (178 : Nat) ({ cls := "LackFerry", name := "said", desc := "(I)I" } : Jvm.MethodName)) ∈ ab_G := ab_g 992 rfl rfl
set_option maxRecDepth 100000 in
theorem kw_993 : (Jvm.Cond.instanceMethod ({ cls := "LackFerry", name := "said", desc := "(I)I" } : Jvm.MethodName)) ∈ ab_G := ab_g 993 rfl rfl
set_option maxRecDepth 100000 in
theorem kw_994 : (Jvm.Cond.selects "LackFerry" ({ cls := "LackFerry", name := "said", desc := "(I)I" } : Jvm.MethodName) ({ cls := "LackFerry", name := "said", desc := "(I)I" } : Jvm.MethodName)) ∈ ab_G := ab_g 994 rfl rfl
set_option maxRecDepth 100000 in
theorem kw_995 : (Jvm.Cond.code ({ cls := "LackFerry", name := "said", desc := "(I)I" } : Jvm.MethodName) prog_1_method_58_code (4 : Nat) (Option.some Jvm.ClassFile.FieldType.int)) ∈ ab_G := ab_g 995 rfl rfl
set_option maxRecDepth 100000 in
theorem kw_996 : (Jvm.Cond.methodLink "LackFerry" (368 : Nat) ({ cls := "LackFerry$Sentence", name := "holdsOf", desc := "(ILLackFerry$Strait;LLackFerry$Shores;)Z" } : Jvm.MethodName)) ∈ ab_G := ab_g 996 rfl rfl
set_option maxRecDepth 100000 in
theorem kw_997 : (Jvm.Cond.instanceMethod ({ cls := "LackFerry$Sentence", name := "holdsOf", desc := "(ILLackFerry$Strait;LLackFerry$Shores;)Z" } : Jvm.MethodName)) ∈ ab_G := ab_g 997 rfl rfl
set_option maxRecDepth 100000 in
theorem kw_998 : (Jvm.Cond.selects "LackFerry$Sentence" ({ cls := "LackFerry$Sentence", name := "holdsOf", desc := "(ILLackFerry$Strait;LLackFerry$Shores;)Z" } : Jvm.MethodName) ({ cls := "LackFerry$Sentence", name := "holdsOf", desc := "(ILLackFerry$Strait;LLackFerry$Shores;)Z" } : Jvm.MethodName)) ∈ ab_G := ab_g 998 rfl rfl
set_option maxRecDepth 100000 in
theorem kw_999 : (Jvm.Cond.code ({ cls := "LackFerry$Sentence", name := "holdsOf", desc := "(ILLackFerry$Strait;LLackFerry$Shores;)Z" } : Jvm.MethodName) prog_7_method_11_code (7 : Nat) (Option.some Jvm.ClassFile.FieldType.boolean)) ∈ ab_G := ab_g 999 rfl rfl
set_option maxRecDepth 100000 in
theorem kw_1000 : (Jvm.Cond.methodLink "LackFerry$Sentence" (80 : Nat) ({ cls := "LackFerry$Sentence", name := "isSo", desc := "(IILLackFerry$Strait;LLackFerry$Shores;)Z" } : Jvm.MethodName)) ∈ ab_G := ab_g 1000 rfl rfl
set_option maxRecDepth 100000 in
theorem kw_1002 : (Jvm.Cond.instanceMethod ({ cls := "LackFerry$Sentence", name := "isSo", desc := "(IILLackFerry$Strait;LLackFerry$Shores;)Z" } : Jvm.MethodName)) ∈ ab_G := ab_g 1002 rfl rfl
set_option maxRecDepth 100000 in
theorem kw_1003 : (Jvm.Cond.code ({ cls := "LackFerry$Sentence", name := "isSo", desc := "(IILLackFerry$Strait;LLackFerry$Shores;)Z" } : Jvm.MethodName) prog_7_method_12_code (5 : Nat) (Option.some Jvm.ClassFile.FieldType.boolean)) ∈ ab_G := ab_g 1003 rfl rfl
set_option maxRecDepth 100000 in
theorem kw_1005 : (Jvm.Cond.methodLink "LackFerry$Sentence" (88 : Nat) ({ cls := "LackFerry$Sentence", name := "isSoThere", desc := "(IILLackFerry$Strait;LLackFerry$Shores;)Z" } : Jvm.MethodName)) ∈ ab_G := ab_g 1005 rfl rfl
set_option maxRecDepth 100000 in
theorem kw_1006 : (Jvm.Cond.static ({ cls := "LackFerry$Sentence", name := "isSoThere", desc := "(IILLackFerry$Strait;LLackFerry$Shores;)Z" } : Jvm.MethodName)) ∈ ab_G := ab_g 1006 rfl rfl
set_option maxRecDepth 100000 in
theorem kw_1007 : (Jvm.Cond.code ({ cls := "LackFerry$Sentence", name := "isSoThere", desc := "(IILLackFerry$Strait;LLackFerry$Shores;)Z" } : Jvm.MethodName) prog_7_method_13_code (4 : Nat) (Option.some Jvm.ClassFile.FieldType.boolean)) ∈ ab_G := ab_g 1007 rfl rfl
set_option maxRecDepth 100000 in
theorem kw_1008 : (Jvm.Cond.methodLink "LackFerry$Sentence" (98 : Nat) ({ cls := "LackFerry$Shores", name := "lackAt", desc := "(LLackFerry$Strait;I)I" } : Jvm.MethodName)) ∈ ab_G := ab_g 1008 rfl rfl
set_option maxRecDepth 100000 in
theorem kw_1009 : (Jvm.Cond.methodLink "LackFerry$Sentence" (107 : Nat) ({ cls := "LackFerry$Strait", name := "amountOf", desc := "(II)I" } : Jvm.MethodName)) ∈ ab_G := ab_g 1009 rfl rfl
set_option maxRecDepth 100000 in
theorem kw_1010 : (Jvm.Cond.methodLink "LackFerry$Sentence" (112 : Nat) ({ cls := "LackFerry$Shores", name := "isFalse", desc := "(LLackFerry$Strait;I)Z" } : Jvm.MethodName)) ∈ ab_G := ab_g 1010 rfl rfl
set_option maxRecDepth 100000 in
theorem kw_1011 : (Jvm.Cond.methodLink "LackFerry$Sentence" (91 : Nat) ({ cls := "LackFerry$Sentence", name := "valueOf", desc := "(IILLackFerry$Shores;)I" } : Jvm.MethodName)) ∈ ab_G := ab_g 1011 rfl rfl
set_option maxRecDepth 100000 in
theorem kw_1012 : (Jvm.Cond.static ({ cls := "LackFerry$Sentence", name := "valueOf", desc := "(IILLackFerry$Shores;)I" } : Jvm.MethodName)) ∈ ab_G := ab_g 1012 rfl rfl
set_option maxRecDepth 100000 in
theorem kw_1013 : (Jvm.Cond.code ({ cls := "LackFerry$Sentence", name := "valueOf", desc := "(IILLackFerry$Shores;)I" } : Jvm.MethodName) prog_7_method_14_code (3 : Nat) (Option.some Jvm.ClassFile.FieldType.int)) ∈ ab_G := ab_g 1013 rfl rfl
set_option maxRecDepth 100000 in
theorem kw_1014 : (Jvm.Cond.methodLink "LackFerry$Sentence" (95 : Nat) ({ cls := "LackFerry$Sentence", name := "isSoCompared", desc := "(III)Z" } : Jvm.MethodName)) ∈ ab_G := ab_g 1014 rfl rfl
set_option maxRecDepth 100000 in
theorem kw_1015 : (Jvm.Cond.static ({ cls := "LackFerry$Sentence", name := "isSoCompared", desc := "(III)Z" } : Jvm.MethodName)) ∈ ab_G := ab_g 1015 rfl rfl
set_option maxRecDepth 100000 in
theorem kw_1016 : (Jvm.Cond.code ({ cls := "LackFerry$Sentence", name := "isSoCompared", desc := "(III)Z" } : Jvm.MethodName) prog_7_method_15_code (3 : Nat) (Option.some Jvm.ClassFile.FieldType.boolean)) ∈ ab_G := ab_g 1016 rfl rfl
set_option maxRecDepth 100000 in
theorem kw_1017 : (Jvm.Cond.methodLink "LackFerryLaw" (182 : Nat) ({ cls := "LackFerry", name := "image", desc := "(I)Z" } : Jvm.MethodName)) ∈ ab_G := ab_g 1017 rfl rfl
set_option maxRecDepth 100000 in
theorem kw_1018 : (Jvm.Cond.instanceMethod ({ cls := "LackFerry", name := "image", desc := "(I)Z" } : Jvm.MethodName)) ∈ ab_G := ab_g 1018 rfl rfl
set_option maxRecDepth 100000 in
theorem kw_1019 : (Jvm.Cond.selects "LackFerry" ({ cls := "LackFerry", name := "image", desc := "(I)Z" } : Jvm.MethodName) ({ cls := "LackFerry", name := "image", desc := "(I)Z" } : Jvm.MethodName)) ∈ ab_G := ab_g 1019 rfl rfl
set_option maxRecDepth 100000 in
theorem kw_1020 : (Jvm.Cond.code ({ cls := "LackFerry", name := "image", desc := "(I)Z" } : Jvm.MethodName) prog_1_method_59_code (3 : Nat) (Option.some Jvm.ClassFile.FieldType.boolean)) ∈ ab_G := ab_g 1020 rfl rfl
set_option maxRecDepth 100000 in
theorem kw_1021 : (Jvm.Cond.instantiable "LackFerry$Image" (3 : Nat)) ∈ ab_G := ab_g 1021 rfl rfl
set_option maxRecDepth 100000 in
theorem kw_1023 : (Jvm.Cond.instanceMethod ({ cls := "LackFerry$Image", name := "<init>", desc := "()V" } : Jvm.MethodName)) ∈ ab_G := ab_g 1023 rfl rfl
set_option maxRecDepth 100000 in
theorem kw_1024 : (Jvm.Cond.code ({ cls := "LackFerry$Image", name := "<init>", desc := "()V" } : Jvm.MethodName) prog_5_method_1_code (1 : Nat) (Option.none : Option Jvm.ClassFile.FieldType)) ∈ ab_G := ab_g 1024 rfl rfl
set_option maxRecDepth 100000 in
theorem kw_1025 : (Jvm.Cond.methodLink "LackFerry$Image" (1 : Nat) ({ cls := "java/lang/Object", name := "<init>", desc := "()V" } : Jvm.MethodName)) ∈ ab_G := ab_g 1025 rfl rfl
set_option maxRecDepth 100000 in
theorem kw_1026 : (Jvm.Cond.classLink "LackFerry$Image" (7 : Nat) "LackFerry$Strait") ∈ ab_G := ab_g 1026 rfl rfl
set_option maxRecDepth 100000 in
theorem kw_1028 : (Jvm.Cond.classLink "LackFerry$Image" (16 : Nat) "LackFerry$Shores") ∈ ab_G := ab_g 1028 rfl rfl
set_option maxRecDepth 100000 in
theorem kw_1030 : (Jvm.Cond.classLink "LackFerry$Image" (23 : Nat) "LackFerry$Sentence") ∈ ab_G := ab_g 1030 rfl rfl
set_option maxRecDepth 100000 in
theorem kw_1032 : (Jvm.Cond.fieldLink "LackFerry$Image" (10 : Nat) "LackFerry$Image" "strait" "LLackFerry$Strait;") ∈ ab_G := ab_g 1032 rfl rfl
set_option maxRecDepth 100000 in
theorem kw_1033 : (Jvm.Cond.fieldLink "LackFerry" (373 : Nat) "LackFerry$Image" "strait" "LLackFerry$Strait;") ∈ ab_G := ab_g 1033 rfl rfl
set_option maxRecDepth 100000 in
theorem kw_1034 : (Jvm.Cond.fieldLink "LackFerry$Image" (19 : Nat) "LackFerry$Image" "shores" "LLackFerry$Shores;") ∈ ab_G := ab_g 1034 rfl rfl
set_option maxRecDepth 100000 in
theorem kw_1035 : (Jvm.Cond.fieldLink "LackFerry" (378 : Nat) "LackFerry$Image" "shores" "LLackFerry$Shores;") ∈ ab_G := ab_g 1035 rfl rfl
set_option maxRecDepth 100000 in
theorem kw_1036 : (Jvm.Cond.fieldLink "LackFerry$Image" (26 : Nat) "LackFerry$Image" "sentence" "LLackFerry$Sentence;") ∈ ab_G := ab_g 1036 rfl rfl
set_option maxRecDepth 100000 in
theorem kw_1037 : (Jvm.Cond.fieldLink "LackFerry" (381 : Nat) "LackFerry$Image" "sentence" "LLackFerry$Sentence;") ∈ ab_G := ab_g 1037 rfl rfl
set_option maxRecDepth 100000 in
theorem kw_1038 : (Jvm.Cond.laysFinal "LackFerry$Image" "LackFerry$Image" "strait" "LLackFerry$Strait;") ∈ ab_G := ab_g 1038 rfl rfl
set_option maxRecDepth 100000 in
theorem kw_1040 : (Jvm.Cond.laysFinal "LackFerry$Image" "LackFerry$Image" "shores" "LLackFerry$Shores;") ∈ ab_G := ab_g 1040 rfl rfl
set_option maxRecDepth 100000 in
theorem kw_1042 : (Jvm.Cond.laysFinal "LackFerry$Image" "LackFerry$Image" "sentence" "LLackFerry$Sentence;") ∈ ab_G := ab_g 1042 rfl rfl
set_option maxRecDepth 100000 in
theorem kw_1045 : (Jvm.Cond.methodLink "LackFerry" (376 : Nat) ({ cls := "LackFerry$Strait", name := "copyFrom", desc := "(LLackFerry$Strait;)V" } : Jvm.MethodName)) ∈ ab_G := ab_g 1045 rfl rfl
set_option maxRecDepth 100000 in
theorem kw_1046 : (Jvm.Cond.instanceMethod ({ cls := "LackFerry$Strait", name := "copyFrom", desc := "(LLackFerry$Strait;)V" } : Jvm.MethodName)) ∈ ab_G := ab_g 1046 rfl rfl
set_option maxRecDepth 100000 in
theorem kw_1047 : (Jvm.Cond.selects "LackFerry$Strait" ({ cls := "LackFerry$Strait", name := "copyFrom", desc := "(LLackFerry$Strait;)V" } : Jvm.MethodName) ({ cls := "LackFerry$Strait", name := "copyFrom", desc := "(LLackFerry$Strait;)V" } : Jvm.MethodName)) ∈ ab_G := ab_g 1047 rfl rfl
set_option maxRecDepth 100000 in
theorem kw_1048 : (Jvm.Cond.code ({ cls := "LackFerry$Strait", name := "copyFrom", desc := "(LLackFerry$Strait;)V" } : Jvm.MethodName) prog_9_method_5_code (2 : Nat) (Option.none : Option Jvm.ClassFile.FieldType)) ∈ ab_G := ab_g 1048 rfl rfl
set_option maxRecDepth 100000 in
theorem kw_1049 : (Jvm.Cond.methodLink "LackFerry$Strait" (50 : Nat) ({ cls := "java/lang/System", name := "arraycopy", desc := "(Ljava/lang/Object;ILjava/lang/Object;II)V" } : Jvm.MethodName)) ∈ ab_G := ab_g 1049 rfl rfl
set_option maxRecDepth 100000 in
theorem kw_1050 : (Jvm.Cond.methodLink "LackFerry" (384 : Nat) ({ cls := "LackFerry$Sentence", name := "copyFrom", desc := "(LLackFerry$Sentence;)V" } : Jvm.MethodName)) ∈ ab_G := ab_g 1050 rfl rfl
set_option maxRecDepth 100000 in
theorem kw_1051 : (Jvm.Cond.instanceMethod ({ cls := "LackFerry$Sentence", name := "copyFrom", desc := "(LLackFerry$Sentence;)V" } : Jvm.MethodName)) ∈ ab_G := ab_g 1051 rfl rfl
set_option maxRecDepth 100000 in
theorem kw_1052 : (Jvm.Cond.selects "LackFerry$Sentence" ({ cls := "LackFerry$Sentence", name := "copyFrom", desc := "(LLackFerry$Sentence;)V" } : Jvm.MethodName) ({ cls := "LackFerry$Sentence", name := "copyFrom", desc := "(LLackFerry$Sentence;)V" } : Jvm.MethodName)) ∈ ab_G := ab_g 1052 rfl rfl
set_option maxRecDepth 100000 in
theorem kw_1053 : (Jvm.Cond.code ({ cls := "LackFerry$Sentence", name := "copyFrom", desc := "(LLackFerry$Sentence;)V" } : Jvm.MethodName) prog_7_method_2_code (2 : Nat) (Option.none : Option Jvm.ClassFile.FieldType)) ∈ ab_G := ab_g 1053 rfl rfl
set_option maxRecDepth 100000 in
theorem kw_1054 : (Jvm.Cond.methodLink "LackFerry$Sentence" (21 : Nat) ({ cls := "java/lang/System", name := "arraycopy", desc := "(Ljava/lang/Object;ILjava/lang/Object;II)V" } : Jvm.MethodName)) ∈ ab_G := ab_g 1054 rfl rfl
set_option maxRecDepth 100000 in
theorem kw_1055 : (Jvm.Cond.methodLink "LackFerryLaw" (186 : Nat) ({ cls := "LackFerry", name := "restore", desc := "(I)Z" } : Jvm.MethodName)) ∈ ab_G := ab_g 1055 rfl rfl
set_option maxRecDepth 100000 in
theorem kw_1056 : (Jvm.Cond.instanceMethod ({ cls := "LackFerry", name := "restore", desc := "(I)Z" } : Jvm.MethodName)) ∈ ab_G := ab_g 1056 rfl rfl
set_option maxRecDepth 100000 in
theorem kw_1057 : (Jvm.Cond.selects "LackFerry" ({ cls := "LackFerry", name := "restore", desc := "(I)Z" } : Jvm.MethodName) ({ cls := "LackFerry", name := "restore", desc := "(I)Z" } : Jvm.MethodName)) ∈ ab_G := ab_g 1057 rfl rfl
set_option maxRecDepth 100000 in
theorem kw_1058 : (Jvm.Cond.code ({ cls := "LackFerry", name := "restore", desc := "(I)Z" } : Jvm.MethodName) prog_1_method_60_code (3 : Nat) (Option.some Jvm.ClassFile.FieldType.boolean)) ∈ ab_G := ab_g 1058 rfl rfl
set_option maxRecDepth 100000 in
theorem kw_1059 : (Jvm.Cond.methodLink "LackFerryLaw" (47 : Nat) ({ cls := "LackFerryLaw", name := "man", desc := "(LLackFerry;II[J)I" } : Jvm.MethodName)) ∈ ab_G := ab_g 1059 rfl rfl
set_option maxRecDepth 100000 in
theorem kw_1060 : (Jvm.Cond.static ({ cls := "LackFerryLaw", name := "man", desc := "(LLackFerry;II[J)I" } : Jvm.MethodName)) ∈ ab_G := ab_g 1060 rfl rfl
set_option maxRecDepth 100000 in
theorem kw_1061 : (Jvm.Cond.codeWith ({ cls := "LackFerryLaw", name := "man", desc := "(LLackFerry;II[J)I" } : Jvm.MethodName) method_3_code (5 : Nat) (Option.some Jvm.ClassFile.FieldType.int) [((0 : Nat), (10 : Nat), (13 : Nat), (13 : Nat))]) ∈ ab_G := ab_g 1061 rfl rfl
set_option maxRecDepth 100000 in
theorem kw_1062 : (Jvm.Cond.classLink "LackFerryLaw" (13 : Nat) "java/util/NoSuchElementException") ∈ ab_G := ab_g 1062 rfl rfl
set_option maxRecDepth 100000 in
theorem kw_1063 : (Jvm.Cond.methodLink "LackFerryLaw" (7 : Nat) ({ cls := "LackFerry", name := "man", desc := "(II)I" } : Jvm.MethodName)) ∈ ab_G := ab_g 1063 rfl rfl
set_option maxRecDepth 100000 in
theorem kw_1064 : (Jvm.Cond.instanceMethod ({ cls := "LackFerry", name := "man", desc := "(II)I" } : Jvm.MethodName)) ∈ ab_G := ab_g 1064 rfl rfl
set_option maxRecDepth 100000 in
theorem kw_1065 : (Jvm.Cond.selects "LackFerry" ({ cls := "LackFerry", name := "man", desc := "(II)I" } : Jvm.MethodName) ({ cls := "LackFerry", name := "man", desc := "(II)I" } : Jvm.MethodName)) ∈ ab_G := ab_g 1065 rfl rfl
set_option maxRecDepth 100000 in
theorem kw_1066 : (Jvm.Cond.code ({ cls := "LackFerry", name := "man", desc := "(II)I" } : Jvm.MethodName) prog_1_method_15_code (3 : Nat) (Option.some Jvm.ClassFile.FieldType.int)) ∈ ab_G := ab_g 1066 rfl rfl
set_option maxRecDepth 100000 in
theorem kw_1078 : (Jvm.Cond.lays "java/util/NoSuchElementException" "java/lang/Throwable" "cause" "Ljava/lang/Throwable;") ∈ ab_G := ab_g 1078 rfl rfl
set_option maxRecDepth 100000 in
theorem kw_1079 : (Jvm.Cond.lays "java/lang/Throwable" "java/lang/Throwable" "cause" "Ljava/lang/Throwable;") ∈ ab_G := ab_g 1079 rfl rfl
set_option maxRecDepth 100000 in
theorem kw_1080 : (Jvm.Cond.lays "java/util/NoSuchElementException" "java/lang/Throwable" "stackTrace" "[Ljava/lang/StackTraceElement;") ∈ ab_G := ab_g 1080 rfl rfl
set_option maxRecDepth 100000 in
theorem kw_1081 : (Jvm.Cond.lays "java/lang/Throwable" "java/lang/Throwable" "stackTrace" "[Ljava/lang/StackTraceElement;") ∈ ab_G := ab_g 1081 rfl rfl
set_option maxRecDepth 100000 in
theorem kw_1082 : (Jvm.Cond.lays "java/util/NoSuchElementException" "java/lang/Throwable" "suppressedExceptions" "Ljava/util/List;") ∈ ab_G := ab_g 1082 rfl rfl
set_option maxRecDepth 100000 in
theorem kw_1083 : (Jvm.Cond.lays "java/lang/Throwable" "java/lang/Throwable" "suppressedExceptions" "Ljava/util/List;") ∈ ab_G := ab_g 1083 rfl rfl
set_option maxRecDepth 100000 in
theorem kw_1084 : (Jvm.Cond.lays "java/util/NoSuchElementException" "java/lang/Throwable" "detailMessage" "Ljava/lang/String;") ∈ ab_G := ab_g 1084 rfl rfl
set_option maxRecDepth 100000 in
theorem kw_1085 : (Jvm.Cond.lays "java/lang/Throwable" "java/lang/Throwable" "detailMessage" "Ljava/lang/String;") ∈ ab_G := ab_g 1085 rfl rfl
set_option maxRecDepth 100000 in
theorem kw_1086 : (Jvm.Cond.lays "java/util/NoSuchElementException" "java/lang/Throwable" "backtrace" "Ljava/lang/Object;") ∈ ab_G := ab_g 1086 rfl rfl
set_option maxRecDepth 100000 in
theorem kw_1087 : (Jvm.Cond.lays "java/lang/Throwable" "java/lang/Throwable" "backtrace" "Ljava/lang/Object;") ∈ ab_G := ab_g 1087 rfl rfl
set_option maxRecDepth 100000 in
theorem kw_1128 : (Jvm.Cond.lays "java/util/NoSuchElementException" "java/lang/Throwable" "depth" "I") ∈ ab_G := ab_g 1128 rfl rfl
set_option maxRecDepth 100000 in
theorem kw_1132 : (Jvm.Cond.methodLink "LackFerry" (199 : Nat) ({ cls := "LackFerry$Shores", name := "missedBy", desc := "(LLackFerry$Strait;I)I" } : Jvm.MethodName)) ∈ ab_G := ab_g 1132 rfl rfl
set_option maxRecDepth 100000 in
theorem kw_1133 : (Jvm.Cond.instanceMethod ({ cls := "LackFerry$Shores", name := "missedBy", desc := "(LLackFerry$Strait;I)I" } : Jvm.MethodName)) ∈ ab_G := ab_g 1133 rfl rfl
set_option maxRecDepth 100000 in
theorem kw_1134 : (Jvm.Cond.selects "LackFerry$Shores" ({ cls := "LackFerry$Shores", name := "missedBy", desc := "(LLackFerry$Strait;I)I" } : Jvm.MethodName) ({ cls := "LackFerry$Shores", name := "missedBy", desc := "(LLackFerry$Strait;I)I" } : Jvm.MethodName)) ∈ ab_G := ab_g 1134 rfl rfl
set_option maxRecDepth 100000 in
theorem kw_1135 : (Jvm.Cond.code ({ cls := "LackFerry$Shores", name := "missedBy", desc := "(LLackFerry$Strait;I)I" } : Jvm.MethodName) prog_8_method_15_code (5 : Nat) (Option.some Jvm.ClassFile.FieldType.int)) ∈ ab_G := ab_g 1135 rfl rfl
set_option maxRecDepth 100000 in
theorem kw_1137 : (Jvm.Cond.methodLink "LackFerryLaw" (53 : Nat) ({ cls := "LackFerryModel", name := "thrown", desc := "()I" } : Jvm.MethodName)) ∈ ab_G := ab_g 1137 rfl rfl
set_option maxRecDepth 100000 in
theorem kw_1138 : (Jvm.Cond.instanceMethod ({ cls := "LackFerryModel", name := "thrown", desc := "()I" } : Jvm.MethodName)) ∈ ab_G := ab_g 1138 rfl rfl
set_option maxRecDepth 100000 in
theorem kw_1139 : (Jvm.Cond.selects "LackFerryModel" ({ cls := "LackFerryModel", name := "thrown", desc := "()I" } : Jvm.MethodName) ({ cls := "LackFerryModel", name := "thrown", desc := "()I" } : Jvm.MethodName)) ∈ ab_G := ab_g 1139 rfl rfl
set_option maxRecDepth 100000 in
theorem kw_1140 : (Jvm.Cond.code ({ cls := "LackFerryModel", name := "thrown", desc := "()I" } : Jvm.MethodName) prog_13_method_1_code (1 : Nat) (Option.some Jvm.ClassFile.FieldType.int)) ∈ ab_G := ab_g 1140 rfl rfl
set_option maxRecDepth 100000 in
theorem kw_1141 : (Jvm.Cond.methodLink "LackFerryLaw" (23 : Nat) ({ cls := "LackFerryModel", name := "feed", desc := "(IIIII)I" } : Jvm.MethodName)) ∈ ab_G := ab_g 1141 rfl rfl
set_option maxRecDepth 100000 in
theorem kw_1142 : (Jvm.Cond.instanceMethod ({ cls := "LackFerryModel", name := "feed", desc := "(IIIII)I" } : Jvm.MethodName)) ∈ ab_G := ab_g 1142 rfl rfl
set_option maxRecDepth 100000 in
theorem kw_1143 : (Jvm.Cond.selects "LackFerryModel" ({ cls := "LackFerryModel", name := "feed", desc := "(IIIII)I" } : Jvm.MethodName) ({ cls := "LackFerryModel", name := "feed", desc := "(IIIII)I" } : Jvm.MethodName)) ∈ ab_G := ab_g 1143 rfl rfl
set_option maxRecDepth 100000 in
theorem kw_1144 : (Jvm.Cond.code ({ cls := "LackFerryModel", name := "feed", desc := "(IIIII)I" } : Jvm.MethodName) prog_13_method_3_code (6 : Nat) (Option.some Jvm.ClassFile.FieldType.int)) ∈ ab_G := ab_g 1144 rfl rfl
set_option maxRecDepth 100000 in
theorem kw_1145 : (Jvm.Cond.methodLink "LackFerryModel" (10 : Nat) ({ cls := "LackFerryModel", name := "four", desc := "(I)V" } : Jvm.MethodName)) ∈ ab_G := ab_g 1145 rfl rfl
set_option maxRecDepth 100000 in
theorem kw_1147 : (Jvm.Cond.instanceMethod ({ cls := "LackFerryModel", name := "four", desc := "(I)V" } : Jvm.MethodName)) ∈ ab_G := ab_g 1147 rfl rfl
set_option maxRecDepth 100000 in
theorem kw_1148 : (Jvm.Cond.instantiable "LackFerryModel" (43 : Nat)) ∈ ab_G := ab_g 1148 rfl rfl
set_option maxRecDepth 100000 in
theorem kw_1149 : (Jvm.Cond.code ({ cls := "LackFerryModel", name := "four", desc := "(I)V" } : Jvm.MethodName) prog_13_method_4_code (3 : Nat) (Option.none : Option Jvm.ClassFile.FieldType)) ∈ ab_G := ab_g 1149 rfl rfl
set_option maxRecDepth 100000 in
theorem kw_1150 : (Jvm.Cond.methodLink "LackFerryLaw" (28 : Nat) ({ cls := "LackFerryModel", name := "end", desc := "(I)Z" } : Jvm.MethodName)) ∈ ab_G := ab_g 1150 rfl rfl
set_option maxRecDepth 100000 in
theorem kw_1151 : (Jvm.Cond.instanceMethod ({ cls := "LackFerryModel", name := "end", desc := "(I)Z" } : Jvm.MethodName)) ∈ ab_G := ab_g 1151 rfl rfl
set_option maxRecDepth 100000 in
theorem kw_1152 : (Jvm.Cond.selects "LackFerryModel" ({ cls := "LackFerryModel", name := "end", desc := "(I)Z" } : Jvm.MethodName) ({ cls := "LackFerryModel", name := "end", desc := "(I)Z" } : Jvm.MethodName)) ∈ ab_G := ab_g 1152 rfl rfl
set_option maxRecDepth 100000 in
theorem kw_1153 : (Jvm.Cond.code ({ cls := "LackFerryModel", name := "end", desc := "(I)Z" } : Jvm.MethodName) prog_13_method_5_code (2 : Nat) (Option.some Jvm.ClassFile.FieldType.boolean)) ∈ ab_G := ab_g 1153 rfl rfl
set_option maxRecDepth 100000 in
theorem kw_1154 : (Jvm.Cond.classLink "LackFerryLaw" (16 : Nat) "LackFerryModel") ∈ ab_G := ab_g 1154 rfl rfl
set_option maxRecDepth 100000 in
theorem kw_1155 : (Jvm.Cond.methodLink "LackFerryLaw" (18 : Nat) ({ cls := "LackFerryModel", name := "<init>", desc := "()V" } : Jvm.MethodName)) ∈ ab_G := ab_g 1155 rfl rfl
set_option maxRecDepth 100000 in
theorem kw_1156 : (Jvm.Cond.instanceMethod ({ cls := "LackFerryModel", name := "<init>", desc := "()V" } : Jvm.MethodName)) ∈ ab_G := ab_g 1156 rfl rfl
set_option maxRecDepth 100000 in
theorem kw_1157 : (Jvm.Cond.code ({ cls := "LackFerryModel", name := "<init>", desc := "()V" } : Jvm.MethodName) prog_13_method_12_code (1 : Nat) (Option.none : Option Jvm.ClassFile.FieldType)) ∈ ab_G := ab_g 1157 rfl rfl
set_option maxRecDepth 100000 in
theorem kw_1158 : (Jvm.Cond.methodLink "LackFerryModel" (27 : Nat) ({ cls := "java/lang/Object", name := "<init>", desc := "()V" } : Jvm.MethodName)) ∈ ab_G := ab_g 1158 rfl rfl
set_option maxRecDepth 100000 in
theorem kw_1159 : (Jvm.Cond.constantLong "LackFerryModel" (87 : Nat) (1819238756 : Int64)) ∈ ab_G := ab_g 1159 rfl rfl
set_option maxRecDepth 100000 in
theorem kw_1160 : (Jvm.Cond.constantLong "LackFerryModel" (89 : Nat) (1735356260 : Int64)) ∈ ab_G := ab_g 1160 rfl rfl
set_option maxRecDepth 100000 in
theorem kw_1161 : (Jvm.Cond.constantLong "LackFerryModel" (91 : Nat) (495874696043 : Int64)) ∈ ab_G := ab_g 1161 rfl rfl
set_option maxRecDepth 100000 in
theorem kw_1162 : (Jvm.Cond.constantLong "LackFerryModel" (93 : Nat) (512735736947 : Int64)) ∈ ab_G := ab_g 1162 rfl rfl
set_option maxRecDepth 100000 in
theorem kw_1163 : (Jvm.Cond.constantLong "LackFerryModel" (95 : Nat) (1700885619 : Int64)) ∈ ab_G := ab_g 1163 rfl rfl
set_option maxRecDepth 100000 in
theorem kw_1164 : (Jvm.Cond.constantLong "LackFerryModel" (97 : Nat) (469785863539 : Int64)) ∈ ab_G := ab_g 1164 rfl rfl
set_option maxRecDepth 100000 in
theorem kw_1165 : (Jvm.Cond.constantLong "LackFerryModel" (99 : Nat) (7168366 : Int64)) ∈ ab_G := ab_g 1165 rfl rfl
set_option maxRecDepth 100000 in
theorem kw_1166 : (Jvm.Cond.constantLong "LackFerryModel" (101 : Nat) (120299675936115 : Int64)) ∈ ab_G := ab_g 1166 rfl rfl
set_option maxRecDepth 100000 in
theorem kw_1167 : (Jvm.Cond.constantLong "LackFerryModel" (103 : Nat) (114827585545331 : Int64)) ∈ ab_G := ab_g 1167 rfl rfl
set_option maxRecDepth 100000 in
theorem kw_1168 : (Jvm.Cond.constantLong "LackFerryModel" (105 : Nat) (422541682035 : Int64)) ∈ ab_G := ab_g 1168 rfl rfl
set_option maxRecDepth 100000 in
theorem kw_1169 : (Jvm.Cond.constantLong "LackFerryModel" (107 : Nat) (131260432541043 : Int64)) ∈ ab_G := ab_g 1169 rfl rfl
set_option maxRecDepth 100000 in
theorem kw_1170 : (Jvm.Cond.constantLong "LackFerryModel" (109 : Nat) (1684628851 : Int64)) ∈ ab_G := ab_g 1170 rfl rfl
set_option maxRecDepth 100000 in
theorem kw_1171 : (Jvm.Cond.constantLong "LackFerryModel" (111 : Nat) (6578553 : Int64)) ∈ ab_G := ab_g 1171 rfl rfl
set_option maxRecDepth 100000 in
theorem kw_1172 : (Jvm.Cond.constantLong "LackFerryModel" (113 : Nat) (28530 : Int64)) ∈ ab_G := ab_g 1172 rfl rfl
set_option maxRecDepth 100000 in
theorem kw_1173 : (Jvm.Cond.constantLong "LackFerryModel" (115 : Nat) (6385252 : Int64)) ∈ ab_G := ab_g 1173 rfl rfl
set_option maxRecDepth 100000 in
theorem kw_1174 : (Jvm.Cond.constantLong "LackFerryModel" (117 : Nat) (7237492 : Int64)) ∈ ab_G := ab_g 1174 rfl rfl
set_option maxRecDepth 100000 in
theorem kw_1175 : (Jvm.Cond.constantLong "LackFerryModel" (119 : Nat) (119165535610212 : Int64)) ∈ ab_G := ab_g 1175 rfl rfl
set_option maxRecDepth 100000 in
theorem kw_1176 : (Jvm.Cond.constantLong "LackFerryModel" (121 : Nat) (29395861899601252 : Int64)) ∈ ab_G := ab_g 1176 rfl rfl
set_option maxRecDepth 100000 in
theorem kw_1177 : (Jvm.Cond.constantLong "LackFerryModel" (123 : Nat) (1835099237 : Int64)) ∈ ab_G := ab_g 1177 rfl rfl
set_option maxRecDepth 100000 in
theorem kw_1178 : (Jvm.Cond.constantLong "LackFerryModel" (125 : Nat) (435426714990 : Int64)) ∈ ab_G := ab_g 1178 rfl rfl
set_option maxRecDepth 100000 in
theorem kw_1179 : (Jvm.Cond.constantLong "LackFerryModel" (127 : Nat) (439721161573 : Int64)) ∈ ab_G := ab_g 1179 rfl rfl
set_option maxRecDepth 100000 in
theorem kw_1180 : (Jvm.Cond.constantLong "LackFerryModel" (129 : Nat) (1852137842 : Int64)) ∈ ab_G := ab_g 1180 rfl rfl
set_option maxRecDepth 100000 in
theorem kw_1181 : (Jvm.Cond.constantLong "LackFerryModel" (131 : Nat) (6709618 : Int64)) ∈ ab_G := ab_g 1181 rfl rfl
set_option maxRecDepth 100000 in
theorem kw_1182 : (Jvm.Cond.constantLong "LackFerryModel" (133 : Nat) (27991845698233700 : Int64)) ∈ ab_G := ab_g 1182 rfl rfl
set_option maxRecDepth 100000 in
theorem kw_1183 : (Jvm.Cond.constantLong "LackFerryModel" (135 : Nat) (121450625394034 : Int64)) ∈ ab_G := ab_g 1183 rfl rfl
set_option maxRecDepth 100000 in
theorem kw_1184 : (Jvm.Cond.fieldLink "LackFerryModel" (1 : Nat) "LackFerryModel" "thrown" "I") ∈ ab_G := ab_g 1184 rfl rfl
set_option maxRecDepth 100000 in
theorem kw_1185 : (Jvm.Cond.fieldLink "LackFerryModel" (14 : Nat) "LackFerryModel" "tape" "[B") ∈ ab_G := ab_g 1185 rfl rfl
set_option maxRecDepth 100000 in
theorem kw_1186 : (Jvm.Cond.fieldLink "LackFerryModel" (7 : Nat) "LackFerryModel" "length" "I") ∈ ab_G := ab_g 1186 rfl rfl
set_option maxRecDepth 100000 in
theorem kw_1187 : (Jvm.Cond.fieldLink "LackFerryModel" (18 : Nat) "LackFerryModel" "size" "I") ∈ ab_G := ab_g 1187 rfl rfl
set_option maxRecDepth 100000 in
theorem kw_1188 : (Jvm.Cond.fieldLink "LackFerryModel" (21 : Nat) "LackFerryModel" "p" "I") ∈ ab_G := ab_g 1188 rfl rfl
set_option maxRecDepth 100000 in
theorem kw_1189 : (Jvm.Cond.fieldLink "LackFerryModel" (24 : Nat) "LackFerryModel" "limit" "I") ∈ ab_G := ab_g 1189 rfl rfl
set_option maxRecDepth 100000 in
theorem kw_1190 : (Jvm.Cond.fieldLink "LackFerryModel" (33 : Nat) "LackFerryModel" "s" "[I") ∈ ab_G := ab_g 1190 rfl rfl
set_option maxRecDepth 100000 in
theorem kw_1191 : (Jvm.Cond.fieldLink "LackFerryModel" (37 : Nat) "LackFerryModel" "h" "[I") ∈ ab_G := ab_g 1191 rfl rfl
set_option maxRecDepth 100000 in
theorem kw_1192 : (Jvm.Cond.fieldLink "LackFerryModel" (40 : Nat) "LackFerryModel" "read" "[I") ∈ ab_G := ab_g 1192 rfl rfl
set_option maxRecDepth 100000 in
theorem kw_1193 : (Jvm.Cond.fieldLink "LackFerryModel" (43 : Nat) "LackFerryModel" "names" "[J") ∈ ab_G := ab_g 1193 rfl rfl
set_option maxRecDepth 100000 in
theorem kw_1194 : (Jvm.Cond.fieldLink "LackFerryModel" (47 : Nat) "LackFerryModel" "reserved" "[J") ∈ ab_G := ab_g 1194 rfl rfl
set_option maxRecDepth 100000 in
theorem kw_1195 : (Jvm.Cond.fieldLink "LackFerryModel" (147 : Nat) "LackFerryModel" "token" "I") ∈ ab_G := ab_g 1195 rfl rfl
set_option maxRecDepth 100000 in
theorem kw_1196 : (Jvm.Cond.fieldLink "LackFerryModel" (141 : Nat) "LackFerryModel" "at" "I") ∈ ab_G := ab_g 1196 rfl rfl
set_option maxRecDepth 100000 in
theorem kw_1197 : (Jvm.Cond.fieldLink "LackFerryModel" (144 : Nat) "LackFerryModel" "span" "I") ∈ ab_G := ab_g 1197 rfl rfl
set_option maxRecDepth 100000 in
theorem kw_1198 : (Jvm.Cond.fieldLink "LackFerryModel" (157 : Nat) "LackFerryModel" "number" "I") ∈ ab_G := ab_g 1198 rfl rfl
set_option maxRecDepth 100000 in
theorem kw_1199 : (Jvm.Cond.fieldLink "LackFerryModel" (164 : Nat) "LackFerryModel" "fault" "I") ∈ ab_G := ab_g 1199 rfl rfl
set_option maxRecDepth 100000 in
theorem kw_1200 : (Jvm.Cond.fieldLink "LackFerryModel" (167 : Nat) "LackFerryModel" "faultAt" "I") ∈ ab_G := ab_g 1200 rfl rfl
set_option maxRecDepth 100000 in
theorem kw_1201 : (Jvm.Cond.fieldLink "LackFerryModel" (160 : Nat) "LackFerryModel" "word" "J") ∈ ab_G := ab_g 1201 rfl rfl
set_option maxRecDepth 100000 in
theorem kw_1202 : (Jvm.Cond.fieldLink "LackFerryModel" (183 : Nat) "LackFerryModel" "got" "I") ∈ ab_G := ab_g 1202 rfl rfl
set_option maxRecDepth 100000 in
theorem kw_1203 : (Jvm.Cond.fieldLink "LackFerryModel" (227 : Nat) "LackFerryModel" "lines" "I") ∈ ab_G := ab_g 1203 rfl rfl
set_option maxRecDepth 100000 in
theorem kw_1204 : (Jvm.Cond.fieldLink "LackFerryModel" (205 : Nat) "LackFerryModel" "hasLoad" "Z") ∈ ab_G := ab_g 1204 rfl rfl
set_option maxRecDepth 100000 in
theorem kw_1205 : (Jvm.Cond.fieldLink "LackFerryModel" (50 : Nat) "LackFerryModel" "toldOnce" "[I") ∈ ab_G := ab_g 1205 rfl rfl
set_option maxRecDepth 100000 in
theorem kw_1206 : (Jvm.Cond.fieldLink "LackFerryModel" (283 : Nat) "LackFerryModel" "room" "I") ∈ ab_G := ab_g 1206 rfl rfl
set_option maxRecDepth 100000 in
theorem kw_1207 : (Jvm.Cond.fieldLink "LackFerryModel" (53 : Nat) "LackFerryModel" "undone" "[I") ∈ ab_G := ab_g 1207 rfl rfl
set_option maxRecDepth 100000 in
theorem kw_1208 : (Jvm.Cond.fieldLink "LackFerryModel" (56 : Nat) "LackFerryModel" "before" "[I") ∈ ab_G := ab_g 1208 rfl rfl
set_option maxRecDepth 100000 in
theorem kw_1209 : (Jvm.Cond.fieldLink "LackFerryModel" (236 : Nat) "LackFerryModel" "undoMany" "I") ∈ ab_G := ab_g 1209 rfl rfl
set_option maxRecDepth 100000 in
theorem kw_1210 : (Jvm.Cond.fieldLink "LackFerryModel" (59 : Nat) "LackFerryModel" "rows" "[I") ∈ ab_G := ab_g 1210 rfl rfl
set_option maxRecDepth 100000 in
theorem kw_1211 : (Jvm.Cond.fieldLink "LackFerryModel" (62 : Nat) "LackFerryModel" "priceRow" "[I") ∈ ab_G := ab_g 1211 rfl rfl
set_option maxRecDepth 100000 in
theorem kw_1212 : (Jvm.Cond.fieldLink "LackFerryModel" (65 : Nat) "LackFerryModel" "priceGoods" "I") ∈ ab_G := ab_g 1212 rfl rfl
set_option maxRecDepth 100000 in
theorem kw_1213 : (Jvm.Cond.fieldLink "LackFerryModel" (335 : Nat) "LackFerryModel" "seed" "I") ∈ ab_G := ab_g 1213 rfl rfl
set_option maxRecDepth 100000 in
theorem kw_1214 : (Jvm.Cond.fieldLink "LackFerryModel" (348 : Nat) "LackFerryModel" "told" "I") ∈ ab_G := ab_g 1214 rfl rfl
set_option maxRecDepth 100000 in
theorem kw_1215 : (Jvm.Cond.fieldLink "LackFerryModel" (68 : Nat) "LackFerryModel" "loggedAt" "[I") ∈ ab_G := ab_g 1215 rfl rfl
set_option maxRecDepth 100000 in
theorem kw_1216 : (Jvm.Cond.fieldLink "LackFerryModel" (358 : Nat) "LackFerryModel" "hasLogged" "Z") ∈ ab_G := ab_g 1216 rfl rfl
set_option maxRecDepth 100000 in
theorem kw_1217 : (Jvm.Cond.fieldLink "LackFerryModel" (71 : Nat) "LackFerryModel" "stack" "[I") ∈ ab_G := ab_g 1217 rfl rfl
set_option maxRecDepth 100000 in
theorem kw_1218 : (Jvm.Cond.fieldLink "LackFerryModel" (361 : Nat) "LackFerryModel" "codes" "I") ∈ ab_G := ab_g 1218 rfl rfl
set_option maxRecDepth 100000 in
theorem kw_1219 : (Jvm.Cond.fieldLink "LackFerryModel" (377 : Nat) "LackFerryModel" "ones" "I") ∈ ab_G := ab_g 1219 rfl rfl
set_option maxRecDepth 100000 in
theorem kw_1220 : (Jvm.Cond.fieldLink "LackFerryModel" (364 : Nat) "LackFerryModel" "top" "I") ∈ ab_G := ab_g 1220 rfl rfl
set_option maxRecDepth 100000 in
theorem kw_1221 : (Jvm.Cond.fieldLink "LackFerryModel" (371 : Nat) "LackFerryModel" "deep" "I") ∈ ab_G := ab_g 1221 rfl rfl
set_option maxRecDepth 100000 in
theorem kw_1222 : (Jvm.Cond.fieldLink "LackFerryModel" (380 : Nat) "LackFerryModel" "isWhole" "Z") ∈ ab_G := ab_g 1222 rfl rfl
set_option maxRecDepth 100000 in
theorem kw_1223 : (Jvm.Cond.fieldLink "LackFerryModel" (74 : Nat) "LackFerryModel" "truths" "[Z") ∈ ab_G := ab_g 1223 rfl rfl
set_option maxRecDepth 100000 in
theorem kw_1224 : (Jvm.Cond.fieldLink "LackFerryModel" (78 : Nat) "LackFerryModel" "kept" "[I") ∈ ab_G := ab_g 1224 rfl rfl
set_option maxRecDepth 100000 in
theorem kw_1225 : (Jvm.Cond.fieldLink "LackFerryModel" (81 : Nat) "LackFerryModel" "namesKept" "[J") ∈ ab_G := ab_g 1225 rfl rfl
set_option maxRecDepth 100000 in
theorem kw_1226 : (Jvm.Cond.fieldLink "LackFerryModel" (84 : Nat) "LackFerryModel" "areKept" "[Z") ∈ ab_G := ab_g 1226 rfl rfl
set_option maxRecDepth 100000 in
theorem kw_1227 : (Jvm.Cond.lays "LackFerryModel" "LackFerryModel" "thrown" "I") ∈ ab_G := ab_g 1227 rfl rfl
set_option maxRecDepth 100000 in
theorem kw_1229 : (Jvm.Cond.laysFinal "LackFerryModel" "LackFerryModel" "tape" "[B") ∈ ab_G := ab_g 1229 rfl rfl
set_option maxRecDepth 100000 in
theorem kw_1231 : (Jvm.Cond.lays "LackFerryModel" "LackFerryModel" "length" "I") ∈ ab_G := ab_g 1231 rfl rfl
set_option maxRecDepth 100000 in
theorem kw_1233 : (Jvm.Cond.lays "LackFerryModel" "LackFerryModel" "size" "I") ∈ ab_G := ab_g 1233 rfl rfl
set_option maxRecDepth 100000 in
theorem kw_1235 : (Jvm.Cond.lays "LackFerryModel" "LackFerryModel" "p" "I") ∈ ab_G := ab_g 1235 rfl rfl
set_option maxRecDepth 100000 in
theorem kw_1237 : (Jvm.Cond.lays "LackFerryModel" "LackFerryModel" "limit" "I") ∈ ab_G := ab_g 1237 rfl rfl
set_option maxRecDepth 100000 in
theorem kw_1239 : (Jvm.Cond.laysFinal "LackFerryModel" "LackFerryModel" "s" "[I") ∈ ab_G := ab_g 1239 rfl rfl
set_option maxRecDepth 100000 in
theorem kw_1241 : (Jvm.Cond.laysFinal "LackFerryModel" "LackFerryModel" "h" "[I") ∈ ab_G := ab_g 1241 rfl rfl
set_option maxRecDepth 100000 in
theorem kw_1243 : (Jvm.Cond.laysFinal "LackFerryModel" "LackFerryModel" "read" "[I") ∈ ab_G := ab_g 1243 rfl rfl
set_option maxRecDepth 100000 in
theorem kw_1245 : (Jvm.Cond.laysFinal "LackFerryModel" "LackFerryModel" "names" "[J") ∈ ab_G := ab_g 1245 rfl rfl
set_option maxRecDepth 100000 in
theorem kw_1247 : (Jvm.Cond.laysFinal "LackFerryModel" "LackFerryModel" "reserved" "[J") ∈ ab_G := ab_g 1247 rfl rfl
set_option maxRecDepth 100000 in
theorem kw_1249 : (Jvm.Cond.lays "LackFerryModel" "LackFerryModel" "token" "I") ∈ ab_G := ab_g 1249 rfl rfl
set_option maxRecDepth 100000 in
theorem kw_1251 : (Jvm.Cond.lays "LackFerryModel" "LackFerryModel" "at" "I") ∈ ab_G := ab_g 1251 rfl rfl
set_option maxRecDepth 100000 in
theorem kw_1253 : (Jvm.Cond.lays "LackFerryModel" "LackFerryModel" "span" "I") ∈ ab_G := ab_g 1253 rfl rfl
set_option maxRecDepth 100000 in
theorem kw_1255 : (Jvm.Cond.lays "LackFerryModel" "LackFerryModel" "number" "I") ∈ ab_G := ab_g 1255 rfl rfl
set_option maxRecDepth 100000 in
theorem kw_1257 : (Jvm.Cond.lays "LackFerryModel" "LackFerryModel" "fault" "I") ∈ ab_G := ab_g 1257 rfl rfl
set_option maxRecDepth 100000 in
theorem kw_1259 : (Jvm.Cond.lays "LackFerryModel" "LackFerryModel" "faultAt" "I") ∈ ab_G := ab_g 1259 rfl rfl
set_option maxRecDepth 100000 in
theorem kw_1261 : (Jvm.Cond.lays "LackFerryModel" "LackFerryModel" "word" "J") ∈ ab_G := ab_g 1261 rfl rfl
set_option maxRecDepth 100000 in
theorem kw_1263 : (Jvm.Cond.lays "LackFerryModel" "LackFerryModel" "got" "I") ∈ ab_G := ab_g 1263 rfl rfl
set_option maxRecDepth 100000 in
theorem kw_1265 : (Jvm.Cond.lays "LackFerryModel" "LackFerryModel" "lines" "I") ∈ ab_G := ab_g 1265 rfl rfl
set_option maxRecDepth 100000 in
theorem kw_1267 : (Jvm.Cond.lays "LackFerryModel" "LackFerryModel" "hasLoad" "Z") ∈ ab_G := ab_g 1267 rfl rfl
set_option maxRecDepth 100000 in
theorem kw_1269 : (Jvm.Cond.laysFinal "LackFerryModel" "LackFerryModel" "toldOnce" "[I") ∈ ab_G := ab_g 1269 rfl rfl
set_option maxRecDepth 100000 in
theorem kw_1271 : (Jvm.Cond.lays "LackFerryModel" "LackFerryModel" "room" "I") ∈ ab_G := ab_g 1271 rfl rfl
set_option maxRecDepth 100000 in
theorem kw_1273 : (Jvm.Cond.laysFinal "LackFerryModel" "LackFerryModel" "undone" "[I") ∈ ab_G := ab_g 1273 rfl rfl
set_option maxRecDepth 100000 in
theorem kw_1275 : (Jvm.Cond.laysFinal "LackFerryModel" "LackFerryModel" "before" "[I") ∈ ab_G := ab_g 1275 rfl rfl
set_option maxRecDepth 100000 in
theorem kw_1277 : (Jvm.Cond.lays "LackFerryModel" "LackFerryModel" "undoMany" "I") ∈ ab_G := ab_g 1277 rfl rfl
set_option maxRecDepth 100000 in
theorem kw_1279 : (Jvm.Cond.laysFinal "LackFerryModel" "LackFerryModel" "rows" "[I") ∈ ab_G := ab_g 1279 rfl rfl
set_option maxRecDepth 100000 in
theorem kw_1281 : (Jvm.Cond.laysFinal "LackFerryModel" "LackFerryModel" "priceRow" "[I") ∈ ab_G := ab_g 1281 rfl rfl
set_option maxRecDepth 100000 in
theorem kw_1283 : (Jvm.Cond.lays "LackFerryModel" "LackFerryModel" "priceGoods" "I") ∈ ab_G := ab_g 1283 rfl rfl
set_option maxRecDepth 100000 in
theorem kw_1285 : (Jvm.Cond.lays "LackFerryModel" "LackFerryModel" "seed" "I") ∈ ab_G := ab_g 1285 rfl rfl
set_option maxRecDepth 100000 in
theorem kw_1287 : (Jvm.Cond.lays "LackFerryModel" "LackFerryModel" "told" "I") ∈ ab_G := ab_g 1287 rfl rfl
set_option maxRecDepth 100000 in
theorem kw_1289 : (Jvm.Cond.laysFinal "LackFerryModel" "LackFerryModel" "loggedAt" "[I") ∈ ab_G := ab_g 1289 rfl rfl
set_option maxRecDepth 100000 in
theorem kw_1291 : (Jvm.Cond.lays "LackFerryModel" "LackFerryModel" "hasLogged" "Z") ∈ ab_G := ab_g 1291 rfl rfl
set_option maxRecDepth 100000 in
theorem kw_1293 : (Jvm.Cond.laysFinal "LackFerryModel" "LackFerryModel" "stack" "[I") ∈ ab_G := ab_g 1293 rfl rfl
set_option maxRecDepth 100000 in
theorem kw_1295 : (Jvm.Cond.lays "LackFerryModel" "LackFerryModel" "codes" "I") ∈ ab_G := ab_g 1295 rfl rfl
set_option maxRecDepth 100000 in
theorem kw_1297 : (Jvm.Cond.lays "LackFerryModel" "LackFerryModel" "ones" "I") ∈ ab_G := ab_g 1297 rfl rfl
set_option maxRecDepth 100000 in
theorem kw_1299 : (Jvm.Cond.lays "LackFerryModel" "LackFerryModel" "top" "I") ∈ ab_G := ab_g 1299 rfl rfl
set_option maxRecDepth 100000 in
theorem kw_1301 : (Jvm.Cond.lays "LackFerryModel" "LackFerryModel" "deep" "I") ∈ ab_G := ab_g 1301 rfl rfl
set_option maxRecDepth 100000 in
theorem kw_1303 : (Jvm.Cond.lays "LackFerryModel" "LackFerryModel" "isWhole" "Z") ∈ ab_G := ab_g 1303 rfl rfl
set_option maxRecDepth 100000 in
theorem kw_1305 : (Jvm.Cond.laysFinal "LackFerryModel" "LackFerryModel" "truths" "[Z") ∈ ab_G := ab_g 1305 rfl rfl
set_option maxRecDepth 100000 in
theorem kw_1307 : (Jvm.Cond.laysFinal "LackFerryModel" "LackFerryModel" "kept" "[I") ∈ ab_G := ab_g 1307 rfl rfl
set_option maxRecDepth 100000 in
theorem kw_1309 : (Jvm.Cond.laysFinal "LackFerryModel" "LackFerryModel" "namesKept" "[J") ∈ ab_G := ab_g 1309 rfl rfl
set_option maxRecDepth 100000 in
theorem kw_1311 : (Jvm.Cond.laysFinal "LackFerryModel" "LackFerryModel" "areKept" "[Z") ∈ ab_G := ab_g 1311 rfl rfl
set_option maxRecDepth 100000 in
theorem kw_1314 : (Jvm.Cond.arrayClass Jvm.ClassFile.FieldType.boolean) ∈ ab_G := ab_g 1314 rfl rfl
set_option maxRecDepth 100000 in
theorem kw_1315 : (Jvm.Cond.methodLink "LackFerryLaw" (33 : Nat) ({ cls := "LackFerryModel", name := "strait", desc := "()I" } : Jvm.MethodName)) ∈ ab_G := ab_g 1315 rfl rfl
set_option maxRecDepth 100000 in
theorem kw_1316 : (Jvm.Cond.instanceMethod ({ cls := "LackFerryModel", name := "strait", desc := "()I" } : Jvm.MethodName)) ∈ ab_G := ab_g 1316 rfl rfl
set_option maxRecDepth 100000 in
theorem kw_1317 : (Jvm.Cond.selects "LackFerryModel" ({ cls := "LackFerryModel", name := "strait", desc := "()I" } : Jvm.MethodName) ({ cls := "LackFerryModel", name := "strait", desc := "()I" } : Jvm.MethodName)) ∈ ab_G := ab_g 1317 rfl rfl
set_option maxRecDepth 100000 in
theorem kw_1318 : (Jvm.Cond.code ({ cls := "LackFerryModel", name := "strait", desc := "()I" } : Jvm.MethodName) prog_13_method_30_code (2 : Nat) (Option.some Jvm.ClassFile.FieldType.int)) ∈ ab_G := ab_g 1318 rfl rfl
set_option maxRecDepth 100000 in
theorem kw_1319 : (Jvm.Cond.methodLink "LackFerryModel" (224 : Nat) ({ cls := "LackFerryModel", name := "taken", desc := "(I)V" } : Jvm.MethodName)) ∈ ab_G := ab_g 1319 rfl rfl
set_option maxRecDepth 100000 in
theorem kw_1321 : (Jvm.Cond.instanceMethod ({ cls := "LackFerryModel", name := "taken", desc := "(I)V" } : Jvm.MethodName)) ∈ ab_G := ab_g 1321 rfl rfl
set_option maxRecDepth 100000 in
theorem kw_1322 : (Jvm.Cond.code ({ cls := "LackFerryModel", name := "taken", desc := "(I)V" } : Jvm.MethodName) prog_13_method_6_code (2 : Nat) (Option.none : Option Jvm.ClassFile.FieldType)) ∈ ab_G := ab_g 1322 rfl rfl
set_option maxRecDepth 100000 in
theorem kw_1323 : (Jvm.Cond.methodLink "LackFerryModel" (176 : Nat) ({ cls := "LackFerryModel", name := "next", desc := "()V" } : Jvm.MethodName)) ∈ ab_G := ab_g 1323 rfl rfl
set_option maxRecDepth 100000 in
theorem kw_1325 : (Jvm.Cond.instanceMethod ({ cls := "LackFerryModel", name := "next", desc := "()V" } : Jvm.MethodName)) ∈ ab_G := ab_g 1325 rfl rfl
set_option maxRecDepth 100000 in
theorem kw_1326 : (Jvm.Cond.code ({ cls := "LackFerryModel", name := "next", desc := "()V" } : Jvm.MethodName) prog_13_method_16_code (4 : Nat) (Option.none : Option Jvm.ClassFile.FieldType)) ∈ ab_G := ab_g 1326 rfl rfl
set_option maxRecDepth 100000 in
theorem kw_1327 : (Jvm.Cond.methodLink "LackFerryModel" (137 : Nat) ({ cls := "LackFerryModel", name := "peek", desc := "()I" } : Jvm.MethodName)) ∈ ab_G := ab_g 1327 rfl rfl
set_option maxRecDepth 100000 in
theorem kw_1329 : (Jvm.Cond.instanceMethod ({ cls := "LackFerryModel", name := "peek", desc := "()I" } : Jvm.MethodName)) ∈ ab_G := ab_g 1329 rfl rfl
set_option maxRecDepth 100000 in
theorem kw_1330 : (Jvm.Cond.code ({ cls := "LackFerryModel", name := "peek", desc := "()I" } : Jvm.MethodName) prog_13_method_13_code (1 : Nat) (Option.some Jvm.ClassFile.FieldType.int)) ∈ ab_G := ab_g 1330 rfl rfl
set_option maxRecDepth 100000 in
theorem kw_1331 : (Jvm.Cond.methodLink "LackFerryModel" (150 : Nat) ({ cls := "LackFerryModel", name := "isSmall", desc := "(I)Z" } : Jvm.MethodName)) ∈ ab_G := ab_g 1331 rfl rfl
set_option maxRecDepth 100000 in
theorem kw_1332 : (Jvm.Cond.static ({ cls := "LackFerryModel", name := "isSmall", desc := "(I)Z" } : Jvm.MethodName)) ∈ ab_G := ab_g 1332 rfl rfl
set_option maxRecDepth 100000 in
theorem kw_1333 : (Jvm.Cond.code ({ cls := "LackFerryModel", name := "isSmall", desc := "(I)Z" } : Jvm.MethodName) prog_13_method_14_code (1 : Nat) (Option.some Jvm.ClassFile.FieldType.boolean)) ∈ ab_G := ab_g 1333 rfl rfl
set_option maxRecDepth 100000 in
theorem kw_1334 : (Jvm.Cond.methodLink "LackFerryModel" (154 : Nat) ({ cls := "LackFerryModel", name := "isDigit", desc := "(I)Z" } : Jvm.MethodName)) ∈ ab_G := ab_g 1334 rfl rfl
set_option maxRecDepth 100000 in
theorem kw_1335 : (Jvm.Cond.static ({ cls := "LackFerryModel", name := "isDigit", desc := "(I)Z" } : Jvm.MethodName)) ∈ ab_G := ab_g 1335 rfl rfl
set_option maxRecDepth 100000 in
theorem kw_1336 : (Jvm.Cond.code ({ cls := "LackFerryModel", name := "isDigit", desc := "(I)Z" } : Jvm.MethodName) prog_13_method_15_code (1 : Nat) (Option.some Jvm.ClassFile.FieldType.boolean)) ∈ ab_G := ab_g 1336 rfl rfl
set_option maxRecDepth 100000 in
theorem kw_1337 : (Jvm.Cond.methodLink "LackFerryModel" (230 : Nat) ({ cls := "LackFerryModel", name := "line", desc := "()Z" } : Jvm.MethodName)) ∈ ab_G := ab_g 1337 rfl rfl
set_option maxRecDepth 100000 in
theorem kw_1339 : (Jvm.Cond.instanceMethod ({ cls := "LackFerryModel", name := "line", desc := "()Z" } : Jvm.MethodName)) ∈ ab_G := ab_g 1339 rfl rfl
set_option maxRecDepth 100000 in
theorem kw_1340 : (Jvm.Cond.code ({ cls := "LackFerryModel", name := "line", desc := "()Z" } : Jvm.MethodName) prog_13_method_28_code (4 : Nat) (Option.some Jvm.ClassFile.FieldType.boolean)) ∈ ab_G := ab_g 1340 rfl rfl
set_option maxRecDepth 100000 in
theorem kw_1341 : (Jvm.Cond.methodLink "LackFerryModel" (201 : Nat) ({ cls := "LackFerryModel", name := "isWord", desc := "(J)Z" } : Jvm.MethodName)) ∈ ab_G := ab_g 1341 rfl rfl
set_option maxRecDepth 100000 in
theorem kw_1343 : (Jvm.Cond.instanceMethod ({ cls := "LackFerryModel", name := "isWord", desc := "(J)Z" } : Jvm.MethodName)) ∈ ab_G := ab_g 1343 rfl rfl
set_option maxRecDepth 100000 in
theorem kw_1344 : (Jvm.Cond.code ({ cls := "LackFerryModel", name := "isWord", desc := "(J)Z" } : Jvm.MethodName) prog_13_method_18_code (3 : Nat) (Option.some Jvm.ClassFile.FieldType.boolean)) ∈ ab_G := ab_g 1344 rfl rfl
set_option maxRecDepth 100000 in
theorem kw_1345 : (Jvm.Cond.methodLink "LackFerryModel" (173 : Nat) ({ cls := "LackFerryModel", name := "bad", desc := "(I)Z" } : Jvm.MethodName)) ∈ ab_G := ab_g 1345 rfl rfl
set_option maxRecDepth 100000 in
theorem kw_1347 : (Jvm.Cond.instanceMethod ({ cls := "LackFerryModel", name := "bad", desc := "(I)Z" } : Jvm.MethodName)) ∈ ab_G := ab_g 1347 rfl rfl
set_option maxRecDepth 100000 in
theorem kw_1348 : (Jvm.Cond.code ({ cls := "LackFerryModel", name := "bad", desc := "(I)Z" } : Jvm.MethodName) prog_13_method_17_code (2 : Nat) (Option.some Jvm.ClassFile.FieldType.boolean)) ∈ ab_G := ab_g 1348 rfl rfl
set_option maxRecDepth 100000 in
theorem kw_1349 : (Jvm.Cond.methodLink "LackFerryModel" (209 : Nat) ({ cls := "LackFerryModel", name := "puts", desc := "(III)Z" } : Jvm.MethodName)) ∈ ab_G := ab_g 1349 rfl rfl
set_option maxRecDepth 100000 in
theorem kw_1351 : (Jvm.Cond.instanceMethod ({ cls := "LackFerryModel", name := "puts", desc := "(III)Z" } : Jvm.MethodName)) ∈ ab_G := ab_g 1351 rfl rfl
set_option maxRecDepth 100000 in
theorem kw_1352 : (Jvm.Cond.code ({ cls := "LackFerryModel", name := "puts", desc := "(III)Z" } : Jvm.MethodName) prog_13_method_23_code (4 : Nat) (Option.some Jvm.ClassFile.FieldType.boolean)) ∈ ab_G := ab_g 1352 rfl rfl
set_option maxRecDepth 100000 in
theorem kw_1353 : (Jvm.Cond.methodLink "LackFerryModel" (186 : Nat) ({ cls := "LackFerryModel", name := "takes", desc := "(II)Z" } : Jvm.MethodName)) ∈ ab_G := ab_g 1353 rfl rfl
set_option maxRecDepth 100000 in
theorem kw_1355 : (Jvm.Cond.instanceMethod ({ cls := "LackFerryModel", name := "takes", desc := "(II)Z" } : Jvm.MethodName)) ∈ ab_G := ab_g 1355 rfl rfl
set_option maxRecDepth 100000 in
theorem kw_1356 : (Jvm.Cond.code ({ cls := "LackFerryModel", name := "takes", desc := "(II)Z" } : Jvm.MethodName) prog_13_method_22_code (3 : Nat) (Option.some Jvm.ClassFile.FieldType.boolean)) ∈ ab_G := ab_g 1356 rfl rfl
set_option maxRecDepth 100000 in
theorem kw_1357 : (Jvm.Cond.methodLink "LackFerryModel" (179 : Nat) ({ cls := "LackFerryModel", name := "isIn", desc := "(III)Z" } : Jvm.MethodName)) ∈ ab_G := ab_g 1357 rfl rfl
set_option maxRecDepth 100000 in
theorem kw_1358 : (Jvm.Cond.static ({ cls := "LackFerryModel", name := "isIn", desc := "(III)Z" } : Jvm.MethodName)) ∈ ab_G := ab_g 1358 rfl rfl
set_option maxRecDepth 100000 in
theorem kw_1359 : (Jvm.Cond.code ({ cls := "LackFerryModel", name := "isIn", desc := "(III)Z" } : Jvm.MethodName) prog_13_method_7_code (3 : Nat) (Option.some Jvm.ClassFile.FieldType.boolean)) ∈ ab_G := ab_g 1359 rfl rfl
set_option maxRecDepth 100000 in
theorem kw_1360 : (Jvm.Cond.methodLink "LackFerryModel" (212 : Nat) ({ cls := "LackFerryModel", name := "fresh", desc := "(I)Z" } : Jvm.MethodName)) ∈ ab_G := ab_g 1360 rfl rfl
set_option maxRecDepth 100000 in
theorem kw_1362 : (Jvm.Cond.instanceMethod ({ cls := "LackFerryModel", name := "fresh", desc := "(I)Z" } : Jvm.MethodName)) ∈ ab_G := ab_g 1362 rfl rfl
set_option maxRecDepth 100000 in
theorem kw_1363 : (Jvm.Cond.code ({ cls := "LackFerryModel", name := "fresh", desc := "(I)Z" } : Jvm.MethodName) prog_13_method_25_code (2 : Nat) (Option.some Jvm.ClassFile.FieldType.boolean)) ∈ ab_G := ab_g 1363 rfl rfl
set_option maxRecDepth 100000 in
theorem kw_1364 : (Jvm.Cond.methodLink "LackFerryModel" (190 : Nat) ({ cls := "LackFerryModel", name := "isName", desc := "()Z" } : Jvm.MethodName)) ∈ ab_G := ab_g 1364 rfl rfl
set_option maxRecDepth 100000 in
theorem kw_1366 : (Jvm.Cond.instanceMethod ({ cls := "LackFerryModel", name := "isName", desc := "()Z" } : Jvm.MethodName)) ∈ ab_G := ab_g 1366 rfl rfl
set_option maxRecDepth 100000 in
theorem kw_1367 : (Jvm.Cond.code ({ cls := "LackFerryModel", name := "isName", desc := "()Z" } : Jvm.MethodName) prog_13_method_21_code (3 : Nat) (Option.some Jvm.ClassFile.FieldType.boolean)) ∈ ab_G := ab_g 1367 rfl rfl
set_option maxRecDepth 100000 in
theorem kw_1368 : (Jvm.Cond.methodLink "LackFerryModel" (194 : Nat) ({ cls := "LackFerryModel", name := "find", desc := "(II)I" } : Jvm.MethodName)) ∈ ab_G := ab_g 1368 rfl rfl
set_option maxRecDepth 100000 in
theorem kw_1370 : (Jvm.Cond.instanceMethod ({ cls := "LackFerryModel", name := "find", desc := "(II)I" } : Jvm.MethodName)) ∈ ab_G := ab_g 1370 rfl rfl
set_option maxRecDepth 100000 in
theorem kw_1371 : (Jvm.Cond.code ({ cls := "LackFerryModel", name := "find", desc := "(II)I" } : Jvm.MethodName) prog_13_method_24_code (4 : Nat) (Option.some Jvm.ClassFile.FieldType.int)) ∈ ab_G := ab_g 1371 rfl rfl
set_option maxRecDepth 100000 in
theorem kw_1372 : (Jvm.Cond.methodLink "LackFerryModel" (215 : Nat) ({ cls := "LackFerryModel", name := "readMisses", desc := "()Z" } : Jvm.MethodName)) ∈ ab_G := ab_g 1372 rfl rfl
set_option maxRecDepth 100000 in
theorem kw_1374 : (Jvm.Cond.instanceMethod ({ cls := "LackFerryModel", name := "readMisses", desc := "()Z" } : Jvm.MethodName)) ∈ ab_G := ab_g 1374 rfl rfl
set_option maxRecDepth 100000 in
theorem kw_1375 : (Jvm.Cond.code ({ cls := "LackFerryModel", name := "readMisses", desc := "()Z" } : Jvm.MethodName) prog_13_method_29_code (5 : Nat) (Option.some Jvm.ClassFile.FieldType.boolean)) ∈ ab_G := ab_g 1375 rfl rfl
set_option maxRecDepth 100000 in
theorem kw_1376 : (Jvm.Cond.methodLink "LackFerryModel" (218 : Nat) ({ cls := "LackFerryModel", name := "takesName", desc := "(II)Z" } : Jvm.MethodName)) ∈ ab_G := ab_g 1376 rfl rfl
set_option maxRecDepth 100000 in
theorem kw_1378 : (Jvm.Cond.instanceMethod ({ cls := "LackFerryModel", name := "takesName", desc := "(II)Z" } : Jvm.MethodName)) ∈ ab_G := ab_g 1378 rfl rfl
set_option maxRecDepth 100000 in
theorem kw_1379 : (Jvm.Cond.code ({ cls := "LackFerryModel", name := "takesName", desc := "(II)Z" } : Jvm.MethodName) prog_13_method_27_code (3 : Nat) (Option.some Jvm.ClassFile.FieldType.boolean)) ∈ ab_G := ab_g 1379 rfl rfl
set_option maxRecDepth 100000 in
theorem kw_1380 : (Jvm.Cond.methodLink "LackFerryModel" (198 : Nat) ({ cls := "LackFerryModel", name := "looksAt", desc := "(II)Z" } : Jvm.MethodName)) ∈ ab_G := ab_g 1380 rfl rfl
set_option maxRecDepth 100000 in
theorem kw_1382 : (Jvm.Cond.instanceMethod ({ cls := "LackFerryModel", name := "looksAt", desc := "(II)Z" } : Jvm.MethodName)) ∈ ab_G := ab_g 1382 rfl rfl
set_option maxRecDepth 100000 in
theorem kw_1383 : (Jvm.Cond.code ({ cls := "LackFerryModel", name := "looksAt", desc := "(II)Z" } : Jvm.MethodName) prog_13_method_26_code (3 : Nat) (Option.some Jvm.ClassFile.FieldType.boolean)) ∈ ab_G := ab_g 1383 rfl rfl
set_option maxRecDepth 100000 in
theorem kw_1384 : (Jvm.Cond.methodLink "LackFerryModel" (221 : Nat) ({ cls := "LackFerryModel", name := "bitOf", desc := "(II)Z" } : Jvm.MethodName)) ∈ ab_G := ab_g 1384 rfl rfl
set_option maxRecDepth 100000 in
theorem kw_1385 : (Jvm.Cond.static ({ cls := "LackFerryModel", name := "bitOf", desc := "(II)Z" } : Jvm.MethodName)) ∈ ab_G := ab_g 1385 rfl rfl
set_option maxRecDepth 100000 in
theorem kw_1386 : (Jvm.Cond.code ({ cls := "LackFerryModel", name := "bitOf", desc := "(II)Z" } : Jvm.MethodName) prog_13_method_8_code (2 : Nat) (Option.some Jvm.ClassFile.FieldType.boolean)) ∈ ab_G := ab_g 1386 rfl rfl
set_option maxRecDepth 100000 in
theorem kw_1387 : (Jvm.Cond.methodLink "LackFerryModel" (233 : Nat) ({ cls := "LackFerryModel", name := "sign", desc := "(I)Z" } : Jvm.MethodName)) ∈ ab_G := ab_g 1387 rfl rfl
set_option maxRecDepth 100000 in
theorem kw_1389 : (Jvm.Cond.instanceMethod ({ cls := "LackFerryModel", name := "sign", desc := "(I)Z" } : Jvm.MethodName)) ∈ ab_G := ab_g 1389 rfl rfl
set_option maxRecDepth 100000 in
theorem kw_1390 : (Jvm.Cond.code ({ cls := "LackFerryModel", name := "sign", desc := "(I)Z" } : Jvm.MethodName) prog_13_method_20_code (2 : Nat) (Option.some Jvm.ClassFile.FieldType.boolean)) ∈ ab_G := ab_g 1390 rfl rfl
set_option maxRecDepth 100000 in
theorem kw_1391 : (Jvm.Cond.methodLink "LackFerryModel" (170 : Nat) ({ cls := "LackFerryModel", name := "isSign", desc := "(I)Z" } : Jvm.MethodName)) ∈ ab_G := ab_g 1391 rfl rfl
set_option maxRecDepth 100000 in
theorem kw_1393 : (Jvm.Cond.instanceMethod ({ cls := "LackFerryModel", name := "isSign", desc := "(I)Z" } : Jvm.MethodName)) ∈ ab_G := ab_g 1393 rfl rfl
set_option maxRecDepth 100000 in
theorem kw_1394 : (Jvm.Cond.code ({ cls := "LackFerryModel", name := "isSign", desc := "(I)Z" } : Jvm.MethodName) prog_13_method_19_code (2 : Nat) (Option.some Jvm.ClassFile.FieldType.boolean)) ∈ ab_G := ab_g 1394 rfl rfl
set_option maxRecDepth 100000 in
theorem kw_1395 : (Jvm.Cond.methodLink "LackFerryLaw" (37 : Nat) ({ cls := "LackFerryModel", name := "fault", desc := "()I" } : Jvm.MethodName)) ∈ ab_G := ab_g 1395 rfl rfl
set_option maxRecDepth 100000 in
theorem kw_1396 : (Jvm.Cond.instanceMethod ({ cls := "LackFerryModel", name := "fault", desc := "()I" } : Jvm.MethodName)) ∈ ab_G := ab_g 1396 rfl rfl
set_option maxRecDepth 100000 in
theorem kw_1397 : (Jvm.Cond.selects "LackFerryModel" ({ cls := "LackFerryModel", name := "fault", desc := "()I" } : Jvm.MethodName) ({ cls := "LackFerryModel", name := "fault", desc := "()I" } : Jvm.MethodName)) ∈ ab_G := ab_g 1397 rfl rfl
set_option maxRecDepth 100000 in
theorem kw_1398 : (Jvm.Cond.code ({ cls := "LackFerryModel", name := "fault", desc := "()I" } : Jvm.MethodName) prog_13_method_31_code (1 : Nat) (Option.some Jvm.ClassFile.FieldType.int)) ∈ ab_G := ab_g 1398 rfl rfl
set_option maxRecDepth 100000 in
theorem kw_1399 : (Jvm.Cond.methodLink "LackFerryLaw" (42 : Nat) ({ cls := "LackFerryModel", name := "good", desc := "(III)I" } : Jvm.MethodName)) ∈ ab_G := ab_g 1399 rfl rfl
set_option maxRecDepth 100000 in
theorem kw_1400 : (Jvm.Cond.instanceMethod ({ cls := "LackFerryModel", name := "good", desc := "(III)I" } : Jvm.MethodName)) ∈ ab_G := ab_g 1400 rfl rfl
set_option maxRecDepth 100000 in
theorem kw_1401 : (Jvm.Cond.selects "LackFerryModel" ({ cls := "LackFerryModel", name := "good", desc := "(III)I" } : Jvm.MethodName) ({ cls := "LackFerryModel", name := "good", desc := "(III)I" } : Jvm.MethodName)) ∈ ab_G := ab_g 1401 rfl rfl
set_option maxRecDepth 100000 in
theorem kw_1402 : (Jvm.Cond.code ({ cls := "LackFerryModel", name := "good", desc := "(III)I" } : Jvm.MethodName) prog_13_method_40_code (5 : Nat) (Option.some Jvm.ClassFile.FieldType.int)) ∈ ab_G := ab_g 1402 rfl rfl
set_option maxRecDepth 100000 in
theorem kw_1403 : (Jvm.Cond.methodLink "LackFerryModel" (251 : Nat) ({ cls := "LackFerryModel", name := "isPlace", desc := "(II)Z" } : Jvm.MethodName)) ∈ ab_G := ab_g 1403 rfl rfl
set_option maxRecDepth 100000 in
theorem kw_1405 : (Jvm.Cond.instanceMethod ({ cls := "LackFerryModel", name := "isPlace", desc := "(II)Z" } : Jvm.MethodName)) ∈ ab_G := ab_g 1405 rfl rfl
set_option maxRecDepth 100000 in
theorem kw_1406 : (Jvm.Cond.code ({ cls := "LackFerryModel", name := "isPlace", desc := "(II)Z" } : Jvm.MethodName) prog_13_method_34_code (3 : Nat) (Option.some Jvm.ClassFile.FieldType.boolean)) ∈ ab_G := ab_g 1406 rfl rfl
set_option maxRecDepth 100000 in
theorem kw_1407 : (Jvm.Cond.methodLink "LackFerryModel" (239 : Nat) ({ cls := "LackFerryModel", name := "isGood", desc := "(I)Z" } : Jvm.MethodName)) ∈ ab_G := ab_g 1407 rfl rfl
set_option maxRecDepth 100000 in
theorem kw_1409 : (Jvm.Cond.instanceMethod ({ cls := "LackFerryModel", name := "isGood", desc := "(I)Z" } : Jvm.MethodName)) ∈ ab_G := ab_g 1409 rfl rfl
set_option maxRecDepth 100000 in
theorem kw_1410 : (Jvm.Cond.code ({ cls := "LackFerryModel", name := "isGood", desc := "(I)Z" } : Jvm.MethodName) prog_13_method_32_code (2 : Nat) (Option.some Jvm.ClassFile.FieldType.boolean)) ∈ ab_G := ab_g 1410 rfl rfl
set_option maxRecDepth 100000 in
theorem kw_1411 : (Jvm.Cond.methodLink "LackFerryModel" (242 : Nat) ({ cls := "LackFerryModel", name := "isShore", desc := "(I)Z" } : Jvm.MethodName)) ∈ ab_G := ab_g 1411 rfl rfl
set_option maxRecDepth 100000 in
theorem kw_1413 : (Jvm.Cond.instanceMethod ({ cls := "LackFerryModel", name := "isShore", desc := "(I)Z" } : Jvm.MethodName)) ∈ ab_G := ab_g 1413 rfl rfl
set_option maxRecDepth 100000 in
theorem kw_1414 : (Jvm.Cond.code ({ cls := "LackFerryModel", name := "isShore", desc := "(I)Z" } : Jvm.MethodName) prog_13_method_33_code (2 : Nat) (Option.some Jvm.ClassFile.FieldType.boolean)) ∈ ab_G := ab_g 1414 rfl rfl
set_option maxRecDepth 100000 in
theorem kw_1415 : (Jvm.Cond.methodLink "LackFerryModel" (245 : Nat) ({ cls := "LackFerryModel", name := "cell", desc := "(II)I" } : Jvm.MethodName)) ∈ ab_G := ab_g 1415 rfl rfl
set_option maxRecDepth 100000 in
theorem kw_1416 : (Jvm.Cond.static ({ cls := "LackFerryModel", name := "cell", desc := "(II)I" } : Jvm.MethodName)) ∈ ab_G := ab_g 1416 rfl rfl
set_option maxRecDepth 100000 in
theorem kw_1417 : (Jvm.Cond.code ({ cls := "LackFerryModel", name := "cell", desc := "(II)I" } : Jvm.MethodName) prog_13_method_37_code (2 : Nat) (Option.some Jvm.ClassFile.FieldType.int)) ∈ ab_G := ab_g 1417 rfl rfl
set_option maxRecDepth 100000 in
theorem kw_1418 : (Jvm.Cond.methodLink "LackFerryModel" (248 : Nat) ({ cls := "LackFerryModel", name := "lackOf", desc := "(II)I" } : Jvm.MethodName)) ∈ ab_G := ab_g 1418 rfl rfl
set_option maxRecDepth 100000 in
theorem kw_1420 : (Jvm.Cond.instanceMethod ({ cls := "LackFerryModel", name := "lackOf", desc := "(II)I" } : Jvm.MethodName)) ∈ ab_G := ab_g 1420 rfl rfl
set_option maxRecDepth 100000 in
theorem kw_1421 : (Jvm.Cond.code ({ cls := "LackFerryModel", name := "lackOf", desc := "(II)I" } : Jvm.MethodName) prog_13_method_38_code (4 : Nat) (Option.some Jvm.ClassFile.FieldType.int)) ∈ ab_G := ab_g 1421 rfl rfl
set_option maxRecDepth 100000 in
theorem kw_1422 : (Jvm.Cond.methodLink "LackFerryModel" (254 : Nat) ({ cls := "LackFerryModel", name := "isFalse", desc := "(II)Z" } : Jvm.MethodName)) ∈ ab_G := ab_g 1422 rfl rfl
set_option maxRecDepth 100000 in
theorem kw_1424 : (Jvm.Cond.instanceMethod ({ cls := "LackFerryModel", name := "isFalse", desc := "(II)Z" } : Jvm.MethodName)) ∈ ab_G := ab_g 1424 rfl rfl
set_option maxRecDepth 100000 in
theorem kw_1425 : (Jvm.Cond.code ({ cls := "LackFerryModel", name := "isFalse", desc := "(II)Z" } : Jvm.MethodName) prog_13_method_39_code (3 : Nat) (Option.some Jvm.ClassFile.FieldType.boolean)) ∈ ab_G := ab_g 1425 rfl rfl
set_option maxRecDepth 100000 in
theorem kw_1426 : (Jvm.Cond.methodLink "LackFerryLaw" (46 : Nat) ({ cls := "LackFerryModel", name := "crossed", desc := "(II)I" } : Jvm.MethodName)) ∈ ab_G := ab_g 1426 rfl rfl
set_option maxRecDepth 100000 in
theorem kw_1427 : (Jvm.Cond.instanceMethod ({ cls := "LackFerryModel", name := "crossed", desc := "(II)I" } : Jvm.MethodName)) ∈ ab_G := ab_g 1427 rfl rfl
set_option maxRecDepth 100000 in
theorem kw_1428 : (Jvm.Cond.selects "LackFerryModel" ({ cls := "LackFerryModel", name := "crossed", desc := "(II)I" } : Jvm.MethodName) ({ cls := "LackFerryModel", name := "crossed", desc := "(II)I" } : Jvm.MethodName)) ∈ ab_G := ab_g 1428 rfl rfl
set_option maxRecDepth 100000 in
theorem kw_1429 : (Jvm.Cond.code ({ cls := "LackFerryModel", name := "crossed", desc := "(II)I" } : Jvm.MethodName) prog_13_method_41_code (3 : Nat) (Option.some Jvm.ClassFile.FieldType.int)) ∈ ab_G := ab_g 1429 rfl rfl
set_option maxRecDepth 100000 in
theorem kw_1430 : (Jvm.Cond.methodLink "LackFerryLaw" (52 : Nat) ({ cls := "LackFerryModel", name := "man", desc := "(II)I" } : Jvm.MethodName)) ∈ ab_G := ab_g 1430 rfl rfl
set_option maxRecDepth 100000 in
theorem kw_1431 : (Jvm.Cond.instanceMethod ({ cls := "LackFerryModel", name := "man", desc := "(II)I" } : Jvm.MethodName)) ∈ ab_G := ab_g 1431 rfl rfl
set_option maxRecDepth 100000 in
theorem kw_1432 : (Jvm.Cond.selects "LackFerryModel" ({ cls := "LackFerryModel", name := "man", desc := "(II)I" } : Jvm.MethodName) ({ cls := "LackFerryModel", name := "man", desc := "(II)I" } : Jvm.MethodName)) ∈ ab_G := ab_g 1432 rfl rfl
set_option maxRecDepth 100000 in
theorem kw_1433 : (Jvm.Cond.code ({ cls := "LackFerryModel", name := "man", desc := "(II)I" } : Jvm.MethodName) prog_13_method_46_code (3 : Nat) (Option.some Jvm.ClassFile.FieldType.int)) ∈ ab_G := ab_g 1433 rfl rfl
set_option maxRecDepth 100000 in
theorem kw_1434 : (Jvm.Cond.methodLink "LackFerryModel" (266 : Nat) ({ cls := "LackFerryModel", name := "isMan", desc := "(I)Z" } : Jvm.MethodName)) ∈ ab_G := ab_g 1434 rfl rfl
set_option maxRecDepth 100000 in
theorem kw_1436 : (Jvm.Cond.instanceMethod ({ cls := "LackFerryModel", name := "isMan", desc := "(I)Z" } : Jvm.MethodName)) ∈ ab_G := ab_g 1436 rfl rfl
set_option maxRecDepth 100000 in
theorem kw_1437 : (Jvm.Cond.code ({ cls := "LackFerryModel", name := "isMan", desc := "(I)Z" } : Jvm.MethodName) prog_13_method_35_code (2 : Nat) (Option.some Jvm.ClassFile.FieldType.boolean)) ∈ ab_G := ab_g 1437 rfl rfl
set_option maxRecDepth 100000 in
theorem kw_1438 : (Jvm.Cond.methodLink "LackFerryModel" (269 : Nat) ({ cls := "LackFerryModel", name := "throwsIf", desc := "(Z)Z" } : Jvm.MethodName)) ∈ ab_G := ab_g 1438 rfl rfl
set_option maxRecDepth 100000 in
theorem kw_1440 : (Jvm.Cond.instanceMethod ({ cls := "LackFerryModel", name := "throwsIf", desc := "(Z)Z" } : Jvm.MethodName)) ∈ ab_G := ab_g 1440 rfl rfl
set_option maxRecDepth 100000 in
theorem kw_1441 : (Jvm.Cond.code ({ cls := "LackFerryModel", name := "throwsIf", desc := "(Z)Z" } : Jvm.MethodName) prog_13_method_2_code (2 : Nat) (Option.some Jvm.ClassFile.FieldType.boolean)) ∈ ab_G := ab_g 1441 rfl rfl
set_option maxRecDepth 100000 in
theorem kw_1442 : (Jvm.Cond.methodLink "LackFerryModel" (257 : Nat) ({ cls := "LackFerryModel", name := "isDead", desc := "(I)Z" } : Jvm.MethodName)) ∈ ab_G := ab_g 1442 rfl rfl
set_option maxRecDepth 100000 in
theorem kw_1444 : (Jvm.Cond.instanceMethod ({ cls := "LackFerryModel", name := "isDead", desc := "(I)Z" } : Jvm.MethodName)) ∈ ab_G := ab_g 1444 rfl rfl
set_option maxRecDepth 100000 in
theorem kw_1445 : (Jvm.Cond.code ({ cls := "LackFerryModel", name := "isDead", desc := "(I)Z" } : Jvm.MethodName) prog_13_method_36_code (2 : Nat) (Option.some Jvm.ClassFile.FieldType.boolean)) ∈ ab_G := ab_g 1445 rfl rfl
set_option maxRecDepth 100000 in
theorem kw_1446 : (Jvm.Cond.methodLink "LackFerryModel" (273 : Nat) ({ cls := "LackFerryModel", name := "missedBy", desc := "(I)I" } : Jvm.MethodName)) ∈ ab_G := ab_g 1446 rfl rfl
set_option maxRecDepth 100000 in
theorem kw_1448 : (Jvm.Cond.instanceMethod ({ cls := "LackFerryModel", name := "missedBy", desc := "(I)I" } : Jvm.MethodName)) ∈ ab_G := ab_g 1448 rfl rfl
set_option maxRecDepth 100000 in
theorem kw_1449 : (Jvm.Cond.code ({ cls := "LackFerryModel", name := "missedBy", desc := "(I)I" } : Jvm.MethodName) prog_13_method_44_code (4 : Nat) (Option.some Jvm.ClassFile.FieldType.int)) ∈ ab_G := ab_g 1449 rfl rfl
set_option maxRecDepth 100000 in
theorem kw_1450 : (Jvm.Cond.methodLink "LackFerryModel" (263 : Nat) ({ cls := "LackFerryModel", name := "doesMiss", desc := "(II)Z" } : Jvm.MethodName)) ∈ ab_G := ab_g 1450 rfl rfl
set_option maxRecDepth 100000 in
theorem kw_1452 : (Jvm.Cond.instanceMethod ({ cls := "LackFerryModel", name := "doesMiss", desc := "(II)Z" } : Jvm.MethodName)) ∈ ab_G := ab_g 1452 rfl rfl
set_option maxRecDepth 100000 in
theorem kw_1453 : (Jvm.Cond.code ({ cls := "LackFerryModel", name := "doesMiss", desc := "(II)Z" } : Jvm.MethodName) prog_13_method_43_code (4 : Nat) (Option.some Jvm.ClassFile.FieldType.boolean)) ∈ ab_G := ab_g 1453 rfl rfl
set_option maxRecDepth 100000 in
theorem kw_1454 : (Jvm.Cond.methodLink "LackFerryModel" (260 : Nat) ({ cls := "LackFerryModel", name := "areUnlike", desc := "(II)Z" } : Jvm.MethodName)) ∈ ab_G := ab_g 1454 rfl rfl
set_option maxRecDepth 100000 in
theorem kw_1456 : (Jvm.Cond.instanceMethod ({ cls := "LackFerryModel", name := "areUnlike", desc := "(II)Z" } : Jvm.MethodName)) ∈ ab_G := ab_g 1456 rfl rfl
set_option maxRecDepth 100000 in
theorem kw_1457 : (Jvm.Cond.code ({ cls := "LackFerryModel", name := "areUnlike", desc := "(II)Z" } : Jvm.MethodName) prog_13_method_42_code (3 : Nat) (Option.some Jvm.ClassFile.FieldType.boolean)) ∈ ab_G := ab_g 1457 rfl rfl
set_option maxRecDepth 100000 in
theorem kw_1458 : (Jvm.Cond.methodLink "LackFerryModel" (277 : Nat) ({ cls := "LackFerryModel", name := "missesOf", desc := "(I)I" } : Jvm.MethodName)) ∈ ab_G := ab_g 1458 rfl rfl
set_option maxRecDepth 100000 in
theorem kw_1460 : (Jvm.Cond.instanceMethod ({ cls := "LackFerryModel", name := "missesOf", desc := "(I)I" } : Jvm.MethodName)) ∈ ab_G := ab_g 1460 rfl rfl
set_option maxRecDepth 100000 in
theorem kw_1461 : (Jvm.Cond.code ({ cls := "LackFerryModel", name := "missesOf", desc := "(I)I" } : Jvm.MethodName) prog_13_method_45_code (4 : Nat) (Option.some Jvm.ClassFile.FieldType.int)) ∈ ab_G := ab_g 1461 rfl rfl
set_option maxRecDepth 100000 in
theorem kw_1462 : (Jvm.Cond.methodLink "LackFerryLaw" (59 : Nat) ({ cls := "LackFerryModel", name := "apart", desc := "(II)I" } : Jvm.MethodName)) ∈ ab_G := ab_g 1462 rfl rfl
set_option maxRecDepth 100000 in
theorem kw_1463 : (Jvm.Cond.instanceMethod ({ cls := "LackFerryModel", name := "apart", desc := "(II)I" } : Jvm.MethodName)) ∈ ab_G := ab_g 1463 rfl rfl
set_option maxRecDepth 100000 in
theorem kw_1464 : (Jvm.Cond.selects "LackFerryModel" ({ cls := "LackFerryModel", name := "apart", desc := "(II)I" } : Jvm.MethodName) ({ cls := "LackFerryModel", name := "apart", desc := "(II)I" } : Jvm.MethodName)) ∈ ab_G := ab_g 1464 rfl rfl
set_option maxRecDepth 100000 in
theorem kw_1465 : (Jvm.Cond.code ({ cls := "LackFerryModel", name := "apart", desc := "(II)I" } : Jvm.MethodName) prog_13_method_47_code (3 : Nat) (Option.some Jvm.ClassFile.FieldType.int)) ∈ ab_G := ab_g 1465 rfl rfl
set_option maxRecDepth 100000 in
theorem kw_1466 : (Jvm.Cond.methodLink "LackFerryLaw" (64 : Nat) ({ cls := "LackFerryModel", name := "now", desc := "(I)I" } : Jvm.MethodName)) ∈ ab_G := ab_g 1466 rfl rfl
set_option maxRecDepth 100000 in
theorem kw_1467 : (Jvm.Cond.instanceMethod ({ cls := "LackFerryModel", name := "now", desc := "(I)I" } : Jvm.MethodName)) ∈ ab_G := ab_g 1467 rfl rfl
set_option maxRecDepth 100000 in
theorem kw_1468 : (Jvm.Cond.selects "LackFerryModel" ({ cls := "LackFerryModel", name := "now", desc := "(I)I" } : Jvm.MethodName) ({ cls := "LackFerryModel", name := "now", desc := "(I)I" } : Jvm.MethodName)) ∈ ab_G := ab_g 1468 rfl rfl
set_option maxRecDepth 100000 in
theorem kw_1469 : (Jvm.Cond.code ({ cls := "LackFerryModel", name := "now", desc := "(I)I" } : Jvm.MethodName) prog_13_method_49_code (2 : Nat) (Option.some Jvm.ClassFile.FieldType.int)) ∈ ab_G := ab_g 1469 rfl rfl
set_option maxRecDepth 100000 in
theorem kw_1470 : (Jvm.Cond.methodLink "LackFerryModel" (280 : Nat) ({ cls := "LackFerryModel", name := "menOn", desc := "(I)I" } : Jvm.MethodName)) ∈ ab_G := ab_g 1470 rfl rfl
set_option maxRecDepth 100000 in
theorem kw_1472 : (Jvm.Cond.instanceMethod ({ cls := "LackFerryModel", name := "menOn", desc := "(I)I" } : Jvm.MethodName)) ∈ ab_G := ab_g 1472 rfl rfl
set_option maxRecDepth 100000 in
theorem kw_1473 : (Jvm.Cond.code ({ cls := "LackFerryModel", name := "menOn", desc := "(I)I" } : Jvm.MethodName) prog_13_method_48_code (4 : Nat) (Option.some Jvm.ClassFile.FieldType.int)) ∈ ab_G := ab_g 1473 rfl rfl
set_option maxRecDepth 100000 in
theorem kw_1474 : (Jvm.Cond.methodLink "LackFerryLaw" (68 : Nat) ({ cls := "LackFerryModel", name := "hoard", desc := "(III)I" } : Jvm.MethodName)) ∈ ab_G := ab_g 1474 rfl rfl
set_option maxRecDepth 100000 in
theorem kw_1475 : (Jvm.Cond.instanceMethod ({ cls := "LackFerryModel", name := "hoard", desc := "(III)I" } : Jvm.MethodName)) ∈ ab_G := ab_g 1475 rfl rfl
set_option maxRecDepth 100000 in
theorem kw_1476 : (Jvm.Cond.selects "LackFerryModel" ({ cls := "LackFerryModel", name := "hoard", desc := "(III)I" } : Jvm.MethodName) ({ cls := "LackFerryModel", name := "hoard", desc := "(III)I" } : Jvm.MethodName)) ∈ ab_G := ab_g 1476 rfl rfl
set_option maxRecDepth 100000 in
theorem kw_1477 : (Jvm.Cond.code ({ cls := "LackFerryModel", name := "hoard", desc := "(III)I" } : Jvm.MethodName) prog_13_method_58_code (4 : Nat) (Option.some Jvm.ClassFile.FieldType.int)) ∈ ab_G := ab_g 1477 rfl rfl
set_option maxRecDepth 100000 in
theorem kw_1478 : (Jvm.Cond.methodLink "LackFerryModel" (301 : Nat) ({ cls := "LackFerryModel", name := "whyHoard", desc := "(II)I" } : Jvm.MethodName)) ∈ ab_G := ab_g 1478 rfl rfl
set_option maxRecDepth 100000 in
theorem kw_1480 : (Jvm.Cond.instanceMethod ({ cls := "LackFerryModel", name := "whyHoard", desc := "(II)I" } : Jvm.MethodName)) ∈ ab_G := ab_g 1480 rfl rfl
set_option maxRecDepth 100000 in
theorem kw_1481 : (Jvm.Cond.code ({ cls := "LackFerryModel", name := "whyHoard", desc := "(II)I" } : Jvm.MethodName) prog_13_method_55_code (3 : Nat) (Option.some Jvm.ClassFile.FieldType.int)) ∈ ab_G := ab_g 1481 rfl rfl
set_option maxRecDepth 100000 in
theorem kw_1482 : (Jvm.Cond.methodLink "LackFerryModel" (304 : Nat) ({ cls := "LackFerryModel", name := "keep", desc := "()V" } : Jvm.MethodName)) ∈ ab_G := ab_g 1482 rfl rfl
set_option maxRecDepth 100000 in
theorem kw_1484 : (Jvm.Cond.instanceMethod ({ cls := "LackFerryModel", name := "keep", desc := "()V" } : Jvm.MethodName)) ∈ ab_G := ab_g 1484 rfl rfl
set_option maxRecDepth 100000 in
theorem kw_1485 : (Jvm.Cond.code ({ cls := "LackFerryModel", name := "keep", desc := "()V" } : Jvm.MethodName) prog_13_method_63_code (2 : Nat) (Option.none : Option Jvm.ClassFile.FieldType)) ∈ ab_G := ab_g 1485 rfl rfl
set_option maxRecDepth 100000 in
theorem kw_1486 : (Jvm.Cond.methodLink "LackFerryModel" (307 : Nat) ({ cls := "LackFerryModel", name := "hoards", desc := "(II)V" } : Jvm.MethodName)) ∈ ab_G := ab_g 1486 rfl rfl
set_option maxRecDepth 100000 in
theorem kw_1488 : (Jvm.Cond.instanceMethod ({ cls := "LackFerryModel", name := "hoards", desc := "(II)V" } : Jvm.MethodName)) ∈ ab_G := ab_g 1488 rfl rfl
set_option maxRecDepth 100000 in
theorem kw_1489 : (Jvm.Cond.code ({ cls := "LackFerryModel", name := "hoards", desc := "(II)V" } : Jvm.MethodName) prog_13_method_57_code (3 : Nat) (Option.none : Option Jvm.ClassFile.FieldType)) ∈ ab_G := ab_g 1489 rfl rfl
set_option maxRecDepth 100000 in
theorem kw_1490 : (Jvm.Cond.methodLink "LackFerryLaw" (72 : Nat) ({ cls := "LackFerryModel", name := "bare", desc := "(III)I" } : Jvm.MethodName)) ∈ ab_G := ab_g 1490 rfl rfl
set_option maxRecDepth 100000 in
theorem kw_1491 : (Jvm.Cond.instanceMethod ({ cls := "LackFerryModel", name := "bare", desc := "(III)I" } : Jvm.MethodName)) ∈ ab_G := ab_g 1491 rfl rfl
set_option maxRecDepth 100000 in
theorem kw_1492 : (Jvm.Cond.selects "LackFerryModel" ({ cls := "LackFerryModel", name := "bare", desc := "(III)I" } : Jvm.MethodName) ({ cls := "LackFerryModel", name := "bare", desc := "(III)I" } : Jvm.MethodName)) ∈ ab_G := ab_g 1492 rfl rfl
set_option maxRecDepth 100000 in
theorem kw_1493 : (Jvm.Cond.code ({ cls := "LackFerryModel", name := "bare", desc := "(III)I" } : Jvm.MethodName) prog_13_method_59_code (5 : Nat) (Option.some Jvm.ClassFile.FieldType.int)) ∈ ab_G := ab_g 1493 rfl rfl
set_option maxRecDepth 100000 in
theorem kw_1494 : (Jvm.Cond.methodLink "LackFerryModel" (311 : Nat) ({ cls := "LackFerryModel", name := "whyBare", desc := "(II)I" } : Jvm.MethodName)) ∈ ab_G := ab_g 1494 rfl rfl
set_option maxRecDepth 100000 in
theorem kw_1496 : (Jvm.Cond.instanceMethod ({ cls := "LackFerryModel", name := "whyBare", desc := "(II)I" } : Jvm.MethodName)) ∈ ab_G := ab_g 1496 rfl rfl
set_option maxRecDepth 100000 in
theorem kw_1497 : (Jvm.Cond.code ({ cls := "LackFerryModel", name := "whyBare", desc := "(II)I" } : Jvm.MethodName) prog_13_method_56_code (3 : Nat) (Option.some Jvm.ClassFile.FieldType.int)) ∈ ab_G := ab_g 1497 rfl rfl
set_option maxRecDepth 100000 in
theorem kw_1498 : (Jvm.Cond.methodLink "LackFerryLaw" (76 : Nat) ({ cls := "LackFerryModel", name := "waste", desc := "(III)I" } : Jvm.MethodName)) ∈ ab_G := ab_g 1498 rfl rfl
set_option maxRecDepth 100000 in
theorem kw_1499 : (Jvm.Cond.instanceMethod ({ cls := "LackFerryModel", name := "waste", desc := "(III)I" } : Jvm.MethodName)) ∈ ab_G := ab_g 1499 rfl rfl
set_option maxRecDepth 100000 in
theorem kw_1500 : (Jvm.Cond.selects "LackFerryModel" ({ cls := "LackFerryModel", name := "waste", desc := "(III)I" } : Jvm.MethodName) ({ cls := "LackFerryModel", name := "waste", desc := "(III)I" } : Jvm.MethodName)) ∈ ab_G := ab_g 1500 rfl rfl
set_option maxRecDepth 100000 in
theorem kw_1501 : (Jvm.Cond.code ({ cls := "LackFerryModel", name := "waste", desc := "(III)I" } : Jvm.MethodName) prog_13_method_60_code (4 : Nat) (Option.some Jvm.ClassFile.FieldType.int)) ∈ ab_G := ab_g 1501 rfl rfl
set_option maxRecDepth 100000 in
theorem kw_1502 : (Jvm.Cond.methodLink "LackFerryLaw" (80 : Nat) ({ cls := "LackFerryModel", name := "die", desc := "(I)I" } : Jvm.MethodName)) ∈ ab_G := ab_g 1502 rfl rfl
set_option maxRecDepth 100000 in
theorem kw_1503 : (Jvm.Cond.instanceMethod ({ cls := "LackFerryModel", name := "die", desc := "(I)I" } : Jvm.MethodName)) ∈ ab_G := ab_g 1503 rfl rfl
set_option maxRecDepth 100000 in
theorem kw_1504 : (Jvm.Cond.selects "LackFerryModel" ({ cls := "LackFerryModel", name := "die", desc := "(I)I" } : Jvm.MethodName) ({ cls := "LackFerryModel", name := "die", desc := "(I)I" } : Jvm.MethodName)) ∈ ab_G := ab_g 1504 rfl rfl
set_option maxRecDepth 100000 in
theorem kw_1505 : (Jvm.Cond.code ({ cls := "LackFerryModel", name := "die", desc := "(I)I" } : Jvm.MethodName) prog_13_method_61_code (2 : Nat) (Option.some Jvm.ClassFile.FieldType.int)) ∈ ab_G := ab_g 1505 rfl rfl
set_option maxRecDepth 100000 in
theorem kw_1506 : (Jvm.Cond.methodLink "LackFerryLaw" (84 : Nat) ({ cls := "LackFerryModel", name := "days", desc := "(I)I" } : Jvm.MethodName)) ∈ ab_G := ab_g 1506 rfl rfl
set_option maxRecDepth 100000 in
theorem kw_1507 : (Jvm.Cond.instanceMethod ({ cls := "LackFerryModel", name := "days", desc := "(I)I" } : Jvm.MethodName)) ∈ ab_G := ab_g 1507 rfl rfl
set_option maxRecDepth 100000 in
theorem kw_1508 : (Jvm.Cond.selects "LackFerryModel" ({ cls := "LackFerryModel", name := "days", desc := "(I)I" } : Jvm.MethodName) ({ cls := "LackFerryModel", name := "days", desc := "(I)I" } : Jvm.MethodName)) ∈ ab_G := ab_g 1508 rfl rfl
set_option maxRecDepth 100000 in
theorem kw_1509 : (Jvm.Cond.code ({ cls := "LackFerryModel", name := "days", desc := "(I)I" } : Jvm.MethodName) prog_13_method_62_code (2 : Nat) (Option.some Jvm.ClassFile.FieldType.int)) ∈ ab_G := ab_g 1509 rfl rfl
set_option maxRecDepth 100000 in
theorem kw_1510 : (Jvm.Cond.methodLink "LackFerryModel" (314 : Nat) ({ cls := "LackFerryModel", name := "goesOn", desc := "(I)I" } : Jvm.MethodName)) ∈ ab_G := ab_g 1510 rfl rfl
set_option maxRecDepth 100000 in
theorem kw_1512 : (Jvm.Cond.instanceMethod ({ cls := "LackFerryModel", name := "goesOn", desc := "(I)I" } : Jvm.MethodName)) ∈ ab_G := ab_g 1512 rfl rfl
set_option maxRecDepth 100000 in
theorem kw_1513 : (Jvm.Cond.code ({ cls := "LackFerryModel", name := "goesOn", desc := "(I)I" } : Jvm.MethodName) prog_13_method_54_code (3 : Nat) (Option.some Jvm.ClassFile.FieldType.int)) ∈ ab_G := ab_g 1513 rfl rfl
set_option maxRecDepth 100000 in
theorem kw_1514 : (Jvm.Cond.methodLink "LackFerryModel" (298 : Nat) ({ cls := "LackFerryModel", name := "day", desc := "()V" } : Jvm.MethodName)) ∈ ab_G := ab_g 1514 rfl rfl
set_option maxRecDepth 100000 in
theorem kw_1516 : (Jvm.Cond.instanceMethod ({ cls := "LackFerryModel", name := "day", desc := "()V" } : Jvm.MethodName)) ∈ ab_G := ab_g 1516 rfl rfl
set_option maxRecDepth 100000 in
theorem kw_1517 : (Jvm.Cond.code ({ cls := "LackFerryModel", name := "day", desc := "()V" } : Jvm.MethodName) prog_13_method_53_code (5 : Nat) (Option.none : Option Jvm.ClassFile.FieldType)) ∈ ab_G := ab_g 1517 rfl rfl
set_option maxRecDepth 100000 in
theorem kw_1518 : (Jvm.Cond.methodLink "LackFerryModel" (289 : Nat) ({ cls := "LackFerryModel", name := "goingSet", desc := "()I" } : Jvm.MethodName)) ∈ ab_G := ab_g 1518 rfl rfl
set_option maxRecDepth 100000 in
theorem kw_1520 : (Jvm.Cond.instanceMethod ({ cls := "LackFerryModel", name := "goingSet", desc := "()I" } : Jvm.MethodName)) ∈ ab_G := ab_g 1520 rfl rfl
set_option maxRecDepth 100000 in
theorem kw_1521 : (Jvm.Cond.code ({ cls := "LackFerryModel", name := "goingSet", desc := "()I" } : Jvm.MethodName) prog_13_method_50_code (4 : Nat) (Option.some Jvm.ClassFile.FieldType.int)) ∈ ab_G := ab_g 1521 rfl rfl
set_option maxRecDepth 100000 in
theorem kw_1522 : (Jvm.Cond.methodLink "LackFerryModel" (292 : Nat) ({ cls := "LackFerryModel", name := "goesOf", desc := "(I)I" } : Jvm.MethodName)) ∈ ab_G := ab_g 1522 rfl rfl
set_option maxRecDepth 100000 in
theorem kw_1524 : (Jvm.Cond.instanceMethod ({ cls := "LackFerryModel", name := "goesOf", desc := "(I)I" } : Jvm.MethodName)) ∈ ab_G := ab_g 1524 rfl rfl
set_option maxRecDepth 100000 in
theorem kw_1525 : (Jvm.Cond.code ({ cls := "LackFerryModel", name := "goesOf", desc := "(I)I" } : Jvm.MethodName) prog_13_method_51_code (3 : Nat) (Option.some Jvm.ClassFile.FieldType.int)) ∈ ab_G := ab_g 1525 rfl rfl
set_option maxRecDepth 100000 in
theorem kw_1526 : (Jvm.Cond.methodLink "LackFerryModel" (286 : Nat) ({ cls := "LackFerryModel", name := "lesser", desc := "(II)I" } : Jvm.MethodName)) ∈ ab_G := ab_g 1526 rfl rfl
set_option maxRecDepth 100000 in
theorem kw_1527 : (Jvm.Cond.static ({ cls := "LackFerryModel", name := "lesser", desc := "(II)I" } : Jvm.MethodName)) ∈ ab_G := ab_g 1527 rfl rfl
set_option maxRecDepth 100000 in
theorem kw_1528 : (Jvm.Cond.code ({ cls := "LackFerryModel", name := "lesser", desc := "(II)I" } : Jvm.MethodName) prog_13_method_9_code (2 : Nat) (Option.some Jvm.ClassFile.FieldType.int)) ∈ ab_G := ab_g 1528 rfl rfl
set_option maxRecDepth 100000 in
theorem kw_1529 : (Jvm.Cond.methodLink "LackFerryModel" (295 : Nat) ({ cls := "LackFerryModel", name := "eats", desc := "(I)V" } : Jvm.MethodName)) ∈ ab_G := ab_g 1529 rfl rfl
set_option maxRecDepth 100000 in
theorem kw_1531 : (Jvm.Cond.instanceMethod ({ cls := "LackFerryModel", name := "eats", desc := "(I)V" } : Jvm.MethodName)) ∈ ab_G := ab_g 1531 rfl rfl
set_option maxRecDepth 100000 in
theorem kw_1532 : (Jvm.Cond.code ({ cls := "LackFerryModel", name := "eats", desc := "(I)V" } : Jvm.MethodName) prog_13_method_52_code (3 : Nat) (Option.none : Option Jvm.ClassFile.FieldType)) ∈ ab_G := ab_g 1532 rfl rfl
set_option maxRecDepth 100000 in
theorem kw_1533 : (Jvm.Cond.methodLink "LackFerryLaw" (88 : Nat) ({ cls := "LackFerryModel", name := "undo", desc := "()I" } : Jvm.MethodName)) ∈ ab_G := ab_g 1533 rfl rfl
set_option maxRecDepth 100000 in
theorem kw_1534 : (Jvm.Cond.instanceMethod ({ cls := "LackFerryModel", name := "undo", desc := "()I" } : Jvm.MethodName)) ∈ ab_G := ab_g 1534 rfl rfl
set_option maxRecDepth 100000 in
theorem kw_1535 : (Jvm.Cond.selects "LackFerryModel" ({ cls := "LackFerryModel", name := "undo", desc := "()I" } : Jvm.MethodName) ({ cls := "LackFerryModel", name := "undo", desc := "()I" } : Jvm.MethodName)) ∈ ab_G := ab_g 1535 rfl rfl
set_option maxRecDepth 100000 in
theorem kw_1536 : (Jvm.Cond.code ({ cls := "LackFerryModel", name := "undo", desc := "()I" } : Jvm.MethodName) prog_13_method_64_code (2 : Nat) (Option.some Jvm.ClassFile.FieldType.int)) ∈ ab_G := ab_g 1536 rfl rfl
set_option maxRecDepth 100000 in
theorem kw_1537 : (Jvm.Cond.methodLink "LackFerryLaw" (92 : Nat) ({ cls := "LackFerryModel", name := "lacks", desc := "(I)I" } : Jvm.MethodName)) ∈ ab_G := ab_g 1537 rfl rfl
set_option maxRecDepth 100000 in
theorem kw_1538 : (Jvm.Cond.instanceMethod ({ cls := "LackFerryModel", name := "lacks", desc := "(I)I" } : Jvm.MethodName)) ∈ ab_G := ab_g 1538 rfl rfl
set_option maxRecDepth 100000 in
theorem kw_1539 : (Jvm.Cond.selects "LackFerryModel" ({ cls := "LackFerryModel", name := "lacks", desc := "(I)I" } : Jvm.MethodName) ({ cls := "LackFerryModel", name := "lacks", desc := "(I)I" } : Jvm.MethodName)) ∈ ab_G := ab_g 1539 rfl rfl
set_option maxRecDepth 100000 in
theorem kw_1540 : (Jvm.Cond.code ({ cls := "LackFerryModel", name := "lacks", desc := "(I)I" } : Jvm.MethodName) prog_13_method_67_code (4 : Nat) (Option.some Jvm.ClassFile.FieldType.int)) ∈ ab_G := ab_g 1540 rfl rfl
set_option maxRecDepth 100000 in
theorem kw_1541 : (Jvm.Cond.methodLink "LackFerryLaw" (96 : Nat) ({ cls := "LackFerryModel", name := "falses", desc := "(I)I" } : Jvm.MethodName)) ∈ ab_G := ab_g 1541 rfl rfl
set_option maxRecDepth 100000 in
theorem kw_1542 : (Jvm.Cond.instanceMethod ({ cls := "LackFerryModel", name := "falses", desc := "(I)I" } : Jvm.MethodName)) ∈ ab_G := ab_g 1542 rfl rfl
set_option maxRecDepth 100000 in
theorem kw_1543 : (Jvm.Cond.selects "LackFerryModel" ({ cls := "LackFerryModel", name := "falses", desc := "(I)I" } : Jvm.MethodName) ({ cls := "LackFerryModel", name := "falses", desc := "(I)I" } : Jvm.MethodName)) ∈ ab_G := ab_g 1543 rfl rfl
set_option maxRecDepth 100000 in
theorem kw_1544 : (Jvm.Cond.code ({ cls := "LackFerryModel", name := "falses", desc := "(I)I" } : Jvm.MethodName) prog_13_method_68_code (4 : Nat) (Option.some Jvm.ClassFile.FieldType.int)) ∈ ab_G := ab_g 1544 rfl rfl
set_option maxRecDepth 100000 in
theorem kw_1545 : (Jvm.Cond.methodLink "LackFerryLaw" (100 : Nat) ({ cls := "LackFerryModel", name := "going", desc := "()I" } : Jvm.MethodName)) ∈ ab_G := ab_g 1545 rfl rfl
set_option maxRecDepth 100000 in
theorem kw_1546 : (Jvm.Cond.instanceMethod ({ cls := "LackFerryModel", name := "going", desc := "()I" } : Jvm.MethodName)) ∈ ab_G := ab_g 1546 rfl rfl
set_option maxRecDepth 100000 in
theorem kw_1547 : (Jvm.Cond.selects "LackFerryModel" ({ cls := "LackFerryModel", name := "going", desc := "()I" } : Jvm.MethodName) ({ cls := "LackFerryModel", name := "going", desc := "()I" } : Jvm.MethodName)) ∈ ab_G := ab_g 1547 rfl rfl
set_option maxRecDepth 100000 in
theorem kw_1548 : (Jvm.Cond.code ({ cls := "LackFerryModel", name := "going", desc := "()I" } : Jvm.MethodName) prog_13_method_69_code (1 : Nat) (Option.some Jvm.ClassFile.FieldType.int)) ∈ ab_G := ab_g 1548 rfl rfl
set_option maxRecDepth 100000 in
theorem kw_1549 : (Jvm.Cond.methodLink "LackFerryLaw" (104 : Nat) ({ cls := "LackFerryModel", name := "goes", desc := "(I)I" } : Jvm.MethodName)) ∈ ab_G := ab_g 1549 rfl rfl
set_option maxRecDepth 100000 in
theorem kw_1550 : (Jvm.Cond.instanceMethod ({ cls := "LackFerryModel", name := "goes", desc := "(I)I" } : Jvm.MethodName)) ∈ ab_G := ab_g 1550 rfl rfl
set_option maxRecDepth 100000 in
theorem kw_1551 : (Jvm.Cond.selects "LackFerryModel" ({ cls := "LackFerryModel", name := "goes", desc := "(I)I" } : Jvm.MethodName) ({ cls := "LackFerryModel", name := "goes", desc := "(I)I" } : Jvm.MethodName)) ∈ ab_G := ab_g 1551 rfl rfl
set_option maxRecDepth 100000 in
theorem kw_1552 : (Jvm.Cond.code ({ cls := "LackFerryModel", name := "goes", desc := "(I)I" } : Jvm.MethodName) prog_13_method_70_code (3 : Nat) (Option.some Jvm.ClassFile.FieldType.int)) ∈ ab_G := ab_g 1552 rfl rfl
set_option maxRecDepth 100000 in
theorem kw_1553 : (Jvm.Cond.methodLink "LackFerryLaw" (108 : Nat) ({ cls := "LackFerryModel", name := "crosses", desc := "(I)I" } : Jvm.MethodName)) ∈ ab_G := ab_g 1553 rfl rfl
set_option maxRecDepth 100000 in
theorem kw_1554 : (Jvm.Cond.instanceMethod ({ cls := "LackFerryModel", name := "crosses", desc := "(I)I" } : Jvm.MethodName)) ∈ ab_G := ab_g 1554 rfl rfl
set_option maxRecDepth 100000 in
theorem kw_1555 : (Jvm.Cond.selects "LackFerryModel" ({ cls := "LackFerryModel", name := "crosses", desc := "(I)I" } : Jvm.MethodName) ({ cls := "LackFerryModel", name := "crosses", desc := "(I)I" } : Jvm.MethodName)) ∈ ab_G := ab_g 1555 rfl rfl
set_option maxRecDepth 100000 in
theorem kw_1556 : (Jvm.Cond.code ({ cls := "LackFerryModel", name := "crosses", desc := "(I)I" } : Jvm.MethodName) prog_13_method_71_code (5 : Nat) (Option.some Jvm.ClassFile.FieldType.int)) ∈ ab_G := ab_g 1556 rfl rfl
set_option maxRecDepth 100000 in
theorem kw_1557 : (Jvm.Cond.methodLink "LackFerryModel" (317 : Nat) ({ cls := "LackFerryModel", name := "tries", desc := "()V" } : Jvm.MethodName)) ∈ ab_G := ab_g 1557 rfl rfl
set_option maxRecDepth 100000 in
theorem kw_1559 : (Jvm.Cond.instanceMethod ({ cls := "LackFerryModel", name := "tries", desc := "()V" } : Jvm.MethodName)) ∈ ab_G := ab_g 1559 rfl rfl
set_option maxRecDepth 100000 in
theorem kw_1560 : (Jvm.Cond.code ({ cls := "LackFerryModel", name := "tries", desc := "()V" } : Jvm.MethodName) prog_13_method_65_code (2 : Nat) (Option.none : Option Jvm.ClassFile.FieldType)) ∈ ab_G := ab_g 1560 rfl rfl
set_option maxRecDepth 100000 in
theorem kw_1561 : (Jvm.Cond.methodLink "LackFerryModel" (320 : Nat) ({ cls := "LackFerryModel", name := "back", desc := "()V" } : Jvm.MethodName)) ∈ ab_G := ab_g 1561 rfl rfl
set_option maxRecDepth 100000 in
theorem kw_1563 : (Jvm.Cond.instanceMethod ({ cls := "LackFerryModel", name := "back", desc := "()V" } : Jvm.MethodName)) ∈ ab_G := ab_g 1563 rfl rfl
set_option maxRecDepth 100000 in
theorem kw_1564 : (Jvm.Cond.code ({ cls := "LackFerryModel", name := "back", desc := "()V" } : Jvm.MethodName) prog_13_method_66_code (2 : Nat) (Option.none : Option Jvm.ClassFile.FieldType)) ∈ ab_G := ab_g 1564 rfl rfl
set_option maxRecDepth 100000 in
theorem kw_1565 : (Jvm.Cond.methodLink "LackFerryLaw" (112 : Nat) ({ cls := "LackFerryModel", name := "comes", desc := "(II)I" } : Jvm.MethodName)) ∈ ab_G := ab_g 1565 rfl rfl
set_option maxRecDepth 100000 in
theorem kw_1566 : (Jvm.Cond.instanceMethod ({ cls := "LackFerryModel", name := "comes", desc := "(II)I" } : Jvm.MethodName)) ∈ ab_G := ab_g 1566 rfl rfl
set_option maxRecDepth 100000 in
theorem kw_1567 : (Jvm.Cond.selects "LackFerryModel" ({ cls := "LackFerryModel", name := "comes", desc := "(II)I" } : Jvm.MethodName) ({ cls := "LackFerryModel", name := "comes", desc := "(II)I" } : Jvm.MethodName)) ∈ ab_G := ab_g 1567 rfl rfl
set_option maxRecDepth 100000 in
theorem kw_1568 : (Jvm.Cond.code ({ cls := "LackFerryModel", name := "comes", desc := "(II)I" } : Jvm.MethodName) prog_13_method_72_code (6 : Nat) (Option.some Jvm.ClassFile.FieldType.int)) ∈ ab_G := ab_g 1568 rfl rfl
set_option maxRecDepth 100000 in
theorem kw_1569 : (Jvm.Cond.methodLink "LackFerryLaw" (117 : Nat) ({ cls := "LackFerryModel", name := "without", desc := "(IIII)I" } : Jvm.MethodName)) ∈ ab_G := ab_g 1569 rfl rfl
set_option maxRecDepth 100000 in
theorem kw_1570 : (Jvm.Cond.instanceMethod ({ cls := "LackFerryModel", name := "without", desc := "(IIII)I" } : Jvm.MethodName)) ∈ ab_G := ab_g 1570 rfl rfl
set_option maxRecDepth 100000 in
theorem kw_1571 : (Jvm.Cond.selects "LackFerryModel" ({ cls := "LackFerryModel", name := "without", desc := "(IIII)I" } : Jvm.MethodName) ({ cls := "LackFerryModel", name := "without", desc := "(IIII)I" } : Jvm.MethodName)) ∈ ab_G := ab_g 1571 rfl rfl
set_option maxRecDepth 100000 in
theorem kw_1572 : (Jvm.Cond.code ({ cls := "LackFerryModel", name := "without", desc := "(IIII)I" } : Jvm.MethodName) prog_13_method_73_code (10 : Nat) (Option.some Jvm.ClassFile.FieldType.int)) ∈ ab_G := ab_g 1572 rfl rfl
set_option maxRecDepth 100000 in
theorem kw_1573 : (Jvm.Cond.methodLink "LackFerryLaw" (121 : Nat) ({ cls := "LackFerryModel", name := "meet", desc := "(II)I" } : Jvm.MethodName)) ∈ ab_G := ab_g 1573 rfl rfl
set_option maxRecDepth 100000 in
theorem kw_1574 : (Jvm.Cond.instanceMethod ({ cls := "LackFerryModel", name := "meet", desc := "(II)I" } : Jvm.MethodName)) ∈ ab_G := ab_g 1574 rfl rfl
set_option maxRecDepth 100000 in
theorem kw_1575 : (Jvm.Cond.selects "LackFerryModel" ({ cls := "LackFerryModel", name := "meet", desc := "(II)I" } : Jvm.MethodName) ({ cls := "LackFerryModel", name := "meet", desc := "(II)I" } : Jvm.MethodName)) ∈ ab_G := ab_g 1575 rfl rfl
set_option maxRecDepth 100000 in
theorem kw_1576 : (Jvm.Cond.code ({ cls := "LackFerryModel", name := "meet", desc := "(II)I" } : Jvm.MethodName) prog_13_method_74_code (5 : Nat) (Option.some Jvm.ClassFile.FieldType.int)) ∈ ab_G := ab_g 1576 rfl rfl
set_option maxRecDepth 100000 in
theorem kw_1577 : (Jvm.Cond.methodLink "LackFerryLaw" (125 : Nat) ({ cls := "LackFerryModel", name := "loads", desc := "(I)I" } : Jvm.MethodName)) ∈ ab_G := ab_g 1577 rfl rfl
set_option maxRecDepth 100000 in
theorem kw_1578 : (Jvm.Cond.instanceMethod ({ cls := "LackFerryModel", name := "loads", desc := "(I)I" } : Jvm.MethodName)) ∈ ab_G := ab_g 1578 rfl rfl
set_option maxRecDepth 100000 in
theorem kw_1579 : (Jvm.Cond.selects "LackFerryModel" ({ cls := "LackFerryModel", name := "loads", desc := "(I)I" } : Jvm.MethodName) ({ cls := "LackFerryModel", name := "loads", desc := "(I)I" } : Jvm.MethodName)) ∈ ab_G := ab_g 1579 rfl rfl
set_option maxRecDepth 100000 in
theorem kw_1580 : (Jvm.Cond.code ({ cls := "LackFerryModel", name := "loads", desc := "(I)I" } : Jvm.MethodName) prog_13_method_75_code (4 : Nat) (Option.some Jvm.ClassFile.FieldType.int)) ∈ ab_G := ab_g 1580 rfl rfl
set_option maxRecDepth 100000 in
theorem kw_1581 : (Jvm.Cond.methodLink "LackFerryLaw" (129 : Nat) ({ cls := "LackFerryModel", name := "which", desc := "()I" } : Jvm.MethodName)) ∈ ab_G := ab_g 1581 rfl rfl
set_option maxRecDepth 100000 in
theorem kw_1582 : (Jvm.Cond.instanceMethod ({ cls := "LackFerryModel", name := "which", desc := "()I" } : Jvm.MethodName)) ∈ ab_G := ab_g 1582 rfl rfl
set_option maxRecDepth 100000 in
theorem kw_1583 : (Jvm.Cond.selects "LackFerryModel" ({ cls := "LackFerryModel", name := "which", desc := "()I" } : Jvm.MethodName) ({ cls := "LackFerryModel", name := "which", desc := "()I" } : Jvm.MethodName)) ∈ ab_G := ab_g 1583 rfl rfl
set_option maxRecDepth 100000 in
theorem kw_1584 : (Jvm.Cond.code ({ cls := "LackFerryModel", name := "which", desc := "()I" } : Jvm.MethodName) prog_13_method_76_code (7 : Nat) (Option.some Jvm.ClassFile.FieldType.int)) ∈ ab_G := ab_g 1584 rfl rfl
set_option maxRecDepth 100000 in
theorem kw_1585 : (Jvm.Cond.methodLink "LackFerryModel" (323 : Nat) ({ cls := "LackFerryModel", name := "octet", desc := "(I)I" } : Jvm.MethodName)) ∈ ab_G := ab_g 1585 rfl rfl
set_option maxRecDepth 100000 in
theorem kw_1587 : (Jvm.Cond.instanceMethod ({ cls := "LackFerryModel", name := "octet", desc := "(I)I" } : Jvm.MethodName)) ∈ ab_G := ab_g 1587 rfl rfl
set_option maxRecDepth 100000 in
theorem kw_1588 : (Jvm.Cond.code ({ cls := "LackFerryModel", name := "octet", desc := "(I)I" } : Jvm.MethodName) prog_13_method_11_code (2 : Nat) (Option.some Jvm.ClassFile.FieldType.int)) ∈ ab_G := ab_g 1588 rfl rfl
set_option maxRecDepth 100000 in
theorem kw_1589 : (Jvm.Cond.methodLink "LackFerryLaw" (133 : Nat) ({ cls := "LackFerryModel", name := "settles", desc := "()I" } : Jvm.MethodName)) ∈ ab_G := ab_g 1589 rfl rfl
set_option maxRecDepth 100000 in
theorem kw_1590 : (Jvm.Cond.instanceMethod ({ cls := "LackFerryModel", name := "settles", desc := "()I" } : Jvm.MethodName)) ∈ ab_G := ab_g 1590 rfl rfl
set_option maxRecDepth 100000 in
theorem kw_1591 : (Jvm.Cond.selects "LackFerryModel" ({ cls := "LackFerryModel", name := "settles", desc := "()I" } : Jvm.MethodName) ({ cls := "LackFerryModel", name := "settles", desc := "()I" } : Jvm.MethodName)) ∈ ab_G := ab_g 1591 rfl rfl
set_option maxRecDepth 100000 in
theorem kw_1592 : (Jvm.Cond.code ({ cls := "LackFerryModel", name := "settles", desc := "()I" } : Jvm.MethodName) prog_13_method_79_code (3 : Nat) (Option.some Jvm.ClassFile.FieldType.int)) ∈ ab_G := ab_g 1592 rfl rfl
set_option maxRecDepth 100000 in
theorem kw_1593 : (Jvm.Cond.methodLink "LackFerryModel" (326 : Nat) ({ cls := "LackFerryModel", name := "lays", desc := "(I)V" } : Jvm.MethodName)) ∈ ab_G := ab_g 1593 rfl rfl
set_option maxRecDepth 100000 in
theorem kw_1595 : (Jvm.Cond.instanceMethod ({ cls := "LackFerryModel", name := "lays", desc := "(I)V" } : Jvm.MethodName)) ∈ ab_G := ab_g 1595 rfl rfl
set_option maxRecDepth 100000 in
theorem kw_1596 : (Jvm.Cond.code ({ cls := "LackFerryModel", name := "lays", desc := "(I)V" } : Jvm.MethodName) prog_13_method_77_code (3 : Nat) (Option.none : Option Jvm.ClassFile.FieldType)) ∈ ab_G := ab_g 1596 rfl rfl
set_option maxRecDepth 100000 in
theorem kw_1597 : (Jvm.Cond.methodLink "LackFerryModel" (329 : Nat) ({ cls := "LackFerryModel", name := "areAlike", desc := "(II)Z" } : Jvm.MethodName)) ∈ ab_G := ab_g 1597 rfl rfl
set_option maxRecDepth 100000 in
theorem kw_1599 : (Jvm.Cond.instanceMethod ({ cls := "LackFerryModel", name := "areAlike", desc := "(II)Z" } : Jvm.MethodName)) ∈ ab_G := ab_g 1599 rfl rfl
set_option maxRecDepth 100000 in
theorem kw_1600 : (Jvm.Cond.code ({ cls := "LackFerryModel", name := "areAlike", desc := "(II)Z" } : Jvm.MethodName) prog_13_method_78_code (4 : Nat) (Option.some Jvm.ClassFile.FieldType.boolean)) ∈ ab_G := ab_g 1600 rfl rfl
set_option maxRecDepth 100000 in
theorem kw_1601 : (Jvm.Cond.methodLink "LackFerryLaw" (137 : Nat) ({ cls := "LackFerryModel", name := "hunger", desc := "(III)I" } : Jvm.MethodName)) ∈ ab_G := ab_g 1601 rfl rfl
set_option maxRecDepth 100000 in
theorem kw_1602 : (Jvm.Cond.instanceMethod ({ cls := "LackFerryModel", name := "hunger", desc := "(III)I" } : Jvm.MethodName)) ∈ ab_G := ab_g 1602 rfl rfl
set_option maxRecDepth 100000 in
theorem kw_1603 : (Jvm.Cond.selects "LackFerryModel" ({ cls := "LackFerryModel", name := "hunger", desc := "(III)I" } : Jvm.MethodName) ({ cls := "LackFerryModel", name := "hunger", desc := "(III)I" } : Jvm.MethodName)) ∈ ab_G := ab_g 1603 rfl rfl
set_option maxRecDepth 100000 in
theorem kw_1604 : (Jvm.Cond.code ({ cls := "LackFerryModel", name := "hunger", desc := "(III)I" } : Jvm.MethodName) prog_13_method_80_code (6 : Nat) (Option.some Jvm.ClassFile.FieldType.int)) ∈ ab_G := ab_g 1604 rfl rfl
set_option maxRecDepth 100000 in
theorem kw_1605 : (Jvm.Cond.methodLink "LackFerryLaw" (141 : Nat) ({ cls := "LackFerryModel", name := "prices", desc := "()I" } : Jvm.MethodName)) ∈ ab_G := ab_g 1605 rfl rfl
set_option maxRecDepth 100000 in
theorem kw_1606 : (Jvm.Cond.instanceMethod ({ cls := "LackFerryModel", name := "prices", desc := "()I" } : Jvm.MethodName)) ∈ ab_G := ab_g 1606 rfl rfl
set_option maxRecDepth 100000 in
theorem kw_1607 : (Jvm.Cond.selects "LackFerryModel" ({ cls := "LackFerryModel", name := "prices", desc := "()I" } : Jvm.MethodName) ({ cls := "LackFerryModel", name := "prices", desc := "()I" } : Jvm.MethodName)) ∈ ab_G := ab_g 1607 rfl rfl
set_option maxRecDepth 100000 in
theorem kw_1608 : (Jvm.Cond.code ({ cls := "LackFerryModel", name := "prices", desc := "()I" } : Jvm.MethodName) prog_13_method_81_code (5 : Nat) (Option.some Jvm.ClassFile.FieldType.int)) ∈ ab_G := ab_g 1608 rfl rfl
set_option maxRecDepth 100000 in
theorem kw_1609 : (Jvm.Cond.methodLink "LackFerryLaw" (145 : Nat) ({ cls := "LackFerryModel", name := "price", desc := "(II)I" } : Jvm.MethodName)) ∈ ab_G := ab_g 1609 rfl rfl
set_option maxRecDepth 100000 in
theorem kw_1610 : (Jvm.Cond.instanceMethod ({ cls := "LackFerryModel", name := "price", desc := "(II)I" } : Jvm.MethodName)) ∈ ab_G := ab_g 1610 rfl rfl
set_option maxRecDepth 100000 in
theorem kw_1611 : (Jvm.Cond.selects "LackFerryModel" ({ cls := "LackFerryModel", name := "price", desc := "(II)I" } : Jvm.MethodName) ({ cls := "LackFerryModel", name := "price", desc := "(II)I" } : Jvm.MethodName)) ∈ ab_G := ab_g 1611 rfl rfl
set_option maxRecDepth 100000 in
theorem kw_1612 : (Jvm.Cond.code ({ cls := "LackFerryModel", name := "price", desc := "(II)I" } : Jvm.MethodName) prog_13_method_82_code (3 : Nat) (Option.some Jvm.ClassFile.FieldType.int)) ∈ ab_G := ab_g 1612 rfl rfl
set_option maxRecDepth 100000 in
theorem kw_1613 : (Jvm.Cond.methodLink "LackFerryLaw" (149 : Nat) ({ cls := "LackFerryModel", name := "dearest", desc := "()I" } : Jvm.MethodName)) ∈ ab_G := ab_g 1613 rfl rfl
set_option maxRecDepth 100000 in
theorem kw_1614 : (Jvm.Cond.instanceMethod ({ cls := "LackFerryModel", name := "dearest", desc := "()I" } : Jvm.MethodName)) ∈ ab_G := ab_g 1614 rfl rfl
set_option maxRecDepth 100000 in
theorem kw_1615 : (Jvm.Cond.selects "LackFerryModel" ({ cls := "LackFerryModel", name := "dearest", desc := "()I" } : Jvm.MethodName) ({ cls := "LackFerryModel", name := "dearest", desc := "()I" } : Jvm.MethodName)) ∈ ab_G := ab_g 1615 rfl rfl
set_option maxRecDepth 100000 in
theorem kw_1616 : (Jvm.Cond.code ({ cls := "LackFerryModel", name := "dearest", desc := "()I" } : Jvm.MethodName) prog_13_method_83_code (4 : Nat) (Option.some Jvm.ClassFile.FieldType.int)) ∈ ab_G := ab_g 1616 rfl rfl
set_option maxRecDepth 100000 in
theorem kw_1617 : (Jvm.Cond.methodLink "LackFerryModel" (332 : Nat) ({ cls := "LackFerryModel", name := "bits", desc := "(I)I" } : Jvm.MethodName)) ∈ ab_G := ab_g 1617 rfl rfl
set_option maxRecDepth 100000 in
theorem kw_1618 : (Jvm.Cond.static ({ cls := "LackFerryModel", name := "bits", desc := "(I)I" } : Jvm.MethodName)) ∈ ab_G := ab_g 1618 rfl rfl
set_option maxRecDepth 100000 in
theorem kw_1619 : (Jvm.Cond.code ({ cls := "LackFerryModel", name := "bits", desc := "(I)I" } : Jvm.MethodName) prog_13_method_10_code (3 : Nat) (Option.some Jvm.ClassFile.FieldType.int)) ∈ ab_G := ab_g 1619 rfl rfl
set_option maxRecDepth 100000 in
theorem kw_1620 : (Jvm.Cond.methodLink "LackFerryLaw" (153 : Nat) ({ cls := "LackFerryModel", name := "rats", desc := "()I" } : Jvm.MethodName)) ∈ ab_G := ab_g 1620 rfl rfl
set_option maxRecDepth 100000 in
theorem kw_1621 : (Jvm.Cond.instanceMethod ({ cls := "LackFerryModel", name := "rats", desc := "()I" } : Jvm.MethodName)) ∈ ab_G := ab_g 1621 rfl rfl
set_option maxRecDepth 100000 in
theorem kw_1622 : (Jvm.Cond.selects "LackFerryModel" ({ cls := "LackFerryModel", name := "rats", desc := "()I" } : Jvm.MethodName) ({ cls := "LackFerryModel", name := "rats", desc := "()I" } : Jvm.MethodName)) ∈ ab_G := ab_g 1622 rfl rfl
set_option maxRecDepth 100000 in
theorem kw_1623 : (Jvm.Cond.code ({ cls := "LackFerryModel", name := "rats", desc := "()I" } : Jvm.MethodName) prog_13_method_84_code (3 : Nat) (Option.some Jvm.ClassFile.FieldType.int)) ∈ ab_G := ab_g 1623 rfl rfl
set_option maxRecDepth 100000 in
theorem kw_1624 : (Jvm.Cond.methodLink "LackFerryLaw" (157 : Nat) ({ cls := "LackFerryModel", name := "hoarded", desc := "(I)I" } : Jvm.MethodName)) ∈ ab_G := ab_g 1624 rfl rfl
set_option maxRecDepth 100000 in
theorem kw_1625 : (Jvm.Cond.instanceMethod ({ cls := "LackFerryModel", name := "hoarded", desc := "(I)I" } : Jvm.MethodName)) ∈ ab_G := ab_g 1625 rfl rfl
set_option maxRecDepth 100000 in
theorem kw_1626 : (Jvm.Cond.selects "LackFerryModel" ({ cls := "LackFerryModel", name := "hoarded", desc := "(I)I" } : Jvm.MethodName) ({ cls := "LackFerryModel", name := "hoarded", desc := "(I)I" } : Jvm.MethodName)) ∈ ab_G := ab_g 1626 rfl rfl
set_option maxRecDepth 100000 in
theorem kw_1627 : (Jvm.Cond.code ({ cls := "LackFerryModel", name := "hoarded", desc := "(I)I" } : Jvm.MethodName) prog_13_method_85_code (5 : Nat) (Option.some Jvm.ClassFile.FieldType.int)) ∈ ab_G := ab_g 1627 rfl rfl
set_option maxRecDepth 100000 in
theorem kw_1628 : (Jvm.Cond.methodLink "LackFerryLaw" (161 : Nat) ({ cls := "LackFerryModel", name := "drawn", desc := "(II)I" } : Jvm.MethodName)) ∈ ab_G := ab_g 1628 rfl rfl
set_option maxRecDepth 100000 in
theorem kw_1629 : (Jvm.Cond.instanceMethod ({ cls := "LackFerryModel", name := "drawn", desc := "(II)I" } : Jvm.MethodName)) ∈ ab_G := ab_g 1629 rfl rfl
set_option maxRecDepth 100000 in
theorem kw_1630 : (Jvm.Cond.selects "LackFerryModel" ({ cls := "LackFerryModel", name := "drawn", desc := "(II)I" } : Jvm.MethodName) ({ cls := "LackFerryModel", name := "drawn", desc := "(II)I" } : Jvm.MethodName)) ∈ ab_G := ab_g 1630 rfl rfl
set_option maxRecDepth 100000 in
theorem kw_1631 : (Jvm.Cond.code ({ cls := "LackFerryModel", name := "drawn", desc := "(II)I" } : Jvm.MethodName) prog_13_method_89_code (3 : Nat) (Option.some Jvm.ClassFile.FieldType.int)) ∈ ab_G := ab_g 1631 rfl rfl
set_option maxRecDepth 100000 in
theorem kw_1632 : (Jvm.Cond.methodLink "LackFerryModel" (345 : Nat) ({ cls := "LackFerryModel", name := "draws", desc := "(II)I" } : Jvm.MethodName)) ∈ ab_G := ab_g 1632 rfl rfl
set_option maxRecDepth 100000 in
theorem kw_1634 : (Jvm.Cond.instanceMethod ({ cls := "LackFerryModel", name := "draws", desc := "(II)I" } : Jvm.MethodName)) ∈ ab_G := ab_g 1634 rfl rfl
set_option maxRecDepth 100000 in
theorem kw_1635 : (Jvm.Cond.code ({ cls := "LackFerryModel", name := "draws", desc := "(II)I" } : Jvm.MethodName) prog_13_method_88_code (4 : Nat) (Option.some Jvm.ClassFile.FieldType.int)) ∈ ab_G := ab_g 1635 rfl rfl
set_option maxRecDepth 100000 in
theorem kw_1636 : (Jvm.Cond.methodLink "LackFerryModel" (342 : Nat) ({ cls := "LackFerryModel", name := "drawsDay", desc := "()V" } : Jvm.MethodName)) ∈ ab_G := ab_g 1636 rfl rfl
set_option maxRecDepth 100000 in
theorem kw_1638 : (Jvm.Cond.instanceMethod ({ cls := "LackFerryModel", name := "drawsDay", desc := "()V" } : Jvm.MethodName)) ∈ ab_G := ab_g 1638 rfl rfl
set_option maxRecDepth 100000 in
theorem kw_1639 : (Jvm.Cond.code ({ cls := "LackFerryModel", name := "drawsDay", desc := "()V" } : Jvm.MethodName) prog_13_method_87_code (5 : Nat) (Option.none : Option Jvm.ClassFile.FieldType)) ∈ ab_G := ab_g 1639 rfl rfl
set_option maxRecDepth 100000 in
theorem kw_1640 : (Jvm.Cond.methodLink "LackFerryModel" (339 : Nat) ({ cls := "LackFerryModel", name := "draw", desc := "(I)I" } : Jvm.MethodName)) ∈ ab_G := ab_g 1640 rfl rfl
set_option maxRecDepth 100000 in
theorem kw_1642 : (Jvm.Cond.instanceMethod ({ cls := "LackFerryModel", name := "draw", desc := "(I)I" } : Jvm.MethodName)) ∈ ab_G := ab_g 1642 rfl rfl
set_option maxRecDepth 100000 in
theorem kw_1643 : (Jvm.Cond.code ({ cls := "LackFerryModel", name := "draw", desc := "(I)I" } : Jvm.MethodName) prog_13_method_86_code (2 : Nat) (Option.some Jvm.ClassFile.FieldType.int)) ∈ ab_G := ab_g 1643 rfl rfl
set_option maxRecDepth 100000 in
theorem kw_1644 : (Jvm.Cond.constant "LackFerryModel" (338 : Nat) (1103515245 : Int32)) ∈ ab_G := ab_g 1644 rfl rfl
set_option maxRecDepth 100000 in
theorem kw_1645 : (Jvm.Cond.methodLink "LackFerryLaw" (165 : Nat) ({ cls := "LackFerryModel", name := "odds", desc := "(III)I" } : Jvm.MethodName)) ∈ ab_G := ab_g 1645 rfl rfl
set_option maxRecDepth 100000 in
theorem kw_1646 : (Jvm.Cond.instanceMethod ({ cls := "LackFerryModel", name := "odds", desc := "(III)I" } : Jvm.MethodName)) ∈ ab_G := ab_g 1646 rfl rfl
set_option maxRecDepth 100000 in
theorem kw_1647 : (Jvm.Cond.selects "LackFerryModel" ({ cls := "LackFerryModel", name := "odds", desc := "(III)I" } : Jvm.MethodName) ({ cls := "LackFerryModel", name := "odds", desc := "(III)I" } : Jvm.MethodName)) ∈ ab_G := ab_g 1647 rfl rfl
set_option maxRecDepth 100000 in
theorem kw_1648 : (Jvm.Cond.code ({ cls := "LackFerryModel", name := "odds", desc := "(III)I" } : Jvm.MethodName) prog_13_method_90_code (7 : Nat) (Option.some Jvm.ClassFile.FieldType.int)) ∈ ab_G := ab_g 1648 rfl rfl
set_option maxRecDepth 100000 in
theorem kw_1649 : (Jvm.Cond.methodLink "LackFerryLaw" (169 : Nat) ({ cls := "LackFerryModel", name := "log", desc := "(I)I" } : Jvm.MethodName)) ∈ ab_G := ab_g 1649 rfl rfl
set_option maxRecDepth 100000 in
theorem kw_1650 : (Jvm.Cond.instanceMethod ({ cls := "LackFerryModel", name := "log", desc := "(I)I" } : Jvm.MethodName)) ∈ ab_G := ab_g 1650 rfl rfl
set_option maxRecDepth 100000 in
theorem kw_1651 : (Jvm.Cond.selects "LackFerryModel" ({ cls := "LackFerryModel", name := "log", desc := "(I)I" } : Jvm.MethodName) ({ cls := "LackFerryModel", name := "log", desc := "(I)I" } : Jvm.MethodName)) ∈ ab_G := ab_g 1651 rfl rfl
set_option maxRecDepth 100000 in
theorem kw_1652 : (Jvm.Cond.code ({ cls := "LackFerryModel", name := "log", desc := "(I)I" } : Jvm.MethodName) prog_13_method_93_code (5 : Nat) (Option.some Jvm.ClassFile.FieldType.int)) ∈ ab_G := ab_g 1652 rfl rfl
set_option maxRecDepth 100000 in
theorem kw_1653 : (Jvm.Cond.methodLink "LackFerryModel" (351 : Nat) ({ cls := "LackFerryModel", name := "logLine", desc := "()Z" } : Jvm.MethodName)) ∈ ab_G := ab_g 1653 rfl rfl
set_option maxRecDepth 100000 in
theorem kw_1655 : (Jvm.Cond.instanceMethod ({ cls := "LackFerryModel", name := "logLine", desc := "()Z" } : Jvm.MethodName)) ∈ ab_G := ab_g 1655 rfl rfl
set_option maxRecDepth 100000 in
theorem kw_1656 : (Jvm.Cond.code ({ cls := "LackFerryModel", name := "logLine", desc := "()Z" } : Jvm.MethodName) prog_13_method_91_code (3 : Nat) (Option.some Jvm.ClassFile.FieldType.boolean)) ∈ ab_G := ab_g 1656 rfl rfl
set_option maxRecDepth 100000 in
theorem kw_1657 : (Jvm.Cond.methodLink "LackFerryModel" (354 : Nat) ({ cls := "LackFerryModel", name := "does", desc := "(IIII)I" } : Jvm.MethodName)) ∈ ab_G := ab_g 1657 rfl rfl
set_option maxRecDepth 100000 in
theorem kw_1659 : (Jvm.Cond.instanceMethod ({ cls := "LackFerryModel", name := "does", desc := "(IIII)I" } : Jvm.MethodName)) ∈ ab_G := ab_g 1659 rfl rfl
set_option maxRecDepth 100000 in
theorem kw_1660 : (Jvm.Cond.code ({ cls := "LackFerryModel", name := "does", desc := "(IIII)I" } : Jvm.MethodName) prog_13_method_92_code (7 : Nat) (Option.some Jvm.ClassFile.FieldType.int)) ∈ ab_G := ab_g 1660 rfl rfl
set_option maxRecDepth 100000 in
theorem kw_1661 : (Jvm.Cond.methodLink "LackFerryLaw" (173 : Nat) ({ cls := "LackFerryModel", name := "logged", desc := "(I)I" } : Jvm.MethodName)) ∈ ab_G := ab_g 1661 rfl rfl
set_option maxRecDepth 100000 in
theorem kw_1662 : (Jvm.Cond.instanceMethod ({ cls := "LackFerryModel", name := "logged", desc := "(I)I" } : Jvm.MethodName)) ∈ ab_G := ab_g 1662 rfl rfl
set_option maxRecDepth 100000 in
theorem kw_1663 : (Jvm.Cond.selects "LackFerryModel" ({ cls := "LackFerryModel", name := "logged", desc := "(I)I" } : Jvm.MethodName) ({ cls := "LackFerryModel", name := "logged", desc := "(I)I" } : Jvm.MethodName)) ∈ ab_G := ab_g 1663 rfl rfl
set_option maxRecDepth 100000 in
theorem kw_1664 : (Jvm.Cond.code ({ cls := "LackFerryModel", name := "logged", desc := "(I)I" } : Jvm.MethodName) prog_13_method_94_code (2 : Nat) (Option.some Jvm.ClassFile.FieldType.int)) ∈ ab_G := ab_g 1664 rfl rfl
set_option maxRecDepth 100000 in
theorem kw_1665 : (Jvm.Cond.methodLink "LackFerryLaw" (177 : Nat) ({ cls := "LackFerryModel", name := "sentence", desc := "()I" } : Jvm.MethodName)) ∈ ab_G := ab_g 1665 rfl rfl
set_option maxRecDepth 100000 in
theorem kw_1666 : (Jvm.Cond.instanceMethod ({ cls := "LackFerryModel", name := "sentence", desc := "()I" } : Jvm.MethodName)) ∈ ab_G := ab_g 1666 rfl rfl
set_option maxRecDepth 100000 in
theorem kw_1667 : (Jvm.Cond.selects "LackFerryModel" ({ cls := "LackFerryModel", name := "sentence", desc := "()I" } : Jvm.MethodName) ({ cls := "LackFerryModel", name := "sentence", desc := "()I" } : Jvm.MethodName)) ∈ ab_G := ab_g 1667 rfl rfl
set_option maxRecDepth 100000 in
theorem kw_1668 : (Jvm.Cond.code ({ cls := "LackFerryModel", name := "sentence", desc := "()I" } : Jvm.MethodName) prog_13_method_101_code (3 : Nat) (Option.some Jvm.ClassFile.FieldType.int)) ∈ ab_G := ab_g 1668 rfl rfl
set_option maxRecDepth 100000 in
theorem kw_1669 : (Jvm.Cond.methodLink "LackFerryModel" (383 : Nat) ({ cls := "LackFerryModel", name := "nots", desc := "()V" } : Jvm.MethodName)) ∈ ab_G := ab_g 1669 rfl rfl
set_option maxRecDepth 100000 in
theorem kw_1671 : (Jvm.Cond.instanceMethod ({ cls := "LackFerryModel", name := "nots", desc := "()V" } : Jvm.MethodName)) ∈ ab_G := ab_g 1671 rfl rfl
set_option maxRecDepth 100000 in
theorem kw_1672 : (Jvm.Cond.code ({ cls := "LackFerryModel", name := "nots", desc := "()V" } : Jvm.MethodName) prog_13_method_97_code (1 : Nat) (Option.none : Option Jvm.ClassFile.FieldType)) ∈ ab_G := ab_g 1672 rfl rfl
set_option maxRecDepth 100000 in
theorem kw_1673 : (Jvm.Cond.methodLink "LackFerryModel" (367 : Nat) ({ cls := "LackFerryModel", name := "code", desc := "(III)V" } : Jvm.MethodName)) ∈ ab_G := ab_g 1673 rfl rfl
set_option maxRecDepth 100000 in
theorem kw_1675 : (Jvm.Cond.instanceMethod ({ cls := "LackFerryModel", name := "code", desc := "(III)V" } : Jvm.MethodName)) ∈ ab_G := ab_g 1675 rfl rfl
set_option maxRecDepth 100000 in
theorem kw_1676 : (Jvm.Cond.code ({ cls := "LackFerryModel", name := "code", desc := "(III)V" } : Jvm.MethodName) prog_13_method_95_code (4 : Nat) (Option.none : Option Jvm.ClassFile.FieldType)) ∈ ab_G := ab_g 1676 rfl rfl
set_option maxRecDepth 100000 in
theorem kw_1677 : (Jvm.Cond.methodLink "LackFerryModel" (386 : Nat) ({ cls := "LackFerryModel", name := "joins", desc := "(I)V" } : Jvm.MethodName)) ∈ ab_G := ab_g 1677 rfl rfl
set_option maxRecDepth 100000 in
theorem kw_1679 : (Jvm.Cond.instanceMethod ({ cls := "LackFerryModel", name := "joins", desc := "(I)V" } : Jvm.MethodName)) ∈ ab_G := ab_g 1679 rfl rfl
set_option maxRecDepth 100000 in
theorem kw_1680 : (Jvm.Cond.code ({ cls := "LackFerryModel", name := "joins", desc := "(I)V" } : Jvm.MethodName) prog_13_method_96_code (2 : Nat) (Option.none : Option Jvm.ClassFile.FieldType)) ∈ ab_G := ab_g 1680 rfl rfl
set_option maxRecDepth 100000 in
theorem kw_1681 : (Jvm.Cond.methodLink "LackFerryModel" (389 : Nat) ({ cls := "LackFerryModel", name := "behind", desc := "()Z" } : Jvm.MethodName)) ∈ ab_G := ab_g 1681 rfl rfl
set_option maxRecDepth 100000 in
theorem kw_1683 : (Jvm.Cond.instanceMethod ({ cls := "LackFerryModel", name := "behind", desc := "()Z" } : Jvm.MethodName)) ∈ ab_G := ab_g 1683 rfl rfl
set_option maxRecDepth 100000 in
theorem kw_1684 : (Jvm.Cond.code ({ cls := "LackFerryModel", name := "behind", desc := "()Z" } : Jvm.MethodName) prog_13_method_100_code (1 : Nat) (Option.some Jvm.ClassFile.FieldType.boolean)) ∈ ab_G := ab_g 1684 rfl rfl
set_option maxRecDepth 100000 in
theorem kw_1685 : (Jvm.Cond.methodLink "LackFerryModel" (392 : Nat) ({ cls := "LackFerryModel", name := "operand", desc := "()Z" } : Jvm.MethodName)) ∈ ab_G := ab_g 1685 rfl rfl
set_option maxRecDepth 100000 in
theorem kw_1687 : (Jvm.Cond.instanceMethod ({ cls := "LackFerryModel", name := "operand", desc := "()Z" } : Jvm.MethodName)) ∈ ab_G := ab_g 1687 rfl rfl
set_option maxRecDepth 100000 in
theorem kw_1688 : (Jvm.Cond.code ({ cls := "LackFerryModel", name := "operand", desc := "()Z" } : Jvm.MethodName) prog_13_method_99_code (5 : Nat) (Option.some Jvm.ClassFile.FieldType.boolean)) ∈ ab_G := ab_g 1688 rfl rfl
set_option maxRecDepth 100000 in
theorem kw_1689 : (Jvm.Cond.methodLink "LackFerryModel" (374 : Nat) ({ cls := "LackFerryModel", name := "leafOf", desc := "()I" } : Jvm.MethodName)) ∈ ab_G := ab_g 1689 rfl rfl
set_option maxRecDepth 100000 in
theorem kw_1691 : (Jvm.Cond.instanceMethod ({ cls := "LackFerryModel", name := "leafOf", desc := "()I" } : Jvm.MethodName)) ∈ ab_G := ab_g 1691 rfl rfl
set_option maxRecDepth 100000 in
theorem kw_1692 : (Jvm.Cond.code ({ cls := "LackFerryModel", name := "leafOf", desc := "()I" } : Jvm.MethodName) prog_13_method_98_code (1 : Nat) (Option.some Jvm.ClassFile.FieldType.int)) ∈ ab_G := ab_g 1692 rfl rfl
set_option maxRecDepth 100000 in
theorem kw_1693 : (Jvm.Cond.methodLink "LackFerryLaw" (181 : Nat) ({ cls := "LackFerryModel", name := "said", desc := "(I)I" } : Jvm.MethodName)) ∈ ab_G := ab_g 1693 rfl rfl
set_option maxRecDepth 100000 in
theorem kw_1694 : (Jvm.Cond.instanceMethod ({ cls := "LackFerryModel", name := "said", desc := "(I)I" } : Jvm.MethodName)) ∈ ab_G := ab_g 1694 rfl rfl
set_option maxRecDepth 100000 in
theorem kw_1695 : (Jvm.Cond.selects "LackFerryModel" ({ cls := "LackFerryModel", name := "said", desc := "(I)I" } : Jvm.MethodName) ({ cls := "LackFerryModel", name := "said", desc := "(I)I" } : Jvm.MethodName)) ∈ ab_G := ab_g 1695 rfl rfl
set_option maxRecDepth 100000 in
theorem kw_1696 : (Jvm.Cond.code ({ cls := "LackFerryModel", name := "said", desc := "(I)I" } : Jvm.MethodName) prog_13_method_104_code (4 : Nat) (Option.some Jvm.ClassFile.FieldType.int)) ∈ ab_G := ab_g 1696 rfl rfl
set_option maxRecDepth 100000 in
theorem kw_1697 : (Jvm.Cond.methodLink "LackFerryModel" (399 : Nat) ({ cls := "LackFerryModel", name := "isSaid", desc := "(I)Z" } : Jvm.MethodName)) ∈ ab_G := ab_g 1697 rfl rfl
set_option maxRecDepth 100000 in
theorem kw_1699 : (Jvm.Cond.instanceMethod ({ cls := "LackFerryModel", name := "isSaid", desc := "(I)Z" } : Jvm.MethodName)) ∈ ab_G := ab_g 1699 rfl rfl
set_option maxRecDepth 100000 in
theorem kw_1700 : (Jvm.Cond.code ({ cls := "LackFerryModel", name := "isSaid", desc := "(I)Z" } : Jvm.MethodName) prog_13_method_103_code (5 : Nat) (Option.some Jvm.ClassFile.FieldType.boolean)) ∈ ab_G := ab_g 1700 rfl rfl
set_option maxRecDepth 100000 in
theorem kw_1701 : (Jvm.Cond.methodLink "LackFerryModel" (395 : Nat) ({ cls := "LackFerryModel", name := "isLeaf", desc := "(IIII)Z" } : Jvm.MethodName)) ∈ ab_G := ab_g 1701 rfl rfl
set_option maxRecDepth 100000 in
theorem kw_1703 : (Jvm.Cond.instanceMethod ({ cls := "LackFerryModel", name := "isLeaf", desc := "(IIII)Z" } : Jvm.MethodName)) ∈ ab_G := ab_g 1703 rfl rfl
set_option maxRecDepth 100000 in
theorem kw_1704 : (Jvm.Cond.code ({ cls := "LackFerryModel", name := "isLeaf", desc := "(IIII)Z" } : Jvm.MethodName) prog_13_method_102_code (6 : Nat) (Option.some Jvm.ClassFile.FieldType.boolean)) ∈ ab_G := ab_g 1704 rfl rfl
set_option maxRecDepth 100000 in
theorem kw_1705 : (Jvm.Cond.methodLink "LackFerryLaw" (185 : Nat) ({ cls := "LackFerryModel", name := "image", desc := "(I)Z" } : Jvm.MethodName)) ∈ ab_G := ab_g 1705 rfl rfl
set_option maxRecDepth 100000 in
theorem kw_1706 : (Jvm.Cond.instanceMethod ({ cls := "LackFerryModel", name := "image", desc := "(I)Z" } : Jvm.MethodName)) ∈ ab_G := ab_g 1706 rfl rfl
set_option maxRecDepth 100000 in
theorem kw_1707 : (Jvm.Cond.selects "LackFerryModel" ({ cls := "LackFerryModel", name := "image", desc := "(I)Z" } : Jvm.MethodName) ({ cls := "LackFerryModel", name := "image", desc := "(I)Z" } : Jvm.MethodName)) ∈ ab_G := ab_g 1707 rfl rfl
set_option maxRecDepth 100000 in
theorem kw_1708 : (Jvm.Cond.code ({ cls := "LackFerryModel", name := "image", desc := "(I)Z" } : Jvm.MethodName) prog_13_method_105_code (3 : Nat) (Option.some Jvm.ClassFile.FieldType.boolean)) ∈ ab_G := ab_g 1708 rfl rfl
set_option maxRecDepth 100000 in
theorem kw_1709 : (Jvm.Cond.methodLink "LackFerryLaw" (189 : Nat) ({ cls := "LackFerryModel", name := "restore", desc := "(I)Z" } : Jvm.MethodName)) ∈ ab_G := ab_g 1709 rfl rfl
set_option maxRecDepth 100000 in
theorem kw_1710 : (Jvm.Cond.instanceMethod ({ cls := "LackFerryModel", name := "restore", desc := "(I)Z" } : Jvm.MethodName)) ∈ ab_G := ab_g 1710 rfl rfl
set_option maxRecDepth 100000 in
theorem kw_1711 : (Jvm.Cond.selects "LackFerryModel" ({ cls := "LackFerryModel", name := "restore", desc := "(I)Z" } : Jvm.MethodName) ({ cls := "LackFerryModel", name := "restore", desc := "(I)Z" } : Jvm.MethodName)) ∈ ab_G := ab_g 1711 rfl rfl
set_option maxRecDepth 100000 in
theorem kw_1712 : (Jvm.Cond.code ({ cls := "LackFerryModel", name := "restore", desc := "(I)Z" } : Jvm.MethodName) prog_13_method_106_code (3 : Nat) (Option.some Jvm.ClassFile.FieldType.boolean)) ∈ ab_G := ab_g 1712 rfl rfl
set_option maxRecDepth 100000 in
theorem kw_1713 : (Jvm.Cond.methodLink "LackFerryLaw" (193 : Nat) ({ cls := "LackFerryModel", name := "count", desc := "(I)I" } : Jvm.MethodName)) ∈ ab_G := ab_g 1713 rfl rfl
set_option maxRecDepth 100000 in
theorem kw_1714 : (Jvm.Cond.instanceMethod ({ cls := "LackFerryModel", name := "count", desc := "(I)I" } : Jvm.MethodName)) ∈ ab_G := ab_g 1714 rfl rfl
set_option maxRecDepth 100000 in
theorem kw_1715 : (Jvm.Cond.selects "LackFerryModel" ({ cls := "LackFerryModel", name := "count", desc := "(I)I" } : Jvm.MethodName) ({ cls := "LackFerryModel", name := "count", desc := "(I)I" } : Jvm.MethodName)) ∈ ab_G := ab_g 1715 rfl rfl
set_option maxRecDepth 100000 in
theorem kw_1716 : (Jvm.Cond.code ({ cls := "LackFerryModel", name := "count", desc := "(I)I" } : Jvm.MethodName) prog_13_method_107_code (2 : Nat) (Option.some Jvm.ClassFile.FieldType.int)) ∈ ab_G := ab_g 1716 rfl rfl
set_option maxRecDepth 100000 in
theorem kp_0 : Cond.selects "LackFerry$Tape" ⟨"LackFerry$Tape", "skipBlanks", "()V"⟩ ⟨"LackFerry$Tape", "skipBlanks", "()V"⟩ ∈ ab_G := ab_gp (q := (⟨"LackFerry$Tape", "skipBlanks", "()V"⟩, 3)) 0 rfl
set_option maxRecDepth 100000 in
theorem kp_1 : Cond.selects "LackFerry$Tape" ⟨"LackFerry$Tape", "cutToken", "(LLackFerry$Tokens;)I"⟩ ⟨"LackFerry$Tape", "cutToken", "(LLackFerry$Tokens;)I"⟩ ∈ ab_G := ab_gp (q := (⟨"LackFerry$Tape", "cutToken", "(LLackFerry$Tokens;)I"⟩, 3)) 1 rfl
set_option maxRecDepth 100000 in
theorem kp_2 : Cond.selects "LackFerry$Tape" ⟨"LackFerry$Tape", "cutRun", "(LLackFerry$Tokens;)I"⟩ ⟨"LackFerry$Tape", "cutRun", "(LLackFerry$Tokens;)I"⟩ ∈ ab_G := ab_gp (q := (⟨"LackFerry$Tape", "cutRun", "(LLackFerry$Tokens;)I"⟩, 3)) 2 rfl
set_option maxRecDepth 100000 in
theorem kp_3 : Cond.selects "LackFerry$Tape" ⟨"LackFerry$Tape", "kindOfWord", "(II)I"⟩ ⟨"LackFerry$Tape", "kindOfWord", "(II)I"⟩ ∈ ab_G := ab_gp (q := (⟨"LackFerry$Tape", "kindOfWord", "(II)I"⟩, 3)) 3 rfl
set_option maxRecDepth 100000 in
theorem kp_4 : Cond.selects "LackFerry$Tape" ⟨"LackFerry$Tape", "isToldWord", "(III)Z"⟩ ⟨"LackFerry$Tape", "isToldWord", "(III)Z"⟩ ∈ ab_G := ab_gp (q := (⟨"LackFerry$Tape", "isToldWord", "(III)Z"⟩, 3)) 4 rfl
set_option maxRecDepth 100000 in
theorem kp_5 : Cond.selects "LackFerry$Strait" ⟨"LackFerry$Strait", "clear", "()V"⟩ ⟨"LackFerry$Strait", "clear", "()V"⟩ ∈ ab_G := ab_gp (q := (⟨"LackFerry$Strait", "clear", "()V"⟩, 13)) 5 rfl
set_option maxRecDepth 100000 in
theorem kp_6 : Cond.selects "LackFerry$Strait" ⟨"LackFerry$Strait", "readLine", "(LLackFerry$Tokens;)Z"⟩ ⟨"LackFerry$Strait", "readLine", "(LLackFerry$Tokens;)Z"⟩ ∈ ab_G := ab_gp (q := (⟨"LackFerry$Strait", "readLine", "(LLackFerry$Tokens;)Z"⟩, 13)) 6 rfl
set_option maxRecDepth 100000 in
theorem kp_7 : Cond.selects "LackFerry$Strait" ⟨"LackFerry$Strait", "readAmount", "(LLackFerry$Tokens;I)Z"⟩ ⟨"LackFerry$Strait", "readAmount", "(LLackFerry$Tokens;I)Z"⟩ ∈ ab_G := ab_gp (q := (⟨"LackFerry$Strait", "readAmount", "(LLackFerry$Tokens;I)Z"⟩, 13)) 7 rfl
set_option maxRecDepth 100000 in
theorem kp_8 : Cond.selects "LackFerry$Strait" ⟨"LackFerry$Strait", "readLoad", "(LLackFerry$Tokens;)Z"⟩ ⟨"LackFerry$Strait", "readLoad", "(LLackFerry$Tokens;)Z"⟩ ∈ ab_G := ab_gp (q := (⟨"LackFerry$Strait", "readLoad", "(LLackFerry$Tokens;)Z"⟩, 13)) 8 rfl
set_option maxRecDepth 100000 in
theorem kp_9 : Cond.selects "LackFerry$Strait" ⟨"LackFerry$Strait", "readGood", "(LLackFerry$Tokens;)Z"⟩ ⟨"LackFerry$Strait", "readGood", "(LLackFerry$Tokens;)Z"⟩ ∈ ab_G := ab_gp (q := (⟨"LackFerry$Strait", "readGood", "(LLackFerry$Tokens;)Z"⟩, 13)) 9 rfl
set_option maxRecDepth 100000 in
theorem kp_10 : Cond.selects "LackFerry$Strait" ⟨"LackFerry$Strait", "takeNewName", "(LLackFerry$Tokens;)Z"⟩ ⟨"LackFerry$Strait", "takeNewName", "(LLackFerry$Tokens;)Z"⟩ ∈ ab_G := ab_gp (q := (⟨"LackFerry$Strait", "takeNewName", "(LLackFerry$Tokens;)Z"⟩, 13)) 10 rfl
set_option maxRecDepth 100000 in
theorem kp_11 : Cond.selects "LackFerry$Strait" ⟨"LackFerry$Strait", "readMan", "(LLackFerry$Tokens;)Z"⟩ ⟨"LackFerry$Strait", "readMan", "(LLackFerry$Tokens;)Z"⟩ ∈ ab_G := ab_gp (q := (⟨"LackFerry$Strait", "readMan", "(LLackFerry$Tokens;)Z"⟩, 13)) 11 rfl
set_option maxRecDepth 100000 in
theorem kp_12 : Cond.selects "LackFerry$Strait" ⟨"LackFerry$Strait", "readMisses", "(LLackFerry$Tokens;)Z"⟩ ⟨"LackFerry$Strait", "readMisses", "(LLackFerry$Tokens;)Z"⟩ ∈ ab_G := ab_gp (q := (⟨"LackFerry$Strait", "readMisses", "(LLackFerry$Tokens;)Z"⟩, 13)) 12 rfl
set_option maxRecDepth 100000 in
theorem kp_13 : Cond.selects "LackFerry$Strait" ⟨"LackFerry$Strait", "takeMan", "(LLackFerry$Tokens;)I"⟩ ⟨"LackFerry$Strait", "takeMan", "(LLackFerry$Tokens;)I"⟩ ∈ ab_G := ab_gp (q := (⟨"LackFerry$Strait", "takeMan", "(LLackFerry$Tokens;)I"⟩, 13)) 13 rfl
set_option maxRecDepth 100000 in
theorem kp_14 : Cond.selects "LackFerry$Strait" ⟨"LackFerry$Strait", "isMissTold", "(II)Z"⟩ ⟨"LackFerry$Strait", "isMissTold", "(II)Z"⟩ ∈ ab_G := ab_gp (q := (⟨"LackFerry$Strait", "isMissTold", "(II)Z"⟩, 13)) 14 rfl
set_option maxRecDepth 100000 in
theorem kp_15 : Cond.selects "LackFerry" ⟨"LackFerry", "isSlot", "(II)Z"⟩ ⟨"LackFerry", "isSlot", "(II)Z"⟩ ∈ ab_G := ab_gp (q := (⟨"LackFerry", "isSlot", "(II)Z"⟩, 19)) 15 rfl
set_option maxRecDepth 100000 in
theorem kp_16 : Cond.selects "LackFerry" ⟨"LackFerry", "isGood", "(I)Z"⟩ ⟨"LackFerry", "isGood", "(I)Z"⟩ ∈ ab_G := ab_gp (q := (⟨"LackFerry", "isGood", "(I)Z"⟩, 19)) 16 rfl
set_option maxRecDepth 100000 in
theorem kp_17 : Cond.selects "LackFerry" ⟨"LackFerry", "areLivingTwo", "(II)Z"⟩ ⟨"LackFerry", "areLivingTwo", "(II)Z"⟩ ∈ ab_G := ab_gp (q := (⟨"LackFerry", "areLivingTwo", "(II)Z"⟩, 19)) 17 rfl
set_option maxRecDepth 100000 in
theorem kp_18 : Cond.selects "LackFerry" ⟨"LackFerry", "isMan", "(I)Z"⟩ ⟨"LackFerry", "isMan", "(I)Z"⟩ ∈ ab_G := ab_gp (q := (⟨"LackFerry", "isMan", "(I)Z"⟩, 19)) 18 rfl
set_option maxRecDepth 100000 in
theorem kp_19 : Cond.selects "LackFerry$Shores" ⟨"LackFerry$Shores", "isFelt", "(LLackFerry$Strait;I)Z"⟩ ⟨"LackFerry$Shores", "isFelt", "(LLackFerry$Strait;I)Z"⟩ ∈ ab_G := ab_gp (q := (⟨"LackFerry$Shores", "isFelt", "(LLackFerry$Strait;I)Z"⟩, 10)) 19 rfl
set_option maxRecDepth 100000 in
theorem kp_20 : Cond.selects "LackFerry" ⟨"LackFerry", "act", "(IIII)I"⟩ ⟨"LackFerry", "act", "(IIII)I"⟩ ∈ ab_G := ab_gp (q := (⟨"LackFerry", "act", "(IIII)I"⟩, 19)) 20 rfl
set_option maxRecDepth 100000 in
theorem kp_21 : Cond.selects "LackFerry$History" ⟨"LackFerry$History", "dropOldest", "()V"⟩ ⟨"LackFerry$History", "dropOldest", "()V"⟩ ∈ ab_G := ab_gp (q := (⟨"LackFerry$History", "dropOldest", "()V"⟩, 2)) 21 rfl
set_option maxRecDepth 100000 in
theorem kp_22 : Cond.selects "LackFerry$Ferry" ⟨"LackFerry$Ferry", "carry", "(LLackFerry$Strait;LLackFerry$Shores;)V"⟩ ⟨"LackFerry$Ferry", "carry", "(LLackFerry$Strait;LLackFerry$Shores;)V"⟩ ∈ ab_G := ab_gp (q := (⟨"LackFerry$Ferry", "carry", "(LLackFerry$Strait;LLackFerry$Shores;)V"⟩, 4)) 22 rfl
set_option maxRecDepth 100000 in
theorem kp_23 : Cond.selects "LackFerry" ⟨"LackFerry", "foreseeRoom", "(II)I"⟩ ⟨"LackFerry", "foreseeRoom", "(II)I"⟩ ∈ ab_G := ab_gp (q := (⟨"LackFerry", "foreseeRoom", "(II)I"⟩, 19)) 23 rfl
set_option maxRecDepth 100000 in
theorem kp_24 : Cond.selects "LackFerry" ⟨"LackFerry", "roomTowards", "(II)I"⟩ ⟨"LackFerry", "roomTowards", "(II)I"⟩ ∈ ab_G := ab_gp (q := (⟨"LackFerry", "roomTowards", "(II)I"⟩, 19)) 24 rfl
set_option maxRecDepth 100000 in
theorem kp_25 : Cond.selects "LackFerry" ⟨"LackFerry", "wouldCome", "(IIII)I"⟩ ⟨"LackFerry", "wouldCome", "(IIII)I"⟩ ∈ ab_G := ab_gp (q := (⟨"LackFerry", "wouldCome", "(IIII)I"⟩, 19)) 25 rfl
set_option maxRecDepth 100000 in
theorem kp_26 : Cond.selects "LackFerry" ⟨"LackFerry", "couldGoSo", "(II)Z"⟩ ⟨"LackFerry", "couldGoSo", "(II)Z"⟩ ∈ ab_G := ab_gp (q := (⟨"LackFerry", "couldGoSo", "(II)Z"⟩, 19)) 26 rfl
set_option maxRecDepth 100000 in
theorem kp_27 : Cond.selects "LackFerry" ⟨"LackFerry", "movePrices", "()Z"⟩ ⟨"LackFerry", "movePrices", "()Z"⟩ ∈ ab_G := ab_gp (q := (⟨"LackFerry", "movePrices", "()Z"⟩, 19)) 27 rfl
set_option maxRecDepth 100000 in
theorem kp_28 : Cond.selects "LackFerry" ⟨"LackFerry", "drawDays", "(LLackFerry$Shores;II)I"⟩ ⟨"LackFerry", "drawDays", "(LLackFerry$Shores;II)I"⟩ ∈ ab_G := ab_gp (q := (⟨"LackFerry", "drawDays", "(LLackFerry$Shores;II)I"⟩, 19)) 28 rfl
set_option maxRecDepth 100000 in
theorem kp_29 : Cond.selects "LackFerry" ⟨"LackFerry", "drawDeed", "(LLackFerry$Shores;)V"⟩ ⟨"LackFerry", "drawDeed", "(LLackFerry$Shores;)V"⟩ ∈ ab_G := ab_gp (q := (⟨"LackFerry", "drawDeed", "(LLackFerry$Shores;)V"⟩, 19)) 29 rfl
set_option maxRecDepth 100000 in
theorem kp_30 : Cond.selects "LackFerry" ⟨"LackFerry", "drawDeath", "(LLackFerry$Shores;)V"⟩ ⟨"LackFerry", "drawDeath", "(LLackFerry$Shores;)V"⟩ ∈ ab_G := ab_gp (q := (⟨"LackFerry", "drawDeath", "(LLackFerry$Shores;)V"⟩, 19)) 30 rfl
set_option maxRecDepth 100000 in
theorem kp_31 : Cond.selects "LackFerry$LogText" ⟨"LackFerry$LogText", "readLine", "(LLackFerry$Tokens;LLackFerry$Strait;)Z"⟩ ⟨"LackFerry$LogText", "readLine", "(LLackFerry$Tokens;LLackFerry$Strait;)Z"⟩ ∈ ab_G := ab_gp (q := (⟨"LackFerry$LogText", "readLine", "(LLackFerry$Tokens;LLackFerry$Strait;)Z"⟩, 4)) 31 rfl
set_option maxRecDepth 100000 in
theorem kp_32 : Cond.selects "LackFerry$LogText" ⟨"LackFerry$LogText", "readDeed", "(LLackFerry$Tokens;LLackFerry$Strait;I)Z"⟩ ⟨"LackFerry$LogText", "readDeed", "(LLackFerry$Tokens;LLackFerry$Strait;I)Z"⟩ ∈ ab_G := ab_gp (q := (⟨"LackFerry$LogText", "readDeed", "(LLackFerry$Tokens;LLackFerry$Strait;I)Z"⟩, 4)) 32 rfl
set_option maxRecDepth 100000 in
theorem kp_33 : Cond.selects "LackFerry$LogText" ⟨"LackFerry$LogText", "addLine", "(III)Z"⟩ ⟨"LackFerry$LogText", "addLine", "(III)Z"⟩ ∈ ab_G := ab_gp (q := (⟨"LackFerry$LogText", "addLine", "(III)Z"⟩, 4)) 33 rfl
set_option maxRecDepth 100000 in
theorem kp_34 : Cond.selects "LackFerry$LogText" ⟨"LackFerry$LogText", "readDays", "(LLackFerry$Tokens;)Z"⟩ ⟨"LackFerry$LogText", "readDays", "(LLackFerry$Tokens;)Z"⟩ ∈ ab_G := ab_gp (q := (⟨"LackFerry$LogText", "readDays", "(LLackFerry$Tokens;)Z"⟩, 4)) 34 rfl
set_option maxRecDepth 100000 in
theorem kp_35 : Cond.selects "LackFerry$LogText" ⟨"LackFerry$LogText", "readDeath", "(LLackFerry$Tokens;I)Z"⟩ ⟨"LackFerry$LogText", "readDeath", "(LLackFerry$Tokens;I)Z"⟩ ∈ ab_G := ab_gp (q := (⟨"LackFerry$LogText", "readDeath", "(LLackFerry$Tokens;I)Z"⟩, 4)) 35 rfl
set_option maxRecDepth 100000 in
theorem kp_36 : Cond.selects "LackFerry" ⟨"LackFerry", "judgeLog", "()I"⟩ ⟨"LackFerry", "judgeLog", "()I"⟩ ∈ ab_G := ab_gp (q := (⟨"LackFerry", "judgeLog", "()I"⟩, 19)) 36 rfl
set_option maxRecDepth 100000 in
theorem kp_37 : Cond.selects "LackFerry" ⟨"LackFerry", "liveLine", "(III)I"⟩ ⟨"LackFerry", "liveLine", "(III)I"⟩ ∈ ab_G := ab_gp (q := (⟨"LackFerry", "liveLine", "(III)I"⟩, 19)) 37 rfl
set_option maxRecDepth 100000 in
theorem kp_38 : Cond.selects "LackFerry$Sentence" ⟨"LackFerry$Sentence", "readCond", "(LLackFerry$Tokens;I)Z"⟩ ⟨"LackFerry$Sentence", "readCond", "(LLackFerry$Tokens;I)Z"⟩ ∈ ab_G := ab_gp (q := (⟨"LackFerry$Sentence", "readCond", "(LLackFerry$Tokens;I)Z"⟩, 6)) 38 rfl
set_option maxRecDepth 100000 in
theorem kp_39 : Cond.selects "LackFerry$Sentence" ⟨"LackFerry$Sentence", "readAll", "(LLackFerry$Tokens;I)Z"⟩ ⟨"LackFerry$Sentence", "readAll", "(LLackFerry$Tokens;I)Z"⟩ ∈ ab_G := ab_gp (q := (⟨"LackFerry$Sentence", "readAll", "(LLackFerry$Tokens;I)Z"⟩, 6)) 39 rfl
set_option maxRecDepth 100000 in
theorem kp_40 : Cond.selects "LackFerry$Sentence" ⟨"LackFerry$Sentence", "readOne", "(LLackFerry$Tokens;I)Z"⟩ ⟨"LackFerry$Sentence", "readOne", "(LLackFerry$Tokens;I)Z"⟩ ∈ ab_G := ab_gp (q := (⟨"LackFerry$Sentence", "readOne", "(LLackFerry$Tokens;I)Z"⟩, 6)) 40 rfl
set_option maxRecDepth 100000 in
theorem kp_41 : Cond.selects "LackFerry$Sentence" ⟨"LackFerry$Sentence", "readBracket", "(LLackFerry$Tokens;I)Z"⟩ ⟨"LackFerry$Sentence", "readBracket", "(LLackFerry$Tokens;I)Z"⟩ ∈ ab_G := ab_gp (q := (⟨"LackFerry$Sentence", "readBracket", "(LLackFerry$Tokens;I)Z"⟩, 6)) 41 rfl
set_option maxRecDepth 100000 in
theorem kp_42 : Cond.selects "LackFerry$Sentence" ⟨"LackFerry$Sentence", "addOp", "(III)Z"⟩ ⟨"LackFerry$Sentence", "addOp", "(III)Z"⟩ ∈ ab_G := ab_gp (q := (⟨"LackFerry$Sentence", "addOp", "(III)Z"⟩, 6)) 42 rfl
set_option maxRecDepth 100000 in
theorem kp_43 : Cond.selects "LackFerry$Sentence" ⟨"LackFerry$Sentence", "readOnShore", "(LLackFerry$Tokens;I)Z"⟩ ⟨"LackFerry$Sentence", "readOnShore", "(LLackFerry$Tokens;I)Z"⟩ ∈ ab_G := ab_gp (q := (⟨"LackFerry$Sentence", "readOnShore", "(LLackFerry$Tokens;I)Z"⟩, 6)) 43 rfl
set_option maxRecDepth 100000 in
theorem kp_44 : Cond.selects "LackFerry$Sentence" ⟨"LackFerry$Sentence", "readCompared", "(LLackFerry$Tokens;I)Z"⟩ ⟨"LackFerry$Sentence", "readCompared", "(LLackFerry$Tokens;I)Z"⟩ ∈ ab_G := ab_gp (q := (⟨"LackFerry$Sentence", "readCompared", "(LLackFerry$Tokens;I)Z"⟩, 6)) 44 rfl
set_option maxRecDepth 100000 in
theorem kp_45 : Cond.selects "LackFerry$Sentence" ⟨"LackFerry$Sentence", "isSo", "(IILLackFerry$Strait;LLackFerry$Shores;)Z"⟩ ⟨"LackFerry$Sentence", "isSo", "(IILLackFerry$Strait;LLackFerry$Shores;)Z"⟩ ∈ ab_G := ab_gp (q := (⟨"LackFerry$Sentence", "isSo", "(IILLackFerry$Strait;LLackFerry$Shores;)Z"⟩, 6)) 45 rfl
set_option maxRecDepth 100000 in
theorem kp_46 : Cond.selects "java/lang/Throwable" ⟨"java/lang/Throwable", "fillInStackTrace", "(I)Ljava/lang/Throwable;"⟩ ⟨"java/lang/Throwable", "fillInStackTrace", "(I)Ljava/lang/Throwable;"⟩ ∈ ab_G := ab_gp (q := (⟨"java/lang/Throwable", "fillInStackTrace", "(I)Ljava/lang/Throwable;"⟩, 6)) 46 rfl
set_option maxRecDepth 100000 in
theorem kp_47 : Cond.selects "LackFerryModel" ⟨"LackFerryModel", "four", "(I)V"⟩ ⟨"LackFerryModel", "four", "(I)V"⟩ ∈ ab_G := ab_gp (q := (⟨"LackFerryModel", "four", "(I)V"⟩, 43)) 47 rfl
set_option maxRecDepth 100000 in
theorem kp_48 : Cond.selects "LackFerryModel" ⟨"LackFerryModel", "taken", "(I)V"⟩ ⟨"LackFerryModel", "taken", "(I)V"⟩ ∈ ab_G := ab_gp (q := (⟨"LackFerryModel", "taken", "(I)V"⟩, 43)) 48 rfl
set_option maxRecDepth 100000 in
theorem kp_49 : Cond.selects "LackFerryModel" ⟨"LackFerryModel", "next", "()V"⟩ ⟨"LackFerryModel", "next", "()V"⟩ ∈ ab_G := ab_gp (q := (⟨"LackFerryModel", "next", "()V"⟩, 43)) 49 rfl
set_option maxRecDepth 100000 in
theorem kp_50 : Cond.selects "LackFerryModel" ⟨"LackFerryModel", "peek", "()I"⟩ ⟨"LackFerryModel", "peek", "()I"⟩ ∈ ab_G := ab_gp (q := (⟨"LackFerryModel", "peek", "()I"⟩, 43)) 50 rfl
set_option maxRecDepth 100000 in
theorem kp_51 : Cond.selects "LackFerryModel" ⟨"LackFerryModel", "line", "()Z"⟩ ⟨"LackFerryModel", "line", "()Z"⟩ ∈ ab_G := ab_gp (q := (⟨"LackFerryModel", "line", "()Z"⟩, 43)) 51 rfl
set_option maxRecDepth 100000 in
theorem kp_52 : Cond.selects "LackFerryModel" ⟨"LackFerryModel", "isWord", "(J)Z"⟩ ⟨"LackFerryModel", "isWord", "(J)Z"⟩ ∈ ab_G := ab_gp (q := (⟨"LackFerryModel", "isWord", "(J)Z"⟩, 43)) 52 rfl
set_option maxRecDepth 100000 in
theorem kp_53 : Cond.selects "LackFerryModel" ⟨"LackFerryModel", "bad", "(I)Z"⟩ ⟨"LackFerryModel", "bad", "(I)Z"⟩ ∈ ab_G := ab_gp (q := (⟨"LackFerryModel", "bad", "(I)Z"⟩, 43)) 53 rfl
set_option maxRecDepth 100000 in
theorem kp_54 : Cond.selects "LackFerryModel" ⟨"LackFerryModel", "puts", "(III)Z"⟩ ⟨"LackFerryModel", "puts", "(III)Z"⟩ ∈ ab_G := ab_gp (q := (⟨"LackFerryModel", "puts", "(III)Z"⟩, 43)) 54 rfl
set_option maxRecDepth 100000 in
theorem kp_55 : Cond.selects "LackFerryModel" ⟨"LackFerryModel", "takes", "(II)Z"⟩ ⟨"LackFerryModel", "takes", "(II)Z"⟩ ∈ ab_G := ab_gp (q := (⟨"LackFerryModel", "takes", "(II)Z"⟩, 43)) 55 rfl
set_option maxRecDepth 100000 in
theorem kp_56 : Cond.selects "LackFerryModel" ⟨"LackFerryModel", "fresh", "(I)Z"⟩ ⟨"LackFerryModel", "fresh", "(I)Z"⟩ ∈ ab_G := ab_gp (q := (⟨"LackFerryModel", "fresh", "(I)Z"⟩, 43)) 56 rfl
set_option maxRecDepth 100000 in
theorem kp_57 : Cond.selects "LackFerryModel" ⟨"LackFerryModel", "isName", "()Z"⟩ ⟨"LackFerryModel", "isName", "()Z"⟩ ∈ ab_G := ab_gp (q := (⟨"LackFerryModel", "isName", "()Z"⟩, 43)) 57 rfl
set_option maxRecDepth 100000 in
theorem kp_58 : Cond.selects "LackFerryModel" ⟨"LackFerryModel", "find", "(II)I"⟩ ⟨"LackFerryModel", "find", "(II)I"⟩ ∈ ab_G := ab_gp (q := (⟨"LackFerryModel", "find", "(II)I"⟩, 43)) 58 rfl
set_option maxRecDepth 100000 in
theorem kp_59 : Cond.selects "LackFerryModel" ⟨"LackFerryModel", "readMisses", "()Z"⟩ ⟨"LackFerryModel", "readMisses", "()Z"⟩ ∈ ab_G := ab_gp (q := (⟨"LackFerryModel", "readMisses", "()Z"⟩, 43)) 59 rfl
set_option maxRecDepth 100000 in
theorem kp_60 : Cond.selects "LackFerryModel" ⟨"LackFerryModel", "takesName", "(II)Z"⟩ ⟨"LackFerryModel", "takesName", "(II)Z"⟩ ∈ ab_G := ab_gp (q := (⟨"LackFerryModel", "takesName", "(II)Z"⟩, 43)) 60 rfl
set_option maxRecDepth 100000 in
theorem kp_61 : Cond.selects "LackFerryModel" ⟨"LackFerryModel", "looksAt", "(II)Z"⟩ ⟨"LackFerryModel", "looksAt", "(II)Z"⟩ ∈ ab_G := ab_gp (q := (⟨"LackFerryModel", "looksAt", "(II)Z"⟩, 43)) 61 rfl
set_option maxRecDepth 100000 in
theorem kp_62 : Cond.selects "LackFerryModel" ⟨"LackFerryModel", "sign", "(I)Z"⟩ ⟨"LackFerryModel", "sign", "(I)Z"⟩ ∈ ab_G := ab_gp (q := (⟨"LackFerryModel", "sign", "(I)Z"⟩, 43)) 62 rfl
set_option maxRecDepth 100000 in
theorem kp_63 : Cond.selects "LackFerryModel" ⟨"LackFerryModel", "isSign", "(I)Z"⟩ ⟨"LackFerryModel", "isSign", "(I)Z"⟩ ∈ ab_G := ab_gp (q := (⟨"LackFerryModel", "isSign", "(I)Z"⟩, 43)) 63 rfl
set_option maxRecDepth 100000 in
theorem kp_64 : Cond.selects "LackFerryModel" ⟨"LackFerryModel", "isPlace", "(II)Z"⟩ ⟨"LackFerryModel", "isPlace", "(II)Z"⟩ ∈ ab_G := ab_gp (q := (⟨"LackFerryModel", "isPlace", "(II)Z"⟩, 43)) 64 rfl
set_option maxRecDepth 100000 in
theorem kp_65 : Cond.selects "LackFerryModel" ⟨"LackFerryModel", "isGood", "(I)Z"⟩ ⟨"LackFerryModel", "isGood", "(I)Z"⟩ ∈ ab_G := ab_gp (q := (⟨"LackFerryModel", "isGood", "(I)Z"⟩, 43)) 65 rfl
set_option maxRecDepth 100000 in
theorem kp_66 : Cond.selects "LackFerryModel" ⟨"LackFerryModel", "isShore", "(I)Z"⟩ ⟨"LackFerryModel", "isShore", "(I)Z"⟩ ∈ ab_G := ab_gp (q := (⟨"LackFerryModel", "isShore", "(I)Z"⟩, 43)) 66 rfl
set_option maxRecDepth 100000 in
theorem kp_67 : Cond.selects "LackFerryModel" ⟨"LackFerryModel", "lackOf", "(II)I"⟩ ⟨"LackFerryModel", "lackOf", "(II)I"⟩ ∈ ab_G := ab_gp (q := (⟨"LackFerryModel", "lackOf", "(II)I"⟩, 43)) 67 rfl
set_option maxRecDepth 100000 in
theorem kp_68 : Cond.selects "LackFerryModel" ⟨"LackFerryModel", "isFalse", "(II)Z"⟩ ⟨"LackFerryModel", "isFalse", "(II)Z"⟩ ∈ ab_G := ab_gp (q := (⟨"LackFerryModel", "isFalse", "(II)Z"⟩, 43)) 68 rfl
set_option maxRecDepth 100000 in
theorem kp_69 : Cond.selects "LackFerryModel" ⟨"LackFerryModel", "isMan", "(I)Z"⟩ ⟨"LackFerryModel", "isMan", "(I)Z"⟩ ∈ ab_G := ab_gp (q := (⟨"LackFerryModel", "isMan", "(I)Z"⟩, 43)) 69 rfl
set_option maxRecDepth 100000 in
theorem kp_70 : Cond.selects "LackFerryModel" ⟨"LackFerryModel", "throwsIf", "(Z)Z"⟩ ⟨"LackFerryModel", "throwsIf", "(Z)Z"⟩ ∈ ab_G := ab_gp (q := (⟨"LackFerryModel", "throwsIf", "(Z)Z"⟩, 43)) 70 rfl
set_option maxRecDepth 100000 in
theorem kp_71 : Cond.selects "LackFerryModel" ⟨"LackFerryModel", "isDead", "(I)Z"⟩ ⟨"LackFerryModel", "isDead", "(I)Z"⟩ ∈ ab_G := ab_gp (q := (⟨"LackFerryModel", "isDead", "(I)Z"⟩, 43)) 71 rfl
set_option maxRecDepth 100000 in
theorem kp_72 : Cond.selects "LackFerryModel" ⟨"LackFerryModel", "missedBy", "(I)I"⟩ ⟨"LackFerryModel", "missedBy", "(I)I"⟩ ∈ ab_G := ab_gp (q := (⟨"LackFerryModel", "missedBy", "(I)I"⟩, 43)) 72 rfl
set_option maxRecDepth 100000 in
theorem kp_73 : Cond.selects "LackFerryModel" ⟨"LackFerryModel", "doesMiss", "(II)Z"⟩ ⟨"LackFerryModel", "doesMiss", "(II)Z"⟩ ∈ ab_G := ab_gp (q := (⟨"LackFerryModel", "doesMiss", "(II)Z"⟩, 43)) 73 rfl
set_option maxRecDepth 100000 in
theorem kp_74 : Cond.selects "LackFerryModel" ⟨"LackFerryModel", "areUnlike", "(II)Z"⟩ ⟨"LackFerryModel", "areUnlike", "(II)Z"⟩ ∈ ab_G := ab_gp (q := (⟨"LackFerryModel", "areUnlike", "(II)Z"⟩, 43)) 74 rfl
set_option maxRecDepth 100000 in
theorem kp_75 : Cond.selects "LackFerryModel" ⟨"LackFerryModel", "missesOf", "(I)I"⟩ ⟨"LackFerryModel", "missesOf", "(I)I"⟩ ∈ ab_G := ab_gp (q := (⟨"LackFerryModel", "missesOf", "(I)I"⟩, 43)) 75 rfl
set_option maxRecDepth 100000 in
theorem kp_76 : Cond.selects "LackFerryModel" ⟨"LackFerryModel", "menOn", "(I)I"⟩ ⟨"LackFerryModel", "menOn", "(I)I"⟩ ∈ ab_G := ab_gp (q := (⟨"LackFerryModel", "menOn", "(I)I"⟩, 43)) 76 rfl
set_option maxRecDepth 100000 in
theorem kp_77 : Cond.selects "LackFerryModel" ⟨"LackFerryModel", "whyHoard", "(II)I"⟩ ⟨"LackFerryModel", "whyHoard", "(II)I"⟩ ∈ ab_G := ab_gp (q := (⟨"LackFerryModel", "whyHoard", "(II)I"⟩, 43)) 77 rfl
set_option maxRecDepth 100000 in
theorem kp_78 : Cond.selects "LackFerryModel" ⟨"LackFerryModel", "keep", "()V"⟩ ⟨"LackFerryModel", "keep", "()V"⟩ ∈ ab_G := ab_gp (q := (⟨"LackFerryModel", "keep", "()V"⟩, 43)) 78 rfl
set_option maxRecDepth 100000 in
theorem kp_79 : Cond.selects "LackFerryModel" ⟨"LackFerryModel", "hoards", "(II)V"⟩ ⟨"LackFerryModel", "hoards", "(II)V"⟩ ∈ ab_G := ab_gp (q := (⟨"LackFerryModel", "hoards", "(II)V"⟩, 43)) 79 rfl
set_option maxRecDepth 100000 in
theorem kp_80 : Cond.selects "LackFerryModel" ⟨"LackFerryModel", "whyBare", "(II)I"⟩ ⟨"LackFerryModel", "whyBare", "(II)I"⟩ ∈ ab_G := ab_gp (q := (⟨"LackFerryModel", "whyBare", "(II)I"⟩, 43)) 80 rfl
set_option maxRecDepth 100000 in
theorem kp_81 : Cond.selects "LackFerryModel" ⟨"LackFerryModel", "goesOn", "(I)I"⟩ ⟨"LackFerryModel", "goesOn", "(I)I"⟩ ∈ ab_G := ab_gp (q := (⟨"LackFerryModel", "goesOn", "(I)I"⟩, 43)) 81 rfl
set_option maxRecDepth 100000 in
theorem kp_82 : Cond.selects "LackFerryModel" ⟨"LackFerryModel", "day", "()V"⟩ ⟨"LackFerryModel", "day", "()V"⟩ ∈ ab_G := ab_gp (q := (⟨"LackFerryModel", "day", "()V"⟩, 43)) 82 rfl
set_option maxRecDepth 100000 in
theorem kp_83 : Cond.selects "LackFerryModel" ⟨"LackFerryModel", "goingSet", "()I"⟩ ⟨"LackFerryModel", "goingSet", "()I"⟩ ∈ ab_G := ab_gp (q := (⟨"LackFerryModel", "goingSet", "()I"⟩, 43)) 83 rfl
set_option maxRecDepth 100000 in
theorem kp_84 : Cond.selects "LackFerryModel" ⟨"LackFerryModel", "goesOf", "(I)I"⟩ ⟨"LackFerryModel", "goesOf", "(I)I"⟩ ∈ ab_G := ab_gp (q := (⟨"LackFerryModel", "goesOf", "(I)I"⟩, 43)) 84 rfl
set_option maxRecDepth 100000 in
theorem kp_85 : Cond.selects "LackFerryModel" ⟨"LackFerryModel", "eats", "(I)V"⟩ ⟨"LackFerryModel", "eats", "(I)V"⟩ ∈ ab_G := ab_gp (q := (⟨"LackFerryModel", "eats", "(I)V"⟩, 43)) 85 rfl
set_option maxRecDepth 100000 in
theorem kp_86 : Cond.selects "LackFerryModel" ⟨"LackFerryModel", "tries", "()V"⟩ ⟨"LackFerryModel", "tries", "()V"⟩ ∈ ab_G := ab_gp (q := (⟨"LackFerryModel", "tries", "()V"⟩, 43)) 86 rfl
set_option maxRecDepth 100000 in
theorem kp_87 : Cond.selects "LackFerryModel" ⟨"LackFerryModel", "back", "()V"⟩ ⟨"LackFerryModel", "back", "()V"⟩ ∈ ab_G := ab_gp (q := (⟨"LackFerryModel", "back", "()V"⟩, 43)) 87 rfl
set_option maxRecDepth 100000 in
theorem kp_88 : Cond.selects "LackFerryModel" ⟨"LackFerryModel", "octet", "(I)I"⟩ ⟨"LackFerryModel", "octet", "(I)I"⟩ ∈ ab_G := ab_gp (q := (⟨"LackFerryModel", "octet", "(I)I"⟩, 43)) 88 rfl
set_option maxRecDepth 100000 in
theorem kp_89 : Cond.selects "LackFerryModel" ⟨"LackFerryModel", "lays", "(I)V"⟩ ⟨"LackFerryModel", "lays", "(I)V"⟩ ∈ ab_G := ab_gp (q := (⟨"LackFerryModel", "lays", "(I)V"⟩, 43)) 89 rfl
set_option maxRecDepth 100000 in
theorem kp_90 : Cond.selects "LackFerryModel" ⟨"LackFerryModel", "areAlike", "(II)Z"⟩ ⟨"LackFerryModel", "areAlike", "(II)Z"⟩ ∈ ab_G := ab_gp (q := (⟨"LackFerryModel", "areAlike", "(II)Z"⟩, 43)) 90 rfl
set_option maxRecDepth 100000 in
theorem kp_91 : Cond.selects "LackFerryModel" ⟨"LackFerryModel", "draws", "(II)I"⟩ ⟨"LackFerryModel", "draws", "(II)I"⟩ ∈ ab_G := ab_gp (q := (⟨"LackFerryModel", "draws", "(II)I"⟩, 43)) 91 rfl
set_option maxRecDepth 100000 in
theorem kp_92 : Cond.selects "LackFerryModel" ⟨"LackFerryModel", "drawsDay", "()V"⟩ ⟨"LackFerryModel", "drawsDay", "()V"⟩ ∈ ab_G := ab_gp (q := (⟨"LackFerryModel", "drawsDay", "()V"⟩, 43)) 92 rfl
set_option maxRecDepth 100000 in
theorem kp_93 : Cond.selects "LackFerryModel" ⟨"LackFerryModel", "draw", "(I)I"⟩ ⟨"LackFerryModel", "draw", "(I)I"⟩ ∈ ab_G := ab_gp (q := (⟨"LackFerryModel", "draw", "(I)I"⟩, 43)) 93 rfl
set_option maxRecDepth 100000 in
theorem kp_94 : Cond.selects "LackFerryModel" ⟨"LackFerryModel", "logLine", "()Z"⟩ ⟨"LackFerryModel", "logLine", "()Z"⟩ ∈ ab_G := ab_gp (q := (⟨"LackFerryModel", "logLine", "()Z"⟩, 43)) 94 rfl
set_option maxRecDepth 100000 in
theorem kp_95 : Cond.selects "LackFerryModel" ⟨"LackFerryModel", "does", "(IIII)I"⟩ ⟨"LackFerryModel", "does", "(IIII)I"⟩ ∈ ab_G := ab_gp (q := (⟨"LackFerryModel", "does", "(IIII)I"⟩, 43)) 95 rfl
set_option maxRecDepth 100000 in
theorem kp_96 : Cond.selects "LackFerryModel" ⟨"LackFerryModel", "nots", "()V"⟩ ⟨"LackFerryModel", "nots", "()V"⟩ ∈ ab_G := ab_gp (q := (⟨"LackFerryModel", "nots", "()V"⟩, 43)) 96 rfl
set_option maxRecDepth 100000 in
theorem kp_97 : Cond.selects "LackFerryModel" ⟨"LackFerryModel", "code", "(III)V"⟩ ⟨"LackFerryModel", "code", "(III)V"⟩ ∈ ab_G := ab_gp (q := (⟨"LackFerryModel", "code", "(III)V"⟩, 43)) 97 rfl
set_option maxRecDepth 100000 in
theorem kp_98 : Cond.selects "LackFerryModel" ⟨"LackFerryModel", "joins", "(I)V"⟩ ⟨"LackFerryModel", "joins", "(I)V"⟩ ∈ ab_G := ab_gp (q := (⟨"LackFerryModel", "joins", "(I)V"⟩, 43)) 98 rfl
set_option maxRecDepth 100000 in
theorem kp_99 : Cond.selects "LackFerryModel" ⟨"LackFerryModel", "behind", "()Z"⟩ ⟨"LackFerryModel", "behind", "()Z"⟩ ∈ ab_G := ab_gp (q := (⟨"LackFerryModel", "behind", "()Z"⟩, 43)) 99 rfl
set_option maxRecDepth 100000 in
theorem kp_100 : Cond.selects "LackFerryModel" ⟨"LackFerryModel", "operand", "()Z"⟩ ⟨"LackFerryModel", "operand", "()Z"⟩ ∈ ab_G := ab_gp (q := (⟨"LackFerryModel", "operand", "()Z"⟩, 43)) 100 rfl
set_option maxRecDepth 100000 in
theorem kp_101 : Cond.selects "LackFerryModel" ⟨"LackFerryModel", "leafOf", "()I"⟩ ⟨"LackFerryModel", "leafOf", "()I"⟩ ∈ ab_G := ab_gp (q := (⟨"LackFerryModel", "leafOf", "()I"⟩, 43)) 101 rfl
set_option maxRecDepth 100000 in
theorem kp_102 : Cond.selects "LackFerryModel" ⟨"LackFerryModel", "isSaid", "(I)Z"⟩ ⟨"LackFerryModel", "isSaid", "(I)Z"⟩ ∈ ab_G := ab_gp (q := (⟨"LackFerryModel", "isSaid", "(I)Z"⟩, 43)) 102 rfl
set_option maxRecDepth 100000 in
theorem kp_103 : Cond.selects "LackFerryModel" ⟨"LackFerryModel", "isLeaf", "(IIII)Z"⟩ ⟨"LackFerryModel", "isLeaf", "(IIII)Z"⟩ ∈ ab_G := ab_gp (q := (⟨"LackFerryModel", "isLeaf", "(IIII)Z"⟩, 43)) 103 rfl
set_option maxRecDepth 100000 in
theorem wi_X0 : ∀ w ∈ u_ws RX0 TX0 1, w ∈ ab_G := by
  show ∀ w ∈ [u_lay RX0 TX0 0], w ∈ ab_G
  refine List.forall_mem_cons.mpr ⟨kw_223, ?_⟩
  exact fun _ h => absurd h List.not_mem_nil
theorem df_X0 (b : ab_B) : ∀ i, i < 1 → defaultValue (tyX0 i) = vp_V (([.int 0] : List Value).map (ab_v b)) i := fun i hi => by
  have h : ∀ i, i < 1 → defaultValue (tyX0 i) = vp_V ([.int 0] : List Value) i := by decide +kernel
  exact h i hi
set_option maxRecDepth 100000 in
theorem wi_X1 : ∀ w ∈ u_ws RX1 TX1 4, w ∈ ab_G := by
  show ∀ w ∈ [u_lay RX1 TX1 0, u_lay RX1 TX1 1, u_lay RX1 TX1 2, u_lay RX1 TX1 3], w ∈ ab_G
  refine List.forall_mem_cons.mpr ⟨kw_112, ?_⟩
  refine List.forall_mem_cons.mpr ⟨kw_114, ?_⟩
  refine List.forall_mem_cons.mpr ⟨kw_116, ?_⟩
  refine List.forall_mem_cons.mpr ⟨kw_118, ?_⟩
  exact fun _ h => absurd h List.not_mem_nil
theorem df_X1 (b : ab_B) : ∀ i, i < 4 → defaultValue (tyX1 i) = vp_V (([.null, .null, .int 0, .int 0] : List Value).map (ab_v b)) i := fun i hi => by
  have h : ∀ i, i < 4 → defaultValue (tyX1 i) = vp_V ([.null, .null, .int 0, .int 0] : List Value) i := by decide +kernel
  exact h i hi
set_option maxRecDepth 100000 in
theorem wi_X2 : ∀ w ∈ u_ws RX2 TX2 2, w ∈ ab_G := by
  show ∀ w ∈ [u_lay RX2 TX2 0, u_lay RX2 TX2 1], w ∈ ab_G
  refine List.forall_mem_cons.mpr ⟨kw_131, ?_⟩
  refine List.forall_mem_cons.mpr ⟨kw_133, ?_⟩
  exact fun _ h => absurd h List.not_mem_nil
theorem df_X2 (b : ab_B) : ∀ i, i < 2 → defaultValue (tyX2 i) = vp_V (([.null, .int 0] : List Value).map (ab_v b)) i := fun i hi => by
  have h : ∀ i, i < 2 → defaultValue (tyX2 i) = vp_V ([.null, .int 0] : List Value) i := by decide +kernel
  exact h i hi
set_option maxRecDepth 100000 in
theorem wi_X3 : ∀ w ∈ u_ws RX3 TX3 3, w ∈ ab_G := by
  show ∀ w ∈ [u_lay RX3 TX3 0, u_lay RX3 TX3 1, u_lay RX3 TX3 2], w ∈ ab_G
  refine List.forall_mem_cons.mpr ⟨kw_1038, ?_⟩
  refine List.forall_mem_cons.mpr ⟨kw_1040, ?_⟩
  refine List.forall_mem_cons.mpr ⟨kw_1042, ?_⟩
  exact fun _ h => absurd h List.not_mem_nil
theorem df_X3 (b : ab_B) : ∀ i, i < 3 → defaultValue (tyX3 i) = vp_V (([.null, .null, .null] : List Value).map (ab_v b)) i := fun i hi => by
  have h : ∀ i, i < 3 → defaultValue (tyX3 i) = vp_V ([.null, .null, .null] : List Value) i := by decide +kernel
  exact h i hi
set_option maxRecDepth 100000 in
theorem wi_X4 : ∀ w ∈ u_ws RX4 TX4 4, w ∈ ab_G := by
  show ∀ w ∈ [u_lay RX4 TX4 0, u_lay RX4 TX4 1, u_lay RX4 TX4 2, u_lay RX4 TX4 3], w ∈ ab_G
  refine List.forall_mem_cons.mpr ⟨kw_206, ?_⟩
  refine List.forall_mem_cons.mpr ⟨kw_208, ?_⟩
  refine List.forall_mem_cons.mpr ⟨kw_210, ?_⟩
  refine List.forall_mem_cons.mpr ⟨kw_212, ?_⟩
  exact fun _ h => absurd h List.not_mem_nil
theorem df_X4 (b : ab_B) : ∀ i, i < 4 → defaultValue (tyX4 i) = vp_V (([.null, .null, .null, .int 0] : List Value).map (ab_v b)) i := fun i hi => by
  have h : ∀ i, i < 4 → defaultValue (tyX4 i) = vp_V ([.null, .null, .null, .int 0] : List Value) i := by decide +kernel
  exact h i hi
set_option maxRecDepth 100000 in
theorem wi_X5 : ∀ w ∈ u_ws RX5 TX5 6, w ∈ ab_G := by
  show ∀ w ∈ [u_lay RX5 TX5 0, u_lay RX5 TX5 1, u_lay RX5 TX5 2, u_lay RX5 TX5 3, u_lay RX5 TX5 4, u_lay RX5 TX5 5], w ∈ ab_G
  refine List.forall_mem_cons.mpr ⟨kw_302, ?_⟩
  refine List.forall_mem_cons.mpr ⟨kw_304, ?_⟩
  refine List.forall_mem_cons.mpr ⟨kw_306, ?_⟩
  refine List.forall_mem_cons.mpr ⟨kw_308, ?_⟩
  refine List.forall_mem_cons.mpr ⟨kw_310, ?_⟩
  refine List.forall_mem_cons.mpr ⟨kw_312, ?_⟩
  exact fun _ h => absurd h List.not_mem_nil
theorem df_X5 (b : ab_B) : ∀ i, i < 6 → defaultValue (tyX5 i) = vp_V (([.null, .null, .null, .int 0, .int 0, .int 0] : List Value).map (ab_v b)) i := fun i hi => by
  have h : ∀ i, i < 6 → defaultValue (tyX5 i) = vp_V ([.null, .null, .null, .int 0, .int 0, .int 0] : List Value) i := by decide +kernel
  exact h i hi
set_option maxRecDepth 100000 in
theorem wi_X6 : ∀ w ∈ u_ws RX6 TX6 10, w ∈ ab_G := by
  show ∀ w ∈ [u_lay RX6 TX6 0, u_lay RX6 TX6 1, u_lay RX6 TX6 2, u_lay RX6 TX6 3, u_lay RX6 TX6 4, u_lay RX6 TX6 5, u_lay RX6 TX6 6, u_lay RX6 TX6 7, u_lay RX6 TX6 8, u_lay RX6 TX6 9], w ∈ ab_G
  refine List.forall_mem_cons.mpr ⟨kw_171, ?_⟩
  refine List.forall_mem_cons.mpr ⟨kw_173, ?_⟩
  refine List.forall_mem_cons.mpr ⟨kw_175, ?_⟩
  refine List.forall_mem_cons.mpr ⟨kw_177, ?_⟩
  refine List.forall_mem_cons.mpr ⟨kw_179, ?_⟩
  refine List.forall_mem_cons.mpr ⟨kw_181, ?_⟩
  refine List.forall_mem_cons.mpr ⟨kw_183, ?_⟩
  refine List.forall_mem_cons.mpr ⟨kw_185, ?_⟩
  refine List.forall_mem_cons.mpr ⟨kw_187, ?_⟩
  refine List.forall_mem_cons.mpr ⟨kw_189, ?_⟩
  exact fun _ h => absurd h List.not_mem_nil
theorem df_X6 (b : ab_B) : ∀ i, i < 10 → defaultValue (tyX6 i) = vp_V (([.null, .null, .null, .null, .null, .null, .null, .int 0, .int 0, .int 0] : List Value).map (ab_v b)) i := fun i hi => by
  have h : ∀ i, i < 10 → defaultValue (tyX6 i) = vp_V ([.null, .null, .null, .null, .null, .null, .null, .int 0, .int 0, .int 0] : List Value) i := by decide +kernel
  exact h i hi
set_option maxRecDepth 100000 in
theorem wi_X7 : ∀ w ∈ u_ws RX7 TX7 13, w ∈ ab_G := by
  show ∀ w ∈ [u_lay RX7 TX7 0, u_lay RX7 TX7 1, u_lay RX7 TX7 2, u_lay RX7 TX7 3, u_lay RX7 TX7 4, u_lay RX7 TX7 5, u_lay RX7 TX7 6, u_lay RX7 TX7 7, u_lay RX7 TX7 8, u_lay RX7 TX7 9, u_lay RX7 TX7 10, u_lay RX7 TX7 11, u_lay RX7 TX7 12], w ∈ ab_G
  refine List.forall_mem_cons.mpr ⟨kw_261, ?_⟩
  refine List.forall_mem_cons.mpr ⟨kw_263, ?_⟩
  refine List.forall_mem_cons.mpr ⟨kw_265, ?_⟩
  refine List.forall_mem_cons.mpr ⟨kw_267, ?_⟩
  refine List.forall_mem_cons.mpr ⟨kw_269, ?_⟩
  refine List.forall_mem_cons.mpr ⟨kw_271, ?_⟩
  refine List.forall_mem_cons.mpr ⟨kw_273, ?_⟩
  refine List.forall_mem_cons.mpr ⟨kw_275, ?_⟩
  refine List.forall_mem_cons.mpr ⟨kw_277, ?_⟩
  refine List.forall_mem_cons.mpr ⟨kw_279, ?_⟩
  refine List.forall_mem_cons.mpr ⟨kw_281, ?_⟩
  refine List.forall_mem_cons.mpr ⟨kw_283, ?_⟩
  refine List.forall_mem_cons.mpr ⟨kw_285, ?_⟩
  exact fun _ h => absurd h List.not_mem_nil
theorem df_X7 (b : ab_B) : ∀ i, i < 13 → defaultValue (tyX7 i) = vp_V (([.null, .null, .null, .null, .null, .null, .null, .int 0, .int 0, .int 0, .int 0, .int 0, .long 0] : List Value).map (ab_v b)) i := fun i hi => by
  have h : ∀ i, i < 13 → defaultValue (tyX7 i) = vp_V ([.null, .null, .null, .null, .null, .null, .null, .int 0, .int 0, .int 0, .int 0, .int 0, .long 0] : List Value) i := by decide +kernel
  exact h i hi
set_option maxRecDepth 100000 in
theorem wi_X8 : ∀ w ∈ u_ws RX8 TX8 3, w ∈ ab_G := by
  show ∀ w ∈ [u_lay RX8 TX8 0, u_lay RX8 TX8 1, u_lay RX8 TX8 2], w ∈ ab_G
  refine List.forall_mem_cons.mpr ⟨kw_42, ?_⟩
  refine List.forall_mem_cons.mpr ⟨kw_44, ?_⟩
  refine List.forall_mem_cons.mpr ⟨kw_46, ?_⟩
  exact fun _ h => absurd h List.not_mem_nil
theorem df_X8 (b : ab_B) : ∀ i, i < 3 → defaultValue (tyX8 i) = vp_V (([.null, .int 0, .int 0] : List Value).map (ab_v b)) i := fun i hi => by
  have h : ∀ i, i < 3 → defaultValue (tyX8 i) = vp_V ([.null, .int 0, .int 0] : List Value) i := by decide +kernel
  exact h i hi
set_option maxRecDepth 100000 in
theorem wi_X9 : ∀ w ∈ u_ws RX9 TX9 10, w ∈ ab_G := by
  show ∀ w ∈ [u_lay RX9 TX9 0, u_lay RX9 TX9 1, u_lay RX9 TX9 2, u_lay RX9 TX9 3, u_lay RX9 TX9 4, u_lay RX9 TX9 5, u_lay RX9 TX9 6, u_lay RX9 TX9 7, u_lay RX9 TX9 8, u_lay RX9 TX9 9], w ∈ ab_G
  refine List.forall_mem_cons.mpr ⟨kw_76, ?_⟩
  refine List.forall_mem_cons.mpr ⟨kw_78, ?_⟩
  refine List.forall_mem_cons.mpr ⟨kw_80, ?_⟩
  refine List.forall_mem_cons.mpr ⟨kw_82, ?_⟩
  refine List.forall_mem_cons.mpr ⟨kw_84, ?_⟩
  refine List.forall_mem_cons.mpr ⟨kw_86, ?_⟩
  refine List.forall_mem_cons.mpr ⟨kw_88, ?_⟩
  refine List.forall_mem_cons.mpr ⟨kw_90, ?_⟩
  refine List.forall_mem_cons.mpr ⟨kw_92, ?_⟩
  refine List.forall_mem_cons.mpr ⟨kw_94, ?_⟩
  exact fun _ h => absurd h List.not_mem_nil
theorem df_X9 (b : ab_B) : ∀ i, i < 10 → defaultValue (tyX9 i) = vp_V (([.null, .null, .null, .int 0, .int 0, .int 0, .int 0, .int 0, .long 0, .int 0] : List Value).map (ab_v b)) i := fun i hi => by
  have h : ∀ i, i < 10 → defaultValue (tyX9 i) = vp_V ([.null, .null, .null, .int 0, .int 0, .int 0, .int 0, .int 0, .long 0, .int 0] : List Value) i := by decide +kernel
  exact h i hi
set_option maxRecDepth 100000 in
theorem wi_X10 : ∀ w ∈ u_ws RX10 TX10 19, w ∈ ab_G := by
  show ∀ w ∈ [u_lay RX10 TX10 0, u_lay RX10 TX10 1, u_lay RX10 TX10 2, u_lay RX10 TX10 3, u_lay RX10 TX10 4, u_lay RX10 TX10 5, u_lay RX10 TX10 6, u_lay RX10 TX10 7, u_lay RX10 TX10 8, u_lay RX10 TX10 9, u_lay RX10 TX10 10, u_lay RX10 TX10 11, u_lay RX10 TX10 12, u_lay RX10 TX10 13, u_lay RX10 TX10 14, u_lay RX10 TX10 15, u_lay RX10 TX10 16, u_lay RX10 TX10 17, u_lay RX10 TX10 18], w ∈ ab_G
  refine List.forall_mem_cons.mpr ⟨kw_334, ?_⟩
  refine List.forall_mem_cons.mpr ⟨kw_336, ?_⟩
  refine List.forall_mem_cons.mpr ⟨kw_338, ?_⟩
  refine List.forall_mem_cons.mpr ⟨kw_340, ?_⟩
  refine List.forall_mem_cons.mpr ⟨kw_342, ?_⟩
  refine List.forall_mem_cons.mpr ⟨kw_344, ?_⟩
  refine List.forall_mem_cons.mpr ⟨kw_346, ?_⟩
  refine List.forall_mem_cons.mpr ⟨kw_348, ?_⟩
  refine List.forall_mem_cons.mpr ⟨kw_350, ?_⟩
  refine List.forall_mem_cons.mpr ⟨kw_352, ?_⟩
  refine List.forall_mem_cons.mpr ⟨kw_354, ?_⟩
  refine List.forall_mem_cons.mpr ⟨kw_356, ?_⟩
  refine List.forall_mem_cons.mpr ⟨kw_358, ?_⟩
  refine List.forall_mem_cons.mpr ⟨kw_360, ?_⟩
  refine List.forall_mem_cons.mpr ⟨kw_362, ?_⟩
  refine List.forall_mem_cons.mpr ⟨kw_364, ?_⟩
  refine List.forall_mem_cons.mpr ⟨kw_366, ?_⟩
  refine List.forall_mem_cons.mpr ⟨kw_368, ?_⟩
  refine List.forall_mem_cons.mpr ⟨kw_370, ?_⟩
  exact fun _ h => absurd h List.not_mem_nil
theorem df_X10 (b : ab_B) : ∀ i, i < 19 → defaultValue (tyX10 i) = vp_V (([.null, .null, .null, .null, .null, .null, .null, .null, .null, .null, .null, .null, .null, .null, .null, .null, .null, .int 0, .int 0] : List Value).map (ab_v b)) i := fun i hi => by
  have h : ∀ i, i < 19 → defaultValue (tyX10 i) = vp_V ([.null, .null, .null, .null, .null, .null, .null, .null, .null, .null, .null, .null, .null, .null, .null, .null, .null, .int 0, .int 0] : List Value) i := by decide +kernel
  exact h i hi
set_option maxRecDepth 100000 in
theorem wi_X11 : ∀ w ∈ u_ws RX11 TX11 43, w ∈ ab_G := by
  show ∀ w ∈ [u_lay RX11 TX11 0, u_lay RX11 TX11 1, u_lay RX11 TX11 2, u_lay RX11 TX11 3, u_lay RX11 TX11 4, u_lay RX11 TX11 5, u_lay RX11 TX11 6, u_lay RX11 TX11 7, u_lay RX11 TX11 8, u_lay RX11 TX11 9, u_lay RX11 TX11 10, u_lay RX11 TX11 11, u_lay RX11 TX11 12, u_lay RX11 TX11 13, u_lay RX11 TX11 14, u_lay RX11 TX11 15, u_lay RX11 TX11 16, u_lay RX11 TX11 17, u_lay RX11 TX11 18, u_lay RX11 TX11 19, u_lay RX11 TX11 20, u_lay RX11 TX11 21, u_lay RX11 TX11 22, u_lay RX11 TX11 23, u_lay RX11 TX11 24, u_lay RX11 TX11 25, u_lay RX11 TX11 26, u_lay RX11 TX11 27, u_lay RX11 TX11 28, u_lay RX11 TX11 29, u_lay RX11 TX11 30, u_lay RX11 TX11 31, u_lay RX11 TX11 32, u_lay RX11 TX11 33, u_lay RX11 TX11 34, u_lay RX11 TX11 35, u_lay RX11 TX11 36, u_lay RX11 TX11 37, u_lay RX11 TX11 38, u_lay RX11 TX11 39, u_lay RX11 TX11 40, u_lay RX11 TX11 41, u_lay RX11 TX11 42], w ∈ ab_G
  refine List.forall_mem_cons.mpr ⟨kw_1227, ?_⟩
  refine List.forall_mem_cons.mpr ⟨kw_1229, ?_⟩
  refine List.forall_mem_cons.mpr ⟨kw_1231, ?_⟩
  refine List.forall_mem_cons.mpr ⟨kw_1233, ?_⟩
  refine List.forall_mem_cons.mpr ⟨kw_1235, ?_⟩
  refine List.forall_mem_cons.mpr ⟨kw_1237, ?_⟩
  refine List.forall_mem_cons.mpr ⟨kw_1239, ?_⟩
  refine List.forall_mem_cons.mpr ⟨kw_1241, ?_⟩
  refine List.forall_mem_cons.mpr ⟨kw_1243, ?_⟩
  refine List.forall_mem_cons.mpr ⟨kw_1245, ?_⟩
  refine List.forall_mem_cons.mpr ⟨kw_1247, ?_⟩
  refine List.forall_mem_cons.mpr ⟨kw_1249, ?_⟩
  refine List.forall_mem_cons.mpr ⟨kw_1251, ?_⟩
  refine List.forall_mem_cons.mpr ⟨kw_1253, ?_⟩
  refine List.forall_mem_cons.mpr ⟨kw_1255, ?_⟩
  refine List.forall_mem_cons.mpr ⟨kw_1257, ?_⟩
  refine List.forall_mem_cons.mpr ⟨kw_1259, ?_⟩
  refine List.forall_mem_cons.mpr ⟨kw_1261, ?_⟩
  refine List.forall_mem_cons.mpr ⟨kw_1263, ?_⟩
  refine List.forall_mem_cons.mpr ⟨kw_1265, ?_⟩
  refine List.forall_mem_cons.mpr ⟨kw_1267, ?_⟩
  refine List.forall_mem_cons.mpr ⟨kw_1269, ?_⟩
  refine List.forall_mem_cons.mpr ⟨kw_1271, ?_⟩
  refine List.forall_mem_cons.mpr ⟨kw_1273, ?_⟩
  refine List.forall_mem_cons.mpr ⟨kw_1275, ?_⟩
  refine List.forall_mem_cons.mpr ⟨kw_1277, ?_⟩
  refine List.forall_mem_cons.mpr ⟨kw_1279, ?_⟩
  refine List.forall_mem_cons.mpr ⟨kw_1281, ?_⟩
  refine List.forall_mem_cons.mpr ⟨kw_1283, ?_⟩
  refine List.forall_mem_cons.mpr ⟨kw_1285, ?_⟩
  refine List.forall_mem_cons.mpr ⟨kw_1287, ?_⟩
  refine List.forall_mem_cons.mpr ⟨kw_1289, ?_⟩
  refine List.forall_mem_cons.mpr ⟨kw_1291, ?_⟩
  refine List.forall_mem_cons.mpr ⟨kw_1293, ?_⟩
  refine List.forall_mem_cons.mpr ⟨kw_1295, ?_⟩
  refine List.forall_mem_cons.mpr ⟨kw_1297, ?_⟩
  refine List.forall_mem_cons.mpr ⟨kw_1299, ?_⟩
  refine List.forall_mem_cons.mpr ⟨kw_1301, ?_⟩
  refine List.forall_mem_cons.mpr ⟨kw_1303, ?_⟩
  refine List.forall_mem_cons.mpr ⟨kw_1305, ?_⟩
  refine List.forall_mem_cons.mpr ⟨kw_1307, ?_⟩
  refine List.forall_mem_cons.mpr ⟨kw_1309, ?_⟩
  refine List.forall_mem_cons.mpr ⟨kw_1311, ?_⟩
  exact fun _ h => absurd h List.not_mem_nil
theorem df_X11 (b : ab_B) : ∀ i, i < 43 → defaultValue (tyX11 i) = vp_V (([.int 0, .null, .int 0, .int 0, .int 0, .int 0, .null, .null, .null, .null, .null, .int 0, .int 0, .int 0, .int 0, .int 0, .int 0, .long 0, .int 0, .int 0, .int 0, .null, .int 0, .null, .null, .int 0, .null, .null, .int 0, .int 0, .int 0, .null, .int 0, .null, .int 0, .int 0, .int 0, .int 0, .int 0, .null, .null, .null, .null] : List Value).map (ab_v b)) i := fun i hi => by
  have h : ∀ i, i < 43 → defaultValue (tyX11 i) = vp_V ([.int 0, .null, .int 0, .int 0, .int 0, .int 0, .null, .null, .null, .null, .null, .int 0, .int 0, .int 0, .int 0, .int 0, .int 0, .long 0, .int 0, .int 0, .int 0, .null, .int 0, .null, .null, .int 0, .null, .null, .int 0, .int 0, .int 0, .null, .int 0, .null, .int 0, .int 0, .int 0, .int 0, .int 0, .null, .null, .null, .null] : List Value) i := by decide +kernel
  exact h i hi
theorem ds_X0_init : yX0_init.cls ≠ "java/lang/invoke/MethodHandle" ∧ yX0_init.cls ≠ "java/lang/invoke/VarHandle" ∧ (parseMethodDescriptor yX0_init.desc).map (fun d => d.parameters.length) = some 0 := by decide +kernel
theorem ds_X0_drawOf : yX0_drawOf.cls ≠ "java/lang/invoke/MethodHandle" ∧ yX0_drawOf.cls ≠ "java/lang/invoke/VarHandle" ∧ (parseMethodDescriptor yX0_drawOf.desc).map (fun d => d.parameters.length) = some 1 := by decide +kernel
theorem ds_X1_init : yX1_init.cls ≠ "java/lang/invoke/MethodHandle" ∧ yX1_init.cls ≠ "java/lang/invoke/VarHandle" ∧ (parseMethodDescriptor yX1_init.desc).map (fun d => d.parameters.length) = some 0 := by decide +kernel
theorem ds_X1_amountMoved : yX1_amountMoved.cls ≠ "java/lang/invoke/MethodHandle" ∧ yX1_amountMoved.cls ≠ "java/lang/invoke/VarHandle" ∧ (parseMethodDescriptor yX1_amountMoved.desc).map (fun d => d.parameters.length) = some 3 := by decide +kernel
theorem ds_X6_ferryShore : yX6_ferryShore.cls ≠ "java/lang/invoke/MethodHandle" ∧ yX6_ferryShore.cls ≠ "java/lang/invoke/VarHandle" ∧ (parseMethodDescriptor yX6_ferryShore.desc).map (fun d => d.parameters.length) = some 0 := by decide +kernel
theorem ds_X6_apartOf : yX6_apartOf.cls ≠ "java/lang/invoke/MethodHandle" ∧ yX6_apartOf.cls ≠ "java/lang/invoke/VarHandle" ∧ (parseMethodDescriptor yX6_apartOf.desc).map (fun d => d.parameters.length) = some 2 := by decide +kernel
theorem ds_X6_isFelt : yX6_isFelt.cls ≠ "java/lang/invoke/MethodHandle" ∧ yX6_isFelt.cls ≠ "java/lang/invoke/VarHandle" ∧ (parseMethodDescriptor yX6_isFelt.desc).map (fun d => d.parameters.length) = some 2 := by decide +kernel
theorem ds_X6_allMissed : yX6_allMissed.cls ≠ "java/lang/invoke/MethodHandle" ∧ yX6_allMissed.cls ≠ "java/lang/invoke/VarHandle" ∧ (parseMethodDescriptor yX6_allMissed.desc).map (fun d => d.parameters.length) = some 1 := by decide +kernel
theorem ds_X10_slotOf : yX10_slotOf.cls ≠ "java/lang/invoke/MethodHandle" ∧ yX10_slotOf.cls ≠ "java/lang/invoke/VarHandle" ∧ (parseMethodDescriptor yX10_slotOf.desc).map (fun d => d.parameters.length) = some 2 := by decide +kernel
theorem ds_X7_amountOf : yX7_amountOf.cls ≠ "java/lang/invoke/MethodHandle" ∧ yX7_amountOf.cls ≠ "java/lang/invoke/VarHandle" ∧ (parseMethodDescriptor yX7_amountOf.desc).map (fun d => d.parameters.length) = some 2 := by decide +kernel
theorem ds_X6_lackAt : yX6_lackAt.cls ≠ "java/lang/invoke/MethodHandle" ∧ yX6_lackAt.cls ≠ "java/lang/invoke/VarHandle" ∧ (parseMethodDescriptor yX6_lackAt.desc).map (fun d => d.parameters.length) = some 2 := by decide +kernel
theorem ds_X1_plan : yX1_plan.cls ≠ "java/lang/invoke/MethodHandle" ∧ yX1_plan.cls ≠ "java/lang/invoke/VarHandle" ∧ (parseMethodDescriptor yX1_plan.desc).map (fun d => d.parameters.length) = some 2 := by decide +kernel
theorem ds_X1_carry : yX1_carry.cls ≠ "java/lang/invoke/MethodHandle" ∧ yX1_carry.cls ≠ "java/lang/invoke/VarHandle" ∧ (parseMethodDescriptor yX1_carry.desc).map (fun d => d.parameters.length) = some 2 := by decide +kernel
theorem ds_X7_leftAfter : yX7_leftAfter.cls ≠ "java/lang/invoke/MethodHandle" ∧ yX7_leftAfter.cls ≠ "java/lang/invoke/VarHandle" ∧ (parseMethodDescriptor yX7_leftAfter.desc).map (fun d => d.parameters.length) = some 2 := by decide +kernel
theorem ds_X6_makeAndEat : yX6_makeAndEat.cls ≠ "java/lang/invoke/MethodHandle" ∧ yX6_makeAndEat.cls ≠ "java/lang/invoke/VarHandle" ∧ (parseMethodDescriptor yX6_makeAndEat.desc).map (fun d => d.parameters.length) = some 1 := by decide +kernel
theorem ds_X6_countApart : yX6_countApart.cls ≠ "java/lang/invoke/MethodHandle" ∧ yX6_countApart.cls ≠ "java/lang/invoke/VarHandle" ∧ (parseMethodDescriptor yX6_countApart.desc).map (fun d => d.parameters.length) = some 1 := by decide +kernel
theorem ds_X1_passDays : yX1_passDays.cls ≠ "java/lang/invoke/MethodHandle" ∧ yX1_passDays.cls ≠ "java/lang/invoke/VarHandle" ∧ (parseMethodDescriptor yX1_passDays.desc).map (fun d => d.parameters.length) = some 3 := by decide +kernel
theorem ds_X2_init : yX2_init.cls ≠ "java/lang/invoke/MethodHandle" ∧ yX2_init.cls ≠ "java/lang/invoke/VarHandle" ∧ (parseMethodDescriptor yX2_init.desc).map (fun d => d.parameters.length) = some 0 := by decide +kernel
theorem ds_X2_forget : yX2_forget.cls ≠ "java/lang/invoke/MethodHandle" ∧ yX2_forget.cls ≠ "java/lang/invoke/VarHandle" ∧ (parseMethodDescriptor yX2_forget.desc).map (fun d => d.parameters.length) = some 0 := by decide +kernel
theorem ds_X2_dropOldest : yX2_dropOldest.cls ≠ "java/lang/invoke/MethodHandle" ∧ yX2_dropOldest.cls ≠ "java/lang/invoke/VarHandle" ∧ (parseMethodDescriptor yX2_dropOldest.desc).map (fun d => d.parameters.length) = some 0 := by decide +kernel
theorem ds_X6_init : yX6_init.cls ≠ "java/lang/invoke/MethodHandle" ∧ yX6_init.cls ≠ "java/lang/invoke/VarHandle" ∧ (parseMethodDescriptor yX6_init.desc).map (fun d => d.parameters.length) = some 0 := by decide +kernel
theorem ds_X6_copyFrom : yX6_copyFrom.cls ≠ "java/lang/invoke/MethodHandle" ∧ yX6_copyFrom.cls ≠ "java/lang/invoke/VarHandle" ∧ (parseMethodDescriptor yX6_copyFrom.desc).map (fun d => d.parameters.length) = some 1 := by decide +kernel
theorem ds_X2_keep : yX2_keep.cls ≠ "java/lang/invoke/MethodHandle" ∧ yX2_keep.cls ≠ "java/lang/invoke/VarHandle" ∧ (parseMethodDescriptor yX2_keep.desc).map (fun d => d.parameters.length) = some 1 := by decide +kernel
theorem ds_X2_takeBack : yX2_takeBack.cls ≠ "java/lang/invoke/MethodHandle" ∧ yX2_takeBack.cls ≠ "java/lang/invoke/VarHandle" ∧ (parseMethodDescriptor yX2_takeBack.desc).map (fun d => d.parameters.length) = some 1 := by decide +kernel
theorem ds_X7_init : yX7_init.cls ≠ "java/lang/invoke/MethodHandle" ∧ yX7_init.cls ≠ "java/lang/invoke/VarHandle" ∧ (parseMethodDescriptor yX7_init.desc).map (fun d => d.parameters.length) = some 0 := by decide +kernel
theorem ds_X5_init : yX5_init.cls ≠ "java/lang/invoke/MethodHandle" ∧ yX5_init.cls ≠ "java/lang/invoke/VarHandle" ∧ (parseMethodDescriptor yX5_init.desc).map (fun d => d.parameters.length) = some 0 := by decide +kernel
theorem ds_X3_init : yX3_init.cls ≠ "java/lang/invoke/MethodHandle" ∧ yX3_init.cls ≠ "java/lang/invoke/VarHandle" ∧ (parseMethodDescriptor yX3_init.desc).map (fun d => d.parameters.length) = some 0 := by decide +kernel
theorem ds_X4_init : yX4_init.cls ≠ "java/lang/invoke/MethodHandle" ∧ yX4_init.cls ≠ "java/lang/invoke/VarHandle" ∧ (parseMethodDescriptor yX4_init.desc).map (fun d => d.parameters.length) = some 0 := by decide +kernel
theorem ds_X9_step : yX9_step.cls ≠ "java/lang/invoke/MethodHandle" ∧ yX9_step.cls ≠ "java/lang/invoke/VarHandle" ∧ (parseMethodDescriptor yX9_step.desc).map (fun d => d.parameters.length) = some 0 := by decide +kernel
theorem ds_X9_fail : yX9_fail.cls ≠ "java/lang/invoke/MethodHandle" ∧ yX9_fail.cls ≠ "java/lang/invoke/VarHandle" ∧ (parseMethodDescriptor yX9_fail.desc).map (fun d => d.parameters.length) = some 1 := by decide +kernel
theorem ds_X7_manNamed : yX7_manNamed.cls ≠ "java/lang/invoke/MethodHandle" ∧ yX7_manNamed.cls ≠ "java/lang/invoke/VarHandle" ∧ (parseMethodDescriptor yX7_manNamed.desc).map (fun d => d.parameters.length) = some 1 := by decide +kernel
theorem ds_X9_takeName : yX9_takeName.cls ≠ "java/lang/invoke/MethodHandle" ∧ yX9_takeName.cls ≠ "java/lang/invoke/VarHandle" ∧ (parseMethodDescriptor yX9_takeName.desc).map (fun d => d.parameters.length) = some 0 := by decide +kernel
theorem ds_X7_goodNamed : yX7_goodNamed.cls ≠ "java/lang/invoke/MethodHandle" ∧ yX7_goodNamed.cls ≠ "java/lang/invoke/VarHandle" ∧ (parseMethodDescriptor yX7_goodNamed.desc).map (fun d => d.parameters.length) = some 1 := by decide +kernel
theorem ds_X7_takeGood : yX7_takeGood.cls ≠ "java/lang/invoke/MethodHandle" ∧ yX7_takeGood.cls ≠ "java/lang/invoke/VarHandle" ∧ (parseMethodDescriptor yX7_takeGood.desc).map (fun d => d.parameters.length) = some 1 := by decide +kernel
theorem ds_X9_takeNumber : yX9_takeNumber.cls ≠ "java/lang/invoke/MethodHandle" ∧ yX9_takeNumber.cls ≠ "java/lang/invoke/VarHandle" ∧ (parseMethodDescriptor yX9_takeNumber.desc).map (fun d => d.parameters.length) = some 2 := by decide +kernel
theorem ds_X4_addLine : yX4_addLine.cls ≠ "java/lang/invoke/MethodHandle" ∧ yX4_addLine.cls ≠ "java/lang/invoke/VarHandle" ∧ (parseMethodDescriptor yX4_addLine.desc).map (fun d => d.parameters.length) = some 3 := by decide +kernel
theorem ds_X4_readDeed : yX4_readDeed.cls ≠ "java/lang/invoke/MethodHandle" ∧ yX4_readDeed.cls ≠ "java/lang/invoke/VarHandle" ∧ (parseMethodDescriptor yX4_readDeed.desc).map (fun d => d.parameters.length) = some 3 := by decide +kernel
theorem ds_X4_readDays : yX4_readDays.cls ≠ "java/lang/invoke/MethodHandle" ∧ yX4_readDays.cls ≠ "java/lang/invoke/VarHandle" ∧ (parseMethodDescriptor yX4_readDays.desc).map (fun d => d.parameters.length) = some 1 := by decide +kernel
theorem ds_X4_readDeath : yX4_readDeath.cls ≠ "java/lang/invoke/MethodHandle" ∧ yX4_readDeath.cls ≠ "java/lang/invoke/VarHandle" ∧ (parseMethodDescriptor yX4_readDeath.desc).map (fun d => d.parameters.length) = some 2 := by decide +kernel
theorem ds_X4_readLine : yX4_readLine.cls ≠ "java/lang/invoke/MethodHandle" ∧ yX4_readLine.cls ≠ "java/lang/invoke/VarHandle" ∧ (parseMethodDescriptor yX4_readLine.desc).map (fun d => d.parameters.length) = some 2 := by decide +kernel
theorem ds_X9_takeSign : yX9_takeSign.cls ≠ "java/lang/invoke/MethodHandle" ∧ yX9_takeSign.cls ≠ "java/lang/invoke/VarHandle" ∧ (parseMethodDescriptor yX9_takeSign.desc).map (fun d => d.parameters.length) = some 1 := by decide +kernel
theorem ds_X4_readText : yX4_readText.cls ≠ "java/lang/invoke/MethodHandle" ∧ yX4_readText.cls ≠ "java/lang/invoke/VarHandle" ∧ (parseMethodDescriptor yX4_readText.desc).map (fun d => d.parameters.length) = some 2 := by decide +kernel
theorem ds_X5_copyFrom : yX5_copyFrom.cls ≠ "java/lang/invoke/MethodHandle" ∧ yX5_copyFrom.cls ≠ "java/lang/invoke/VarHandle" ∧ (parseMethodDescriptor yX5_copyFrom.desc).map (fun d => d.parameters.length) = some 1 := by decide +kernel
theorem ds_X5_addOp : yX5_addOp.cls ≠ "java/lang/invoke/MethodHandle" ∧ yX5_addOp.cls ≠ "java/lang/invoke/VarHandle" ∧ (parseMethodDescriptor yX5_addOp.desc).map (fun d => d.parameters.length) = some 3 := by decide +kernel
theorem ds_X5_readOnShore : yX5_readOnShore.cls ≠ "java/lang/invoke/MethodHandle" ∧ yX5_readOnShore.cls ≠ "java/lang/invoke/VarHandle" ∧ (parseMethodDescriptor yX5_readOnShore.desc).map (fun d => d.parameters.length) = some 2 := by decide +kernel
theorem ds_X5_readCompared : yX5_readCompared.cls ≠ "java/lang/invoke/MethodHandle" ∧ yX5_readCompared.cls ≠ "java/lang/invoke/VarHandle" ∧ (parseMethodDescriptor yX5_readCompared.desc).map (fun d => d.parameters.length) = some 2 := by decide +kernel
theorem ds_X5_readOne : yX5_readOne.cls ≠ "java/lang/invoke/MethodHandle" ∧ yX5_readOne.cls ≠ "java/lang/invoke/VarHandle" ∧ (parseMethodDescriptor yX5_readOne.desc).map (fun d => d.parameters.length) = some 2 := by decide +kernel
theorem ds_X5_readAll : yX5_readAll.cls ≠ "java/lang/invoke/MethodHandle" ∧ yX5_readAll.cls ≠ "java/lang/invoke/VarHandle" ∧ (parseMethodDescriptor yX5_readAll.desc).map (fun d => d.parameters.length) = some 2 := by decide +kernel
theorem ds_X5_readCond : yX5_readCond.cls ≠ "java/lang/invoke/MethodHandle" ∧ yX5_readCond.cls ≠ "java/lang/invoke/VarHandle" ∧ (parseMethodDescriptor yX5_readCond.desc).map (fun d => d.parameters.length) = some 2 := by decide +kernel
theorem ds_X5_readText : yX5_readText.cls ≠ "java/lang/invoke/MethodHandle" ∧ yX5_readText.cls ≠ "java/lang/invoke/VarHandle" ∧ (parseMethodDescriptor yX5_readText.desc).map (fun d => d.parameters.length) = some 1 := by decide +kernel
theorem ds_X5_readBracket : yX5_readBracket.cls ≠ "java/lang/invoke/MethodHandle" ∧ yX5_readBracket.cls ≠ "java/lang/invoke/VarHandle" ∧ (parseMethodDescriptor yX5_readBracket.desc).map (fun d => d.parameters.length) = some 2 := by decide +kernel
theorem ds_X6_isFalse : yX6_isFalse.cls ≠ "java/lang/invoke/MethodHandle" ∧ yX6_isFalse.cls ≠ "java/lang/invoke/VarHandle" ∧ (parseMethodDescriptor yX6_isFalse.desc).map (fun d => d.parameters.length) = some 2 := by decide +kernel
theorem ds_X5_isSoThere : yX5_isSoThere.cls ≠ "java/lang/invoke/MethodHandle" ∧ yX5_isSoThere.cls ≠ "java/lang/invoke/VarHandle" ∧ (parseMethodDescriptor yX5_isSoThere.desc).map (fun d => d.parameters.length) = some 4 := by decide +kernel
theorem ds_X5_valueOf : yX5_valueOf.cls ≠ "java/lang/invoke/MethodHandle" ∧ yX5_valueOf.cls ≠ "java/lang/invoke/VarHandle" ∧ (parseMethodDescriptor yX5_valueOf.desc).map (fun d => d.parameters.length) = some 3 := by decide +kernel
theorem ds_X5_isSoCompared : yX5_isSoCompared.cls ≠ "java/lang/invoke/MethodHandle" ∧ yX5_isSoCompared.cls ≠ "java/lang/invoke/VarHandle" ∧ (parseMethodDescriptor yX5_isSoCompared.desc).map (fun d => d.parameters.length) = some 3 := by decide +kernel
theorem ds_X5_isSo : yX5_isSo.cls ≠ "java/lang/invoke/MethodHandle" ∧ yX5_isSo.cls ≠ "java/lang/invoke/VarHandle" ∧ (parseMethodDescriptor yX5_isSo.desc).map (fun d => d.parameters.length) = some 4 := by decide +kernel
theorem ds_X5_holdsOf : yX5_holdsOf.cls ≠ "java/lang/invoke/MethodHandle" ∧ yX5_holdsOf.cls ≠ "java/lang/invoke/VarHandle" ∧ (parseMethodDescriptor yX5_holdsOf.desc).map (fun d => d.parameters.length) = some 3 := by decide +kernel
theorem ds_X6_beginAs : yX6_beginAs.cls ≠ "java/lang/invoke/MethodHandle" ∧ yX6_beginAs.cls ≠ "java/lang/invoke/VarHandle" ∧ (parseMethodDescriptor yX6_beginAs.desc).map (fun d => d.parameters.length) = some 1 := by decide +kernel
theorem ds_X6_looksLike : yX6_looksLike.cls ≠ "java/lang/invoke/MethodHandle" ∧ yX6_looksLike.cls ≠ "java/lang/invoke/VarHandle" ∧ (parseMethodDescriptor yX6_looksLike.desc).map (fun d => d.parameters.length) = some 1 := by decide +kernel
theorem ds_X6_hungerInAll : yX6_hungerInAll.cls ≠ "java/lang/invoke/MethodHandle" ∧ yX6_hungerInAll.cls ≠ "java/lang/invoke/VarHandle" ∧ (parseMethodDescriptor yX6_hungerInAll.desc).map (fun d => d.parameters.length) = some 0 := by decide +kernel
theorem ds_X6_isAlive : yX6_isAlive.cls ≠ "java/lang/invoke/MethodHandle" ∧ yX6_isAlive.cls ≠ "java/lang/invoke/VarHandle" ∧ (parseMethodDescriptor yX6_isAlive.desc).map (fun d => d.parameters.length) = some 1 := by decide +kernel
theorem ds_X6_menOn : yX6_menOn.cls ≠ "java/lang/invoke/MethodHandle" ∧ yX6_menOn.cls ≠ "java/lang/invoke/VarHandle" ∧ (parseMethodDescriptor yX6_menOn.desc).map (fun d => d.parameters.length) = some 2 := by decide +kernel
theorem ds_X6_missersOf : yX6_missersOf.cls ≠ "java/lang/invoke/MethodHandle" ∧ yX6_missersOf.cls ≠ "java/lang/invoke/VarHandle" ∧ (parseMethodDescriptor yX6_missersOf.desc).map (fun d => d.parameters.length) = some 2 := by decide +kernel
theorem ds_X6_missedBy : yX6_missedBy.cls ≠ "java/lang/invoke/MethodHandle" ∧ yX6_missedBy.cls ≠ "java/lang/invoke/VarHandle" ∧ (parseMethodDescriptor yX6_missedBy.desc).map (fun d => d.parameters.length) = some 2 := by decide +kernel
theorem ds_X6_couldBeMissed : yX6_couldBeMissed.cls ≠ "java/lang/invoke/MethodHandle" ∧ yX6_couldBeMissed.cls ≠ "java/lang/invoke/VarHandle" ∧ (parseMethodDescriptor yX6_couldBeMissed.desc).map (fun d => d.parameters.length) = some 2 := by decide +kernel
theorem ds_X6_whyNot : yX6_whyNot.cls ≠ "java/lang/invoke/MethodHandle" ∧ yX6_whyNot.cls ≠ "java/lang/invoke/VarHandle" ∧ (parseMethodDescriptor yX6_whyNot.desc).map (fun d => d.parameters.length) = some 3 := by decide +kernel
theorem ds_X6_perform : yX6_perform.cls ≠ "java/lang/invoke/MethodHandle" ∧ yX6_perform.cls ≠ "java/lang/invoke/VarHandle" ∧ (parseMethodDescriptor yX6_perform.desc).map (fun d => d.parameters.length) = some 3 := by decide +kernel
theorem ds_X6_attempt : yX6_attempt.cls ≠ "java/lang/invoke/MethodHandle" ∧ yX6_attempt.cls ≠ "java/lang/invoke/VarHandle" ∧ (parseMethodDescriptor yX6_attempt.desc).map (fun d => d.parameters.length) = some 3 := by decide +kernel
theorem ds_X7_stockAfter : yX7_stockAfter.cls ≠ "java/lang/invoke/MethodHandle" ∧ yX7_stockAfter.cls ≠ "java/lang/invoke/VarHandle" ∧ (parseMethodDescriptor yX7_stockAfter.desc).map (fun d => d.parameters.length) = some 2 := by decide +kernel
theorem ds_X7_copyFrom : yX7_copyFrom.cls ≠ "java/lang/invoke/MethodHandle" ∧ yX7_copyFrom.cls ≠ "java/lang/invoke/VarHandle" ∧ (parseMethodDescriptor yX7_copyFrom.desc).map (fun d => d.parameters.length) = some 1 := by decide +kernel
theorem ds_X7_clear : yX7_clear.cls ≠ "java/lang/invoke/MethodHandle" ∧ yX7_clear.cls ≠ "java/lang/invoke/VarHandle" ∧ (parseMethodDescriptor yX7_clear.desc).map (fun d => d.parameters.length) = some 0 := by decide +kernel
theorem ds_X7_readAmount : yX7_readAmount.cls ≠ "java/lang/invoke/MethodHandle" ∧ yX7_readAmount.cls ≠ "java/lang/invoke/VarHandle" ∧ (parseMethodDescriptor yX7_readAmount.desc).map (fun d => d.parameters.length) = some 2 := by decide +kernel
theorem ds_X7_readLoad : yX7_readLoad.cls ≠ "java/lang/invoke/MethodHandle" ∧ yX7_readLoad.cls ≠ "java/lang/invoke/VarHandle" ∧ (parseMethodDescriptor yX7_readLoad.desc).map (fun d => d.parameters.length) = some 1 := by decide +kernel
theorem ds_X7_takeNewName : yX7_takeNewName.cls ≠ "java/lang/invoke/MethodHandle" ∧ yX7_takeNewName.cls ≠ "java/lang/invoke/VarHandle" ∧ (parseMethodDescriptor yX7_takeNewName.desc).map (fun d => d.parameters.length) = some 1 := by decide +kernel
theorem ds_X7_readGood : yX7_readGood.cls ≠ "java/lang/invoke/MethodHandle" ∧ yX7_readGood.cls ≠ "java/lang/invoke/VarHandle" ∧ (parseMethodDescriptor yX7_readGood.desc).map (fun d => d.parameters.length) = some 1 := by decide +kernel
theorem ds_X7_readMan : yX7_readMan.cls ≠ "java/lang/invoke/MethodHandle" ∧ yX7_readMan.cls ≠ "java/lang/invoke/VarHandle" ∧ (parseMethodDescriptor yX7_readMan.desc).map (fun d => d.parameters.length) = some 1 := by decide +kernel
theorem ds_X7_takeMan : yX7_takeMan.cls ≠ "java/lang/invoke/MethodHandle" ∧ yX7_takeMan.cls ≠ "java/lang/invoke/VarHandle" ∧ (parseMethodDescriptor yX7_takeMan.desc).map (fun d => d.parameters.length) = some 1 := by decide +kernel
theorem ds_X7_isMissTold : yX7_isMissTold.cls ≠ "java/lang/invoke/MethodHandle" ∧ yX7_isMissTold.cls ≠ "java/lang/invoke/VarHandle" ∧ (parseMethodDescriptor yX7_isMissTold.desc).map (fun d => d.parameters.length) = some 2 := by decide +kernel
theorem ds_X7_readMisses : yX7_readMisses.cls ≠ "java/lang/invoke/MethodHandle" ∧ yX7_readMisses.cls ≠ "java/lang/invoke/VarHandle" ∧ (parseMethodDescriptor yX7_readMisses.desc).map (fun d => d.parameters.length) = some 1 := by decide +kernel
theorem ds_X7_readLine : yX7_readLine.cls ≠ "java/lang/invoke/MethodHandle" ∧ yX7_readLine.cls ≠ "java/lang/invoke/VarHandle" ∧ (parseMethodDescriptor yX7_readLine.desc).map (fun d => d.parameters.length) = some 1 := by decide +kernel
theorem ds_X7_readText : yX7_readText.cls ≠ "java/lang/invoke/MethodHandle" ∧ yX7_readText.cls ≠ "java/lang/invoke/VarHandle" ∧ (parseMethodDescriptor yX7_readText.desc).map (fun d => d.parameters.length) = some 1 := by decide +kernel
theorem ds_X8_init : yX8_init.cls ≠ "java/lang/invoke/MethodHandle" ∧ yX8_init.cls ≠ "java/lang/invoke/VarHandle" ∧ (parseMethodDescriptor yX8_init.desc).map (fun d => d.parameters.length) = some 0 := by decide +kernel
theorem ds_X8_put : yX8_put.cls ≠ "java/lang/invoke/MethodHandle" ∧ yX8_put.cls ≠ "java/lang/invoke/VarHandle" ∧ (parseMethodDescriptor yX8_put.desc).map (fun d => d.parameters.length) = some 1 := by decide +kernel
theorem ds_X8_valueAt : yX8_valueAt.cls ≠ "java/lang/invoke/MethodHandle" ∧ yX8_valueAt.cls ≠ "java/lang/invoke/VarHandle" ∧ (parseMethodDescriptor yX8_valueAt.desc).map (fun d => d.parameters.length) = some 1 := by decide +kernel
theorem ds_X9_clear : yX9_clear.cls ≠ "java/lang/invoke/MethodHandle" ∧ yX9_clear.cls ≠ "java/lang/invoke/VarHandle" ∧ (parseMethodDescriptor yX9_clear.desc).map (fun d => d.parameters.length) = some 0 := by decide +kernel
theorem ds_X8_skipBlanks : yX8_skipBlanks.cls ≠ "java/lang/invoke/MethodHandle" ∧ yX8_skipBlanks.cls ≠ "java/lang/invoke/VarHandle" ∧ (parseMethodDescriptor yX8_skipBlanks.desc).map (fun d => d.parameters.length) = some 0 := by decide +kernel
theorem ds_X8_isLetter : yX8_isLetter.cls ≠ "java/lang/invoke/MethodHandle" ∧ yX8_isLetter.cls ≠ "java/lang/invoke/VarHandle" ∧ (parseMethodDescriptor yX8_isLetter.desc).map (fun d => d.parameters.length) = some 1 := by decide +kernel
theorem ds_X8_isDigit : yX8_isDigit.cls ≠ "java/lang/invoke/MethodHandle" ∧ yX8_isDigit.cls ≠ "java/lang/invoke/VarHandle" ∧ (parseMethodDescriptor yX8_isDigit.desc).map (fun d => d.parameters.length) = some 1 := by decide +kernel
theorem ds_X8_isToldWord : yX8_isToldWord.cls ≠ "java/lang/invoke/MethodHandle" ∧ yX8_isToldWord.cls ≠ "java/lang/invoke/VarHandle" ∧ (parseMethodDescriptor yX8_isToldWord.desc).map (fun d => d.parameters.length) = some 3 := by decide +kernel
theorem ds_X8_kindOfWord : yX8_kindOfWord.cls ≠ "java/lang/invoke/MethodHandle" ∧ yX8_kindOfWord.cls ≠ "java/lang/invoke/VarHandle" ∧ (parseMethodDescriptor yX8_kindOfWord.desc).map (fun d => d.parameters.length) = some 2 := by decide +kernel
theorem ds_X9_add : yX9_add.cls ≠ "java/lang/invoke/MethodHandle" ∧ yX9_add.cls ≠ "java/lang/invoke/VarHandle" ∧ (parseMethodDescriptor yX9_add.desc).map (fun d => d.parameters.length) = some 3 := by decide +kernel
theorem ds_X8_cutRun : yX8_cutRun.cls ≠ "java/lang/invoke/MethodHandle" ∧ yX8_cutRun.cls ≠ "java/lang/invoke/VarHandle" ∧ (parseMethodDescriptor yX8_cutRun.desc).map (fun d => d.parameters.length) = some 1 := by decide +kernel
theorem ds_X8_isSign : yX8_isSign.cls ≠ "java/lang/invoke/MethodHandle" ∧ yX8_isSign.cls ≠ "java/lang/invoke/VarHandle" ∧ (parseMethodDescriptor yX8_isSign.desc).map (fun d => d.parameters.length) = some 1 := by decide +kernel
theorem ds_X8_cutToken : yX8_cutToken.cls ≠ "java/lang/invoke/MethodHandle" ∧ yX8_cutToken.cls ≠ "java/lang/invoke/VarHandle" ∧ (parseMethodDescriptor yX8_cutToken.desc).map (fun d => d.parameters.length) = some 1 := by decide +kernel
theorem ds_X8_moveInto : yX8_moveInto.cls ≠ "java/lang/invoke/MethodHandle" ∧ yX8_moveInto.cls ≠ "java/lang/invoke/VarHandle" ∧ (parseMethodDescriptor yX8_moveInto.desc).map (fun d => d.parameters.length) = some 2 := by decide +kernel
theorem ds_X9_init : yX9_init.cls ≠ "java/lang/invoke/MethodHandle" ∧ yX9_init.cls ≠ "java/lang/invoke/VarHandle" ∧ (parseMethodDescriptor yX9_init.desc).map (fun d => d.parameters.length) = some 0 := by decide +kernel
theorem ds_X10_init : yX10_init.cls ≠ "java/lang/invoke/MethodHandle" ∧ yX10_init.cls ≠ "java/lang/invoke/VarHandle" ∧ (parseMethodDescriptor yX10_init.desc).map (fun d => d.parameters.length) = some 0 := by decide +kernel
theorem ds_X10_feed : yX10_feed.cls ≠ "java/lang/invoke/MethodHandle" ∧ yX10_feed.cls ≠ "java/lang/invoke/VarHandle" ∧ (parseMethodDescriptor yX10_feed.desc).map (fun d => d.parameters.length) = some 5 := by decide +kernel
theorem ds_X10_end : yX10_end.cls ≠ "java/lang/invoke/MethodHandle" ∧ yX10_end.cls ≠ "java/lang/invoke/VarHandle" ∧ (parseMethodDescriptor yX10_end.desc).map (fun d => d.parameters.length) = some 1 := by decide +kernel
theorem ds_X10_strait : yX10_strait.cls ≠ "java/lang/invoke/MethodHandle" ∧ yX10_strait.cls ≠ "java/lang/invoke/VarHandle" ∧ (parseMethodDescriptor yX10_strait.desc).map (fun d => d.parameters.length) = some 0 := by decide +kernel
theorem ds_X10_fault : yX10_fault.cls ≠ "java/lang/invoke/MethodHandle" ∧ yX10_fault.cls ≠ "java/lang/invoke/VarHandle" ∧ (parseMethodDescriptor yX10_fault.desc).map (fun d => d.parameters.length) = some 0 := by decide +kernel
theorem ds_X10_isGood : yX10_isGood.cls ≠ "java/lang/invoke/MethodHandle" ∧ yX10_isGood.cls ≠ "java/lang/invoke/VarHandle" ∧ (parseMethodDescriptor yX10_isGood.desc).map (fun d => d.parameters.length) = some 1 := by decide +kernel
theorem ds_X10_isShore : yX10_isShore.cls ≠ "java/lang/invoke/MethodHandle" ∧ yX10_isShore.cls ≠ "java/lang/invoke/VarHandle" ∧ (parseMethodDescriptor yX10_isShore.desc).map (fun d => d.parameters.length) = some 1 := by decide +kernel
theorem ds_X10_isSlot : yX10_isSlot.cls ≠ "java/lang/invoke/MethodHandle" ∧ yX10_isSlot.cls ≠ "java/lang/invoke/VarHandle" ∧ (parseMethodDescriptor yX10_isSlot.desc).map (fun d => d.parameters.length) = some 2 := by decide +kernel
theorem ds_X10_isMan : yX10_isMan.cls ≠ "java/lang/invoke/MethodHandle" ∧ yX10_isMan.cls ≠ "java/lang/invoke/VarHandle" ∧ (parseMethodDescriptor yX10_isMan.desc).map (fun d => d.parameters.length) = some 1 := by decide +kernel
theorem ds_X10_areLivingTwo : yX10_areLivingTwo.cls ≠ "java/lang/invoke/MethodHandle" ∧ yX10_areLivingTwo.cls ≠ "java/lang/invoke/VarHandle" ∧ (parseMethodDescriptor yX10_areLivingTwo.desc).map (fun d => d.parameters.length) = some 2 := by decide +kernel
theorem ds_X10_isWithin : yX10_isWithin.cls ≠ "java/lang/invoke/MethodHandle" ∧ yX10_isWithin.cls ≠ "java/lang/invoke/VarHandle" ∧ (parseMethodDescriptor yX10_isWithin.desc).map (fun d => d.parameters.length) = some 2 := by decide +kernel
theorem ds_X10_good : yX10_good.cls ≠ "java/lang/invoke/MethodHandle" ∧ yX10_good.cls ≠ "java/lang/invoke/VarHandle" ∧ (parseMethodDescriptor yX10_good.desc).map (fun d => d.parameters.length) = some 3 := by decide +kernel
theorem ds_X10_crossed : yX10_crossed.cls ≠ "java/lang/invoke/MethodHandle" ∧ yX10_crossed.cls ≠ "java/lang/invoke/VarHandle" ∧ (parseMethodDescriptor yX10_crossed.desc).map (fun d => d.parameters.length) = some 2 := by decide +kernel
theorem ds_X10_apart : yX10_apart.cls ≠ "java/lang/invoke/MethodHandle" ∧ yX10_apart.cls ≠ "java/lang/invoke/VarHandle" ∧ (parseMethodDescriptor yX10_apart.desc).map (fun d => d.parameters.length) = some 2 := by decide +kernel
theorem ds_X10_now : yX10_now.cls ≠ "java/lang/invoke/MethodHandle" ∧ yX10_now.cls ≠ "java/lang/invoke/VarHandle" ∧ (parseMethodDescriptor yX10_now.desc).map (fun d => d.parameters.length) = some 1 := by decide +kernel
theorem ds_X10_lacks : yX10_lacks.cls ≠ "java/lang/invoke/MethodHandle" ∧ yX10_lacks.cls ≠ "java/lang/invoke/VarHandle" ∧ (parseMethodDescriptor yX10_lacks.desc).map (fun d => d.parameters.length) = some 1 := by decide +kernel
theorem ds_X10_falses : yX10_falses.cls ≠ "java/lang/invoke/MethodHandle" ∧ yX10_falses.cls ≠ "java/lang/invoke/VarHandle" ∧ (parseMethodDescriptor yX10_falses.desc).map (fun d => d.parameters.length) = some 1 := by decide +kernel
theorem ds_J6_bitCount_0f7a4 : yJ6_bitCount_0f7a4.cls ≠ "java/lang/invoke/MethodHandle" ∧ yJ6_bitCount_0f7a4.cls ≠ "java/lang/invoke/VarHandle" ∧ (parseMethodDescriptor yJ6_bitCount_0f7a4.desc).map (fun d => d.parameters.length) = some 1 := by decide +kernel
theorem ds_X10_dearest : yX10_dearest.cls ≠ "java/lang/invoke/MethodHandle" ∧ yX10_dearest.cls ≠ "java/lang/invoke/VarHandle" ∧ (parseMethodDescriptor yX10_dearest.desc).map (fun d => d.parameters.length) = some 0 := by decide +kernel
theorem ds_X10_rats : yX10_rats.cls ≠ "java/lang/invoke/MethodHandle" ∧ yX10_rats.cls ≠ "java/lang/invoke/VarHandle" ∧ (parseMethodDescriptor yX10_rats.desc).map (fun d => d.parameters.length) = some 0 := by decide +kernel
theorem ds_X10_hoarded : yX10_hoarded.cls ≠ "java/lang/invoke/MethodHandle" ∧ yX10_hoarded.cls ≠ "java/lang/invoke/VarHandle" ∧ (parseMethodDescriptor yX10_hoarded.desc).map (fun d => d.parameters.length) = some 1 := by decide +kernel
theorem ds_X10_count : yX10_count.cls ≠ "java/lang/invoke/MethodHandle" ∧ yX10_count.cls ≠ "java/lang/invoke/VarHandle" ∧ (parseMethodDescriptor yX10_count.desc).map (fun d => d.parameters.length) = some 1 := by decide +kernel
theorem ds_X10_act : yX10_act.cls ≠ "java/lang/invoke/MethodHandle" ∧ yX10_act.cls ≠ "java/lang/invoke/VarHandle" ∧ (parseMethodDescriptor yX10_act.desc).map (fun d => d.parameters.length) = some 4 := by decide +kernel
theorem ds_X10_hoard : yX10_hoard.cls ≠ "java/lang/invoke/MethodHandle" ∧ yX10_hoard.cls ≠ "java/lang/invoke/VarHandle" ∧ (parseMethodDescriptor yX10_hoard.desc).map (fun d => d.parameters.length) = some 3 := by decide +kernel
theorem ds_X10_bare : yX10_bare.cls ≠ "java/lang/invoke/MethodHandle" ∧ yX10_bare.cls ≠ "java/lang/invoke/VarHandle" ∧ (parseMethodDescriptor yX10_bare.desc).map (fun d => d.parameters.length) = some 3 := by decide +kernel
theorem ds_X10_waste : yX10_waste.cls ≠ "java/lang/invoke/MethodHandle" ∧ yX10_waste.cls ≠ "java/lang/invoke/VarHandle" ∧ (parseMethodDescriptor yX10_waste.desc).map (fun d => d.parameters.length) = some 3 := by decide +kernel
theorem ds_X10_die : yX10_die.cls ≠ "java/lang/invoke/MethodHandle" ∧ yX10_die.cls ≠ "java/lang/invoke/VarHandle" ∧ (parseMethodDescriptor yX10_die.desc).map (fun d => d.parameters.length) = some 1 := by decide +kernel
theorem ds_X10_days : yX10_days.cls ≠ "java/lang/invoke/MethodHandle" ∧ yX10_days.cls ≠ "java/lang/invoke/VarHandle" ∧ (parseMethodDescriptor yX10_days.desc).map (fun d => d.parameters.length) = some 1 := by decide +kernel
theorem ds_X10_undo : yX10_undo.cls ≠ "java/lang/invoke/MethodHandle" ∧ yX10_undo.cls ≠ "java/lang/invoke/VarHandle" ∧ (parseMethodDescriptor yX10_undo.desc).map (fun d => d.parameters.length) = some 0 := by decide +kernel
theorem ds_X10_going : yX10_going.cls ≠ "java/lang/invoke/MethodHandle" ∧ yX10_going.cls ≠ "java/lang/invoke/VarHandle" ∧ (parseMethodDescriptor yX10_going.desc).map (fun d => d.parameters.length) = some 0 := by decide +kernel
theorem ds_X10_goes : yX10_goes.cls ≠ "java/lang/invoke/MethodHandle" ∧ yX10_goes.cls ≠ "java/lang/invoke/VarHandle" ∧ (parseMethodDescriptor yX10_goes.desc).map (fun d => d.parameters.length) = some 1 := by decide +kernel
theorem ds_X10_crosses : yX10_crosses.cls ≠ "java/lang/invoke/MethodHandle" ∧ yX10_crosses.cls ≠ "java/lang/invoke/VarHandle" ∧ (parseMethodDescriptor yX10_crosses.desc).map (fun d => d.parameters.length) = some 1 := by decide +kernel
theorem ds_X10_comes : yX10_comes.cls ≠ "java/lang/invoke/MethodHandle" ∧ yX10_comes.cls ≠ "java/lang/invoke/VarHandle" ∧ (parseMethodDescriptor yX10_comes.desc).map (fun d => d.parameters.length) = some 2 := by decide +kernel
theorem ds_X10_foreseeRoom : yX10_foreseeRoom.cls ≠ "java/lang/invoke/MethodHandle" ∧ yX10_foreseeRoom.cls ≠ "java/lang/invoke/VarHandle" ∧ (parseMethodDescriptor yX10_foreseeRoom.desc).map (fun d => d.parameters.length) = some 2 := by decide +kernel
theorem ds_X10_roomTowards : yX10_roomTowards.cls ≠ "java/lang/invoke/MethodHandle" ∧ yX10_roomTowards.cls ≠ "java/lang/invoke/VarHandle" ∧ (parseMethodDescriptor yX10_roomTowards.desc).map (fun d => d.parameters.length) = some 2 := by decide +kernel
theorem ds_X10_wouldCome : yX10_wouldCome.cls ≠ "java/lang/invoke/MethodHandle" ∧ yX10_wouldCome.cls ≠ "java/lang/invoke/VarHandle" ∧ (parseMethodDescriptor yX10_wouldCome.desc).map (fun d => d.parameters.length) = some 4 := by decide +kernel
theorem ds_X10_without : yX10_without.cls ≠ "java/lang/invoke/MethodHandle" ∧ yX10_without.cls ≠ "java/lang/invoke/VarHandle" ∧ (parseMethodDescriptor yX10_without.desc).map (fun d => d.parameters.length) = some 4 := by decide +kernel
theorem ds_X10_meet : yX10_meet.cls ≠ "java/lang/invoke/MethodHandle" ∧ yX10_meet.cls ≠ "java/lang/invoke/VarHandle" ∧ (parseMethodDescriptor yX10_meet.desc).map (fun d => d.parameters.length) = some 2 := by decide +kernel
theorem ds_X10_loads : yX10_loads.cls ≠ "java/lang/invoke/MethodHandle" ∧ yX10_loads.cls ≠ "java/lang/invoke/VarHandle" ∧ (parseMethodDescriptor yX10_loads.desc).map (fun d => d.parameters.length) = some 1 := by decide +kernel
theorem ds_X10_settles : yX10_settles.cls ≠ "java/lang/invoke/MethodHandle" ∧ yX10_settles.cls ≠ "java/lang/invoke/VarHandle" ∧ (parseMethodDescriptor yX10_settles.desc).map (fun d => d.parameters.length) = some 0 := by decide +kernel
theorem ds_X10_hunger : yX10_hunger.cls ≠ "java/lang/invoke/MethodHandle" ∧ yX10_hunger.cls ≠ "java/lang/invoke/VarHandle" ∧ (parseMethodDescriptor yX10_hunger.desc).map (fun d => d.parameters.length) = some 3 := by decide +kernel
theorem ds_X10_couldGoSo : yX10_couldGoSo.cls ≠ "java/lang/invoke/MethodHandle" ∧ yX10_couldGoSo.cls ≠ "java/lang/invoke/VarHandle" ∧ (parseMethodDescriptor yX10_couldGoSo.desc).map (fun d => d.parameters.length) = some 2 := by decide +kernel
theorem ds_X10_which : yX10_which.cls ≠ "java/lang/invoke/MethodHandle" ∧ yX10_which.cls ≠ "java/lang/invoke/VarHandle" ∧ (parseMethodDescriptor yX10_which.desc).map (fun d => d.parameters.length) = some 0 := by decide +kernel
theorem ds_X10_movePrices : yX10_movePrices.cls ≠ "java/lang/invoke/MethodHandle" ∧ yX10_movePrices.cls ≠ "java/lang/invoke/VarHandle" ∧ (parseMethodDescriptor yX10_movePrices.desc).map (fun d => d.parameters.length) = some 0 := by decide +kernel
theorem ds_X10_prices : yX10_prices.cls ≠ "java/lang/invoke/MethodHandle" ∧ yX10_prices.cls ≠ "java/lang/invoke/VarHandle" ∧ (parseMethodDescriptor yX10_prices.desc).map (fun d => d.parameters.length) = some 0 := by decide +kernel
theorem ds_X10_price : yX10_price.cls ≠ "java/lang/invoke/MethodHandle" ∧ yX10_price.cls ≠ "java/lang/invoke/VarHandle" ∧ (parseMethodDescriptor yX10_price.desc).map (fun d => d.parameters.length) = some 2 := by decide +kernel
theorem ds_X10_drawDeed : yX10_drawDeed.cls ≠ "java/lang/invoke/MethodHandle" ∧ yX10_drawDeed.cls ≠ "java/lang/invoke/VarHandle" ∧ (parseMethodDescriptor yX10_drawDeed.desc).map (fun d => d.parameters.length) = some 1 := by decide +kernel
theorem ds_X10_drawDeath : yX10_drawDeath.cls ≠ "java/lang/invoke/MethodHandle" ∧ yX10_drawDeath.cls ≠ "java/lang/invoke/VarHandle" ∧ (parseMethodDescriptor yX10_drawDeath.desc).map (fun d => d.parameters.length) = some 1 := by decide +kernel
theorem ds_X10_drawDays : yX10_drawDays.cls ≠ "java/lang/invoke/MethodHandle" ∧ yX10_drawDays.cls ≠ "java/lang/invoke/VarHandle" ∧ (parseMethodDescriptor yX10_drawDays.desc).map (fun d => d.parameters.length) = some 3 := by decide +kernel
theorem ds_X10_drawn : yX10_drawn.cls ≠ "java/lang/invoke/MethodHandle" ∧ yX10_drawn.cls ≠ "java/lang/invoke/VarHandle" ∧ (parseMethodDescriptor yX10_drawn.desc).map (fun d => d.parameters.length) = some 2 := by decide +kernel
theorem ds_X10_odds : yX10_odds.cls ≠ "java/lang/invoke/MethodHandle" ∧ yX10_odds.cls ≠ "java/lang/invoke/VarHandle" ∧ (parseMethodDescriptor yX10_odds.desc).map (fun d => d.parameters.length) = some 3 := by decide +kernel
theorem ds_X10_liveLine : yX10_liveLine.cls ≠ "java/lang/invoke/MethodHandle" ∧ yX10_liveLine.cls ≠ "java/lang/invoke/VarHandle" ∧ (parseMethodDescriptor yX10_liveLine.desc).map (fun d => d.parameters.length) = some 3 := by decide +kernel
theorem ds_X10_judgeLog : yX10_judgeLog.cls ≠ "java/lang/invoke/MethodHandle" ∧ yX10_judgeLog.cls ≠ "java/lang/invoke/VarHandle" ∧ (parseMethodDescriptor yX10_judgeLog.desc).map (fun d => d.parameters.length) = some 0 := by decide +kernel
theorem ds_X10_log : yX10_log.cls ≠ "java/lang/invoke/MethodHandle" ∧ yX10_log.cls ≠ "java/lang/invoke/VarHandle" ∧ (parseMethodDescriptor yX10_log.desc).map (fun d => d.parameters.length) = some 1 := by decide +kernel
theorem ds_X10_logged : yX10_logged.cls ≠ "java/lang/invoke/MethodHandle" ∧ yX10_logged.cls ≠ "java/lang/invoke/VarHandle" ∧ (parseMethodDescriptor yX10_logged.desc).map (fun d => d.parameters.length) = some 1 := by decide +kernel
theorem ds_X10_sentence : yX10_sentence.cls ≠ "java/lang/invoke/MethodHandle" ∧ yX10_sentence.cls ≠ "java/lang/invoke/VarHandle" ∧ (parseMethodDescriptor yX10_sentence.desc).map (fun d => d.parameters.length) = some 0 := by decide +kernel
theorem ds_X10_said : yX10_said.cls ≠ "java/lang/invoke/MethodHandle" ∧ yX10_said.cls ≠ "java/lang/invoke/VarHandle" ∧ (parseMethodDescriptor yX10_said.desc).map (fun d => d.parameters.length) = some 1 := by decide +kernel
theorem ds_X10_image : yX10_image.cls ≠ "java/lang/invoke/MethodHandle" ∧ yX10_image.cls ≠ "java/lang/invoke/VarHandle" ∧ (parseMethodDescriptor yX10_image.desc).map (fun d => d.parameters.length) = some 1 := by decide +kernel
theorem ds_X10_restore : yX10_restore.cls ≠ "java/lang/invoke/MethodHandle" ∧ yX10_restore.cls ≠ "java/lang/invoke/VarHandle" ∧ (parseMethodDescriptor yX10_restore.desc).map (fun d => d.parameters.length) = some 1 := by decide +kernel
theorem ds_X11_thrown : yX11_thrown.cls ≠ "java/lang/invoke/MethodHandle" ∧ yX11_thrown.cls ≠ "java/lang/invoke/VarHandle" ∧ (parseMethodDescriptor yX11_thrown.desc).map (fun d => d.parameters.length) = some 0 := by decide +kernel
theorem ds_X11_throwsIf : yX11_throwsIf.cls ≠ "java/lang/invoke/MethodHandle" ∧ yX11_throwsIf.cls ≠ "java/lang/invoke/VarHandle" ∧ (parseMethodDescriptor yX11_throwsIf.desc).map (fun d => d.parameters.length) = some 1 := by decide +kernel
theorem ds_X11_four : yX11_four.cls ≠ "java/lang/invoke/MethodHandle" ∧ yX11_four.cls ≠ "java/lang/invoke/VarHandle" ∧ (parseMethodDescriptor yX11_four.desc).map (fun d => d.parameters.length) = some 1 := by decide +kernel
theorem ds_X11_feed : yX11_feed.cls ≠ "java/lang/invoke/MethodHandle" ∧ yX11_feed.cls ≠ "java/lang/invoke/VarHandle" ∧ (parseMethodDescriptor yX11_feed.desc).map (fun d => d.parameters.length) = some 5 := by decide +kernel
theorem ds_X11_end : yX11_end.cls ≠ "java/lang/invoke/MethodHandle" ∧ yX11_end.cls ≠ "java/lang/invoke/VarHandle" ∧ (parseMethodDescriptor yX11_end.desc).map (fun d => d.parameters.length) = some 1 := by decide +kernel
theorem ds_X11_taken : yX11_taken.cls ≠ "java/lang/invoke/MethodHandle" ∧ yX11_taken.cls ≠ "java/lang/invoke/VarHandle" ∧ (parseMethodDescriptor yX11_taken.desc).map (fun d => d.parameters.length) = some 1 := by decide +kernel
theorem ds_X11_isIn : yX11_isIn.cls ≠ "java/lang/invoke/MethodHandle" ∧ yX11_isIn.cls ≠ "java/lang/invoke/VarHandle" ∧ (parseMethodDescriptor yX11_isIn.desc).map (fun d => d.parameters.length) = some 3 := by decide +kernel
theorem ds_X11_bitOf : yX11_bitOf.cls ≠ "java/lang/invoke/MethodHandle" ∧ yX11_bitOf.cls ≠ "java/lang/invoke/VarHandle" ∧ (parseMethodDescriptor yX11_bitOf.desc).map (fun d => d.parameters.length) = some 2 := by decide +kernel
theorem ds_X11_lesser : yX11_lesser.cls ≠ "java/lang/invoke/MethodHandle" ∧ yX11_lesser.cls ≠ "java/lang/invoke/VarHandle" ∧ (parseMethodDescriptor yX11_lesser.desc).map (fun d => d.parameters.length) = some 2 := by decide +kernel
theorem ds_X11_bits : yX11_bits.cls ≠ "java/lang/invoke/MethodHandle" ∧ yX11_bits.cls ≠ "java/lang/invoke/VarHandle" ∧ (parseMethodDescriptor yX11_bits.desc).map (fun d => d.parameters.length) = some 1 := by decide +kernel
theorem ds_X11_octet : yX11_octet.cls ≠ "java/lang/invoke/MethodHandle" ∧ yX11_octet.cls ≠ "java/lang/invoke/VarHandle" ∧ (parseMethodDescriptor yX11_octet.desc).map (fun d => d.parameters.length) = some 1 := by decide +kernel
theorem ds_X11_init : yX11_init.cls ≠ "java/lang/invoke/MethodHandle" ∧ yX11_init.cls ≠ "java/lang/invoke/VarHandle" ∧ (parseMethodDescriptor yX11_init.desc).map (fun d => d.parameters.length) = some 0 := by decide +kernel
theorem ds_X11_peek : yX11_peek.cls ≠ "java/lang/invoke/MethodHandle" ∧ yX11_peek.cls ≠ "java/lang/invoke/VarHandle" ∧ (parseMethodDescriptor yX11_peek.desc).map (fun d => d.parameters.length) = some 0 := by decide +kernel
theorem ds_X11_isSmall : yX11_isSmall.cls ≠ "java/lang/invoke/MethodHandle" ∧ yX11_isSmall.cls ≠ "java/lang/invoke/VarHandle" ∧ (parseMethodDescriptor yX11_isSmall.desc).map (fun d => d.parameters.length) = some 1 := by decide +kernel
theorem ds_X11_isDigit : yX11_isDigit.cls ≠ "java/lang/invoke/MethodHandle" ∧ yX11_isDigit.cls ≠ "java/lang/invoke/VarHandle" ∧ (parseMethodDescriptor yX11_isDigit.desc).map (fun d => d.parameters.length) = some 1 := by decide +kernel
theorem ds_X11_next : yX11_next.cls ≠ "java/lang/invoke/MethodHandle" ∧ yX11_next.cls ≠ "java/lang/invoke/VarHandle" ∧ (parseMethodDescriptor yX11_next.desc).map (fun d => d.parameters.length) = some 0 := by decide +kernel
theorem ds_X11_bad : yX11_bad.cls ≠ "java/lang/invoke/MethodHandle" ∧ yX11_bad.cls ≠ "java/lang/invoke/VarHandle" ∧ (parseMethodDescriptor yX11_bad.desc).map (fun d => d.parameters.length) = some 1 := by decide +kernel
theorem ds_X11_isWord : yX11_isWord.cls ≠ "java/lang/invoke/MethodHandle" ∧ yX11_isWord.cls ≠ "java/lang/invoke/VarHandle" ∧ (parseMethodDescriptor yX11_isWord.desc).map (fun d => d.parameters.length) = some 1 := by decide +kernel
theorem ds_X11_isSign : yX11_isSign.cls ≠ "java/lang/invoke/MethodHandle" ∧ yX11_isSign.cls ≠ "java/lang/invoke/VarHandle" ∧ (parseMethodDescriptor yX11_isSign.desc).map (fun d => d.parameters.length) = some 1 := by decide +kernel
theorem ds_X11_sign : yX11_sign.cls ≠ "java/lang/invoke/MethodHandle" ∧ yX11_sign.cls ≠ "java/lang/invoke/VarHandle" ∧ (parseMethodDescriptor yX11_sign.desc).map (fun d => d.parameters.length) = some 1 := by decide +kernel
theorem ds_X11_isName : yX11_isName.cls ≠ "java/lang/invoke/MethodHandle" ∧ yX11_isName.cls ≠ "java/lang/invoke/VarHandle" ∧ (parseMethodDescriptor yX11_isName.desc).map (fun d => d.parameters.length) = some 0 := by decide +kernel
theorem ds_X11_takes : yX11_takes.cls ≠ "java/lang/invoke/MethodHandle" ∧ yX11_takes.cls ≠ "java/lang/invoke/VarHandle" ∧ (parseMethodDescriptor yX11_takes.desc).map (fun d => d.parameters.length) = some 2 := by decide +kernel
theorem ds_X11_puts : yX11_puts.cls ≠ "java/lang/invoke/MethodHandle" ∧ yX11_puts.cls ≠ "java/lang/invoke/VarHandle" ∧ (parseMethodDescriptor yX11_puts.desc).map (fun d => d.parameters.length) = some 3 := by decide +kernel
theorem ds_X11_find : yX11_find.cls ≠ "java/lang/invoke/MethodHandle" ∧ yX11_find.cls ≠ "java/lang/invoke/VarHandle" ∧ (parseMethodDescriptor yX11_find.desc).map (fun d => d.parameters.length) = some 2 := by decide +kernel
theorem ds_X11_fresh : yX11_fresh.cls ≠ "java/lang/invoke/MethodHandle" ∧ yX11_fresh.cls ≠ "java/lang/invoke/VarHandle" ∧ (parseMethodDescriptor yX11_fresh.desc).map (fun d => d.parameters.length) = some 1 := by decide +kernel
theorem ds_X11_looksAt : yX11_looksAt.cls ≠ "java/lang/invoke/MethodHandle" ∧ yX11_looksAt.cls ≠ "java/lang/invoke/VarHandle" ∧ (parseMethodDescriptor yX11_looksAt.desc).map (fun d => d.parameters.length) = some 2 := by decide +kernel
theorem ds_X11_takesName : yX11_takesName.cls ≠ "java/lang/invoke/MethodHandle" ∧ yX11_takesName.cls ≠ "java/lang/invoke/VarHandle" ∧ (parseMethodDescriptor yX11_takesName.desc).map (fun d => d.parameters.length) = some 2 := by decide +kernel
theorem ds_X11_readMisses : yX11_readMisses.cls ≠ "java/lang/invoke/MethodHandle" ∧ yX11_readMisses.cls ≠ "java/lang/invoke/VarHandle" ∧ (parseMethodDescriptor yX11_readMisses.desc).map (fun d => d.parameters.length) = some 0 := by decide +kernel
theorem ds_X11_line : yX11_line.cls ≠ "java/lang/invoke/MethodHandle" ∧ yX11_line.cls ≠ "java/lang/invoke/VarHandle" ∧ (parseMethodDescriptor yX11_line.desc).map (fun d => d.parameters.length) = some 0 := by decide +kernel
theorem ds_X11_strait : yX11_strait.cls ≠ "java/lang/invoke/MethodHandle" ∧ yX11_strait.cls ≠ "java/lang/invoke/VarHandle" ∧ (parseMethodDescriptor yX11_strait.desc).map (fun d => d.parameters.length) = some 0 := by decide +kernel
theorem ds_X11_fault : yX11_fault.cls ≠ "java/lang/invoke/MethodHandle" ∧ yX11_fault.cls ≠ "java/lang/invoke/VarHandle" ∧ (parseMethodDescriptor yX11_fault.desc).map (fun d => d.parameters.length) = some 0 := by decide +kernel
theorem ds_X11_isGood : yX11_isGood.cls ≠ "java/lang/invoke/MethodHandle" ∧ yX11_isGood.cls ≠ "java/lang/invoke/VarHandle" ∧ (parseMethodDescriptor yX11_isGood.desc).map (fun d => d.parameters.length) = some 1 := by decide +kernel
theorem ds_X11_isShore : yX11_isShore.cls ≠ "java/lang/invoke/MethodHandle" ∧ yX11_isShore.cls ≠ "java/lang/invoke/VarHandle" ∧ (parseMethodDescriptor yX11_isShore.desc).map (fun d => d.parameters.length) = some 1 := by decide +kernel
theorem ds_X11_isPlace : yX11_isPlace.cls ≠ "java/lang/invoke/MethodHandle" ∧ yX11_isPlace.cls ≠ "java/lang/invoke/VarHandle" ∧ (parseMethodDescriptor yX11_isPlace.desc).map (fun d => d.parameters.length) = some 2 := by decide +kernel
theorem ds_X11_isMan : yX11_isMan.cls ≠ "java/lang/invoke/MethodHandle" ∧ yX11_isMan.cls ≠ "java/lang/invoke/VarHandle" ∧ (parseMethodDescriptor yX11_isMan.desc).map (fun d => d.parameters.length) = some 1 := by decide +kernel
theorem ds_X11_isDead : yX11_isDead.cls ≠ "java/lang/invoke/MethodHandle" ∧ yX11_isDead.cls ≠ "java/lang/invoke/VarHandle" ∧ (parseMethodDescriptor yX11_isDead.desc).map (fun d => d.parameters.length) = some 1 := by decide +kernel
theorem ds_X11_cell : yX11_cell.cls ≠ "java/lang/invoke/MethodHandle" ∧ yX11_cell.cls ≠ "java/lang/invoke/VarHandle" ∧ (parseMethodDescriptor yX11_cell.desc).map (fun d => d.parameters.length) = some 2 := by decide +kernel
theorem ds_X11_lackOf : yX11_lackOf.cls ≠ "java/lang/invoke/MethodHandle" ∧ yX11_lackOf.cls ≠ "java/lang/invoke/VarHandle" ∧ (parseMethodDescriptor yX11_lackOf.desc).map (fun d => d.parameters.length) = some 2 := by decide +kernel
theorem ds_X11_isFalse : yX11_isFalse.cls ≠ "java/lang/invoke/MethodHandle" ∧ yX11_isFalse.cls ≠ "java/lang/invoke/VarHandle" ∧ (parseMethodDescriptor yX11_isFalse.desc).map (fun d => d.parameters.length) = some 2 := by decide +kernel
theorem ds_X11_good : yX11_good.cls ≠ "java/lang/invoke/MethodHandle" ∧ yX11_good.cls ≠ "java/lang/invoke/VarHandle" ∧ (parseMethodDescriptor yX11_good.desc).map (fun d => d.parameters.length) = some 3 := by decide +kernel
theorem ds_X11_crossed : yX11_crossed.cls ≠ "java/lang/invoke/MethodHandle" ∧ yX11_crossed.cls ≠ "java/lang/invoke/VarHandle" ∧ (parseMethodDescriptor yX11_crossed.desc).map (fun d => d.parameters.length) = some 2 := by decide +kernel
theorem ds_X11_areUnlike : yX11_areUnlike.cls ≠ "java/lang/invoke/MethodHandle" ∧ yX11_areUnlike.cls ≠ "java/lang/invoke/VarHandle" ∧ (parseMethodDescriptor yX11_areUnlike.desc).map (fun d => d.parameters.length) = some 2 := by decide +kernel
theorem ds_X11_doesMiss : yX11_doesMiss.cls ≠ "java/lang/invoke/MethodHandle" ∧ yX11_doesMiss.cls ≠ "java/lang/invoke/VarHandle" ∧ (parseMethodDescriptor yX11_doesMiss.desc).map (fun d => d.parameters.length) = some 2 := by decide +kernel
theorem ds_X11_missedBy : yX11_missedBy.cls ≠ "java/lang/invoke/MethodHandle" ∧ yX11_missedBy.cls ≠ "java/lang/invoke/VarHandle" ∧ (parseMethodDescriptor yX11_missedBy.desc).map (fun d => d.parameters.length) = some 1 := by decide +kernel
theorem ds_X11_missesOf : yX11_missesOf.cls ≠ "java/lang/invoke/MethodHandle" ∧ yX11_missesOf.cls ≠ "java/lang/invoke/VarHandle" ∧ (parseMethodDescriptor yX11_missesOf.desc).map (fun d => d.parameters.length) = some 1 := by decide +kernel
theorem ds_X11_man : yX11_man.cls ≠ "java/lang/invoke/MethodHandle" ∧ yX11_man.cls ≠ "java/lang/invoke/VarHandle" ∧ (parseMethodDescriptor yX11_man.desc).map (fun d => d.parameters.length) = some 2 := by decide +kernel
theorem ds_X11_apart : yX11_apart.cls ≠ "java/lang/invoke/MethodHandle" ∧ yX11_apart.cls ≠ "java/lang/invoke/VarHandle" ∧ (parseMethodDescriptor yX11_apart.desc).map (fun d => d.parameters.length) = some 2 := by decide +kernel
theorem ds_X11_menOn : yX11_menOn.cls ≠ "java/lang/invoke/MethodHandle" ∧ yX11_menOn.cls ≠ "java/lang/invoke/VarHandle" ∧ (parseMethodDescriptor yX11_menOn.desc).map (fun d => d.parameters.length) = some 1 := by decide +kernel
theorem ds_X11_now : yX11_now.cls ≠ "java/lang/invoke/MethodHandle" ∧ yX11_now.cls ≠ "java/lang/invoke/VarHandle" ∧ (parseMethodDescriptor yX11_now.desc).map (fun d => d.parameters.length) = some 1 := by decide +kernel
theorem ds_X11_goingSet : yX11_goingSet.cls ≠ "java/lang/invoke/MethodHandle" ∧ yX11_goingSet.cls ≠ "java/lang/invoke/VarHandle" ∧ (parseMethodDescriptor yX11_goingSet.desc).map (fun d => d.parameters.length) = some 0 := by decide +kernel
theorem ds_X11_goesOf : yX11_goesOf.cls ≠ "java/lang/invoke/MethodHandle" ∧ yX11_goesOf.cls ≠ "java/lang/invoke/VarHandle" ∧ (parseMethodDescriptor yX11_goesOf.desc).map (fun d => d.parameters.length) = some 1 := by decide +kernel
theorem ds_X11_eats : yX11_eats.cls ≠ "java/lang/invoke/MethodHandle" ∧ yX11_eats.cls ≠ "java/lang/invoke/VarHandle" ∧ (parseMethodDescriptor yX11_eats.desc).map (fun d => d.parameters.length) = some 1 := by decide +kernel
theorem ds_X11_day : yX11_day.cls ≠ "java/lang/invoke/MethodHandle" ∧ yX11_day.cls ≠ "java/lang/invoke/VarHandle" ∧ (parseMethodDescriptor yX11_day.desc).map (fun d => d.parameters.length) = some 0 := by decide +kernel
theorem ds_X11_goesOn : yX11_goesOn.cls ≠ "java/lang/invoke/MethodHandle" ∧ yX11_goesOn.cls ≠ "java/lang/invoke/VarHandle" ∧ (parseMethodDescriptor yX11_goesOn.desc).map (fun d => d.parameters.length) = some 1 := by decide +kernel
theorem ds_X11_whyHoard : yX11_whyHoard.cls ≠ "java/lang/invoke/MethodHandle" ∧ yX11_whyHoard.cls ≠ "java/lang/invoke/VarHandle" ∧ (parseMethodDescriptor yX11_whyHoard.desc).map (fun d => d.parameters.length) = some 2 := by decide +kernel
theorem ds_X11_whyBare : yX11_whyBare.cls ≠ "java/lang/invoke/MethodHandle" ∧ yX11_whyBare.cls ≠ "java/lang/invoke/VarHandle" ∧ (parseMethodDescriptor yX11_whyBare.desc).map (fun d => d.parameters.length) = some 2 := by decide +kernel
theorem ds_X11_hoards : yX11_hoards.cls ≠ "java/lang/invoke/MethodHandle" ∧ yX11_hoards.cls ≠ "java/lang/invoke/VarHandle" ∧ (parseMethodDescriptor yX11_hoards.desc).map (fun d => d.parameters.length) = some 2 := by decide +kernel
theorem ds_X11_keep : yX11_keep.cls ≠ "java/lang/invoke/MethodHandle" ∧ yX11_keep.cls ≠ "java/lang/invoke/VarHandle" ∧ (parseMethodDescriptor yX11_keep.desc).map (fun d => d.parameters.length) = some 0 := by decide +kernel
theorem ds_X11_hoard : yX11_hoard.cls ≠ "java/lang/invoke/MethodHandle" ∧ yX11_hoard.cls ≠ "java/lang/invoke/VarHandle" ∧ (parseMethodDescriptor yX11_hoard.desc).map (fun d => d.parameters.length) = some 3 := by decide +kernel
theorem ds_X11_bare : yX11_bare.cls ≠ "java/lang/invoke/MethodHandle" ∧ yX11_bare.cls ≠ "java/lang/invoke/VarHandle" ∧ (parseMethodDescriptor yX11_bare.desc).map (fun d => d.parameters.length) = some 3 := by decide +kernel
theorem ds_X11_waste : yX11_waste.cls ≠ "java/lang/invoke/MethodHandle" ∧ yX11_waste.cls ≠ "java/lang/invoke/VarHandle" ∧ (parseMethodDescriptor yX11_waste.desc).map (fun d => d.parameters.length) = some 3 := by decide +kernel
theorem ds_X11_die : yX11_die.cls ≠ "java/lang/invoke/MethodHandle" ∧ yX11_die.cls ≠ "java/lang/invoke/VarHandle" ∧ (parseMethodDescriptor yX11_die.desc).map (fun d => d.parameters.length) = some 1 := by decide +kernel
theorem ds_X11_days : yX11_days.cls ≠ "java/lang/invoke/MethodHandle" ∧ yX11_days.cls ≠ "java/lang/invoke/VarHandle" ∧ (parseMethodDescriptor yX11_days.desc).map (fun d => d.parameters.length) = some 1 := by decide +kernel
theorem ds_X11_undo : yX11_undo.cls ≠ "java/lang/invoke/MethodHandle" ∧ yX11_undo.cls ≠ "java/lang/invoke/VarHandle" ∧ (parseMethodDescriptor yX11_undo.desc).map (fun d => d.parameters.length) = some 0 := by decide +kernel
theorem ds_X11_tries : yX11_tries.cls ≠ "java/lang/invoke/MethodHandle" ∧ yX11_tries.cls ≠ "java/lang/invoke/VarHandle" ∧ (parseMethodDescriptor yX11_tries.desc).map (fun d => d.parameters.length) = some 0 := by decide +kernel
theorem ds_X11_back : yX11_back.cls ≠ "java/lang/invoke/MethodHandle" ∧ yX11_back.cls ≠ "java/lang/invoke/VarHandle" ∧ (parseMethodDescriptor yX11_back.desc).map (fun d => d.parameters.length) = some 0 := by decide +kernel
theorem ds_X11_lacks : yX11_lacks.cls ≠ "java/lang/invoke/MethodHandle" ∧ yX11_lacks.cls ≠ "java/lang/invoke/VarHandle" ∧ (parseMethodDescriptor yX11_lacks.desc).map (fun d => d.parameters.length) = some 1 := by decide +kernel
theorem ds_X11_falses : yX11_falses.cls ≠ "java/lang/invoke/MethodHandle" ∧ yX11_falses.cls ≠ "java/lang/invoke/VarHandle" ∧ (parseMethodDescriptor yX11_falses.desc).map (fun d => d.parameters.length) = some 1 := by decide +kernel
theorem ds_X11_going : yX11_going.cls ≠ "java/lang/invoke/MethodHandle" ∧ yX11_going.cls ≠ "java/lang/invoke/VarHandle" ∧ (parseMethodDescriptor yX11_going.desc).map (fun d => d.parameters.length) = some 0 := by decide +kernel
theorem ds_X11_goes : yX11_goes.cls ≠ "java/lang/invoke/MethodHandle" ∧ yX11_goes.cls ≠ "java/lang/invoke/VarHandle" ∧ (parseMethodDescriptor yX11_goes.desc).map (fun d => d.parameters.length) = some 1 := by decide +kernel
theorem ds_X11_crosses : yX11_crosses.cls ≠ "java/lang/invoke/MethodHandle" ∧ yX11_crosses.cls ≠ "java/lang/invoke/VarHandle" ∧ (parseMethodDescriptor yX11_crosses.desc).map (fun d => d.parameters.length) = some 1 := by decide +kernel
theorem ds_X11_comes : yX11_comes.cls ≠ "java/lang/invoke/MethodHandle" ∧ yX11_comes.cls ≠ "java/lang/invoke/VarHandle" ∧ (parseMethodDescriptor yX11_comes.desc).map (fun d => d.parameters.length) = some 2 := by decide +kernel
theorem ds_X11_without : yX11_without.cls ≠ "java/lang/invoke/MethodHandle" ∧ yX11_without.cls ≠ "java/lang/invoke/VarHandle" ∧ (parseMethodDescriptor yX11_without.desc).map (fun d => d.parameters.length) = some 4 := by decide +kernel
theorem ds_X11_meet : yX11_meet.cls ≠ "java/lang/invoke/MethodHandle" ∧ yX11_meet.cls ≠ "java/lang/invoke/VarHandle" ∧ (parseMethodDescriptor yX11_meet.desc).map (fun d => d.parameters.length) = some 2 := by decide +kernel
theorem ds_X11_loads : yX11_loads.cls ≠ "java/lang/invoke/MethodHandle" ∧ yX11_loads.cls ≠ "java/lang/invoke/VarHandle" ∧ (parseMethodDescriptor yX11_loads.desc).map (fun d => d.parameters.length) = some 1 := by decide +kernel
theorem ds_X11_which : yX11_which.cls ≠ "java/lang/invoke/MethodHandle" ∧ yX11_which.cls ≠ "java/lang/invoke/VarHandle" ∧ (parseMethodDescriptor yX11_which.desc).map (fun d => d.parameters.length) = some 0 := by decide +kernel
theorem ds_X11_lays : yX11_lays.cls ≠ "java/lang/invoke/MethodHandle" ∧ yX11_lays.cls ≠ "java/lang/invoke/VarHandle" ∧ (parseMethodDescriptor yX11_lays.desc).map (fun d => d.parameters.length) = some 1 := by decide +kernel
theorem ds_X11_areAlike : yX11_areAlike.cls ≠ "java/lang/invoke/MethodHandle" ∧ yX11_areAlike.cls ≠ "java/lang/invoke/VarHandle" ∧ (parseMethodDescriptor yX11_areAlike.desc).map (fun d => d.parameters.length) = some 2 := by decide +kernel
theorem ds_X11_settles : yX11_settles.cls ≠ "java/lang/invoke/MethodHandle" ∧ yX11_settles.cls ≠ "java/lang/invoke/VarHandle" ∧ (parseMethodDescriptor yX11_settles.desc).map (fun d => d.parameters.length) = some 0 := by decide +kernel
theorem ds_X11_hunger : yX11_hunger.cls ≠ "java/lang/invoke/MethodHandle" ∧ yX11_hunger.cls ≠ "java/lang/invoke/VarHandle" ∧ (parseMethodDescriptor yX11_hunger.desc).map (fun d => d.parameters.length) = some 3 := by decide +kernel
theorem ds_X11_prices : yX11_prices.cls ≠ "java/lang/invoke/MethodHandle" ∧ yX11_prices.cls ≠ "java/lang/invoke/VarHandle" ∧ (parseMethodDescriptor yX11_prices.desc).map (fun d => d.parameters.length) = some 0 := by decide +kernel
theorem ds_X11_price : yX11_price.cls ≠ "java/lang/invoke/MethodHandle" ∧ yX11_price.cls ≠ "java/lang/invoke/VarHandle" ∧ (parseMethodDescriptor yX11_price.desc).map (fun d => d.parameters.length) = some 2 := by decide +kernel
theorem ds_X11_dearest : yX11_dearest.cls ≠ "java/lang/invoke/MethodHandle" ∧ yX11_dearest.cls ≠ "java/lang/invoke/VarHandle" ∧ (parseMethodDescriptor yX11_dearest.desc).map (fun d => d.parameters.length) = some 0 := by decide +kernel
theorem ds_X11_rats : yX11_rats.cls ≠ "java/lang/invoke/MethodHandle" ∧ yX11_rats.cls ≠ "java/lang/invoke/VarHandle" ∧ (parseMethodDescriptor yX11_rats.desc).map (fun d => d.parameters.length) = some 0 := by decide +kernel
theorem ds_X11_hoarded : yX11_hoarded.cls ≠ "java/lang/invoke/MethodHandle" ∧ yX11_hoarded.cls ≠ "java/lang/invoke/VarHandle" ∧ (parseMethodDescriptor yX11_hoarded.desc).map (fun d => d.parameters.length) = some 1 := by decide +kernel
theorem ds_X11_draw : yX11_draw.cls ≠ "java/lang/invoke/MethodHandle" ∧ yX11_draw.cls ≠ "java/lang/invoke/VarHandle" ∧ (parseMethodDescriptor yX11_draw.desc).map (fun d => d.parameters.length) = some 1 := by decide +kernel
theorem ds_X11_drawsDay : yX11_drawsDay.cls ≠ "java/lang/invoke/MethodHandle" ∧ yX11_drawsDay.cls ≠ "java/lang/invoke/VarHandle" ∧ (parseMethodDescriptor yX11_drawsDay.desc).map (fun d => d.parameters.length) = some 0 := by decide +kernel
theorem ds_X11_draws : yX11_draws.cls ≠ "java/lang/invoke/MethodHandle" ∧ yX11_draws.cls ≠ "java/lang/invoke/VarHandle" ∧ (parseMethodDescriptor yX11_draws.desc).map (fun d => d.parameters.length) = some 2 := by decide +kernel
theorem ds_X11_drawn : yX11_drawn.cls ≠ "java/lang/invoke/MethodHandle" ∧ yX11_drawn.cls ≠ "java/lang/invoke/VarHandle" ∧ (parseMethodDescriptor yX11_drawn.desc).map (fun d => d.parameters.length) = some 2 := by decide +kernel
theorem ds_X11_odds : yX11_odds.cls ≠ "java/lang/invoke/MethodHandle" ∧ yX11_odds.cls ≠ "java/lang/invoke/VarHandle" ∧ (parseMethodDescriptor yX11_odds.desc).map (fun d => d.parameters.length) = some 3 := by decide +kernel
theorem ds_X11_logLine : yX11_logLine.cls ≠ "java/lang/invoke/MethodHandle" ∧ yX11_logLine.cls ≠ "java/lang/invoke/VarHandle" ∧ (parseMethodDescriptor yX11_logLine.desc).map (fun d => d.parameters.length) = some 0 := by decide +kernel
theorem ds_X11_does : yX11_does.cls ≠ "java/lang/invoke/MethodHandle" ∧ yX11_does.cls ≠ "java/lang/invoke/VarHandle" ∧ (parseMethodDescriptor yX11_does.desc).map (fun d => d.parameters.length) = some 4 := by decide +kernel
theorem ds_X11_log : yX11_log.cls ≠ "java/lang/invoke/MethodHandle" ∧ yX11_log.cls ≠ "java/lang/invoke/VarHandle" ∧ (parseMethodDescriptor yX11_log.desc).map (fun d => d.parameters.length) = some 1 := by decide +kernel
theorem ds_X11_logged : yX11_logged.cls ≠ "java/lang/invoke/MethodHandle" ∧ yX11_logged.cls ≠ "java/lang/invoke/VarHandle" ∧ (parseMethodDescriptor yX11_logged.desc).map (fun d => d.parameters.length) = some 1 := by decide +kernel
theorem ds_X11_code : yX11_code.cls ≠ "java/lang/invoke/MethodHandle" ∧ yX11_code.cls ≠ "java/lang/invoke/VarHandle" ∧ (parseMethodDescriptor yX11_code.desc).map (fun d => d.parameters.length) = some 3 := by decide +kernel
theorem ds_X11_joins : yX11_joins.cls ≠ "java/lang/invoke/MethodHandle" ∧ yX11_joins.cls ≠ "java/lang/invoke/VarHandle" ∧ (parseMethodDescriptor yX11_joins.desc).map (fun d => d.parameters.length) = some 1 := by decide +kernel
theorem ds_X11_nots : yX11_nots.cls ≠ "java/lang/invoke/MethodHandle" ∧ yX11_nots.cls ≠ "java/lang/invoke/VarHandle" ∧ (parseMethodDescriptor yX11_nots.desc).map (fun d => d.parameters.length) = some 0 := by decide +kernel
theorem ds_X11_leafOf : yX11_leafOf.cls ≠ "java/lang/invoke/MethodHandle" ∧ yX11_leafOf.cls ≠ "java/lang/invoke/VarHandle" ∧ (parseMethodDescriptor yX11_leafOf.desc).map (fun d => d.parameters.length) = some 0 := by decide +kernel
theorem ds_X11_operand : yX11_operand.cls ≠ "java/lang/invoke/MethodHandle" ∧ yX11_operand.cls ≠ "java/lang/invoke/VarHandle" ∧ (parseMethodDescriptor yX11_operand.desc).map (fun d => d.parameters.length) = some 0 := by decide +kernel
theorem ds_X11_behind : yX11_behind.cls ≠ "java/lang/invoke/MethodHandle" ∧ yX11_behind.cls ≠ "java/lang/invoke/VarHandle" ∧ (parseMethodDescriptor yX11_behind.desc).map (fun d => d.parameters.length) = some 0 := by decide +kernel
theorem ds_X11_sentence : yX11_sentence.cls ≠ "java/lang/invoke/MethodHandle" ∧ yX11_sentence.cls ≠ "java/lang/invoke/VarHandle" ∧ (parseMethodDescriptor yX11_sentence.desc).map (fun d => d.parameters.length) = some 0 := by decide +kernel
theorem ds_X11_isLeaf : yX11_isLeaf.cls ≠ "java/lang/invoke/MethodHandle" ∧ yX11_isLeaf.cls ≠ "java/lang/invoke/VarHandle" ∧ (parseMethodDescriptor yX11_isLeaf.desc).map (fun d => d.parameters.length) = some 4 := by decide +kernel
theorem ds_X11_isSaid : yX11_isSaid.cls ≠ "java/lang/invoke/MethodHandle" ∧ yX11_isSaid.cls ≠ "java/lang/invoke/VarHandle" ∧ (parseMethodDescriptor yX11_isSaid.desc).map (fun d => d.parameters.length) = some 1 := by decide +kernel
theorem ds_X11_said : yX11_said.cls ≠ "java/lang/invoke/MethodHandle" ∧ yX11_said.cls ≠ "java/lang/invoke/VarHandle" ∧ (parseMethodDescriptor yX11_said.desc).map (fun d => d.parameters.length) = some 1 := by decide +kernel
theorem ds_X11_image : yX11_image.cls ≠ "java/lang/invoke/MethodHandle" ∧ yX11_image.cls ≠ "java/lang/invoke/VarHandle" ∧ (parseMethodDescriptor yX11_image.desc).map (fun d => d.parameters.length) = some 1 := by decide +kernel
theorem ds_X11_restore : yX11_restore.cls ≠ "java/lang/invoke/MethodHandle" ∧ yX11_restore.cls ≠ "java/lang/invoke/VarHandle" ∧ (parseMethodDescriptor yX11_restore.desc).map (fun d => d.parameters.length) = some 1 := by decide +kernel
theorem ds_X11_count : yX11_count.cls ≠ "java/lang/invoke/MethodHandle" ∧ yX11_count.cls ≠ "java/lang/invoke/VarHandle" ∧ (parseMethodDescriptor yX11_count.desc).map (fun d => d.parameters.length) = some 1 := by decide +kernel
theorem ds_X10_man : yX10_man.cls ≠ "java/lang/invoke/MethodHandle" ∧ yX10_man.cls ≠ "java/lang/invoke/VarHandle" ∧ (parseMethodDescriptor yX10_man.desc).map (fun d => d.parameters.length) = some 2 := by decide +kernel
theorem ds_L_man : yL_man.cls ≠ "java/lang/invoke/MethodHandle" ∧ yL_man.cls ≠ "java/lang/invoke/VarHandle" ∧ (parseMethodDescriptor yL_man.desc).map (fun d => d.parameters.length) = some 4 := by decide +kernel
end
section
/-! ===== steps over this claim's words ===== -/
section AB
variable {p : Program} {l : Launch} {e : Env} {R : Room} {s : State} {m : MethodId} {args : Array Value} {below : List Frame} {meth : Method} {c : Code} {Q : State → Prop}
variable {b : ab_B} {D : va_G} {cA : Nat → ClassId} {nL : Nat} {cc : ByteArray} {pc j t : Nat} {o : ab_O} {y : MethodName} {ret : Option FieldType} {cd : Cond} {rm : Room}
theorem cx_name (C : ab_cx p l e R s m args below meth c D ab_cl cA (ab_E0 b) y cc nL ret (cd :: ab_G) rm) : meth.name = y.name := C.2.2.2.2.2.2.2.2.2.1
theorem cx_E (C : ab_cx p l e R s m args below meth c D ab_cl cA (ab_E0 b) y cc nL ret (cd :: ab_G) rm)   : ab_E0 b s := C.2.2.2.2.2.2.2.2.1
theorem cx_nest (C : ab_cx p l e R s m args below meth c D ab_cl cA (ab_E0 b) y cc nL ret (cd :: ab_G) rm) {q : String × Nat × MethodName × String} (h : q ∈ ab_En) : va_Nw (.methodLinkNest q.1 q.2.1 q.2.2.1 q.2.2.2) s := (cx_E C).1 q h
theorem ok_getf (C : ab_cx p l e R s m args below meth c D ab_cl cA (ab_E0 b) y cc nL ret (cd :: ab_G) rm) {Cn : String} {T : u_T} {N ci index k : Nat} (hin : ∀ w ∈ u_ws Cn T N, w ∈ ab_G) (hc : ab_cl[ci]? = some (Cn, T, N)) (hk : k < N) (hlink : Cond.fieldLink y.cls index (T k).1 (T k).2.1 (T k).2.2.1 ∈ ab_G) (hd : decode cc pc = .ok (.getfield index, 3)) (hj : j = pc + 3) : ab_ok p l e R s m args below meth c Q b D ab_cl cA nL o (fun i => i) pc (ab_nx j (ab_getf ci k)) :=
  ab_getf_ok C.1 C.2.1 C.2.2.2.2.2.1 C.2.2.2.2.2.2.1 C.2.2.2.2.2.2.2.1 (fun w h => gm (hin w h)) hc hk (gm hlink) hd hj
theorem ok_putf (C : ab_cx p l e R s m args below meth c D ab_cl cA (ab_E0 b) y cc nL ret (cd :: ab_G) rm) {Cn : String} {T : u_T} {N ci index k kd : Nat} (hin : ∀ w ∈ u_ws Cn T N, w ∈ ab_G) (ty0 : Nat → FieldType) (hty : ∀ k, k < N → parseFieldDescriptor (T k).2.2.1 = some (ty0 k)) (hnm : ∀ a, a < N → ∀ b, b < N → a ≠ b → (T a).2.1 ≠ (T b).2.1) (hc : ab_cl[ci]? = some (Cn, T, N)) (hk : k < N) (hlink : Cond.fieldLink y.cls index (T k).1 (T k).2.1 (T k).2.2.1 ∈ ab_G)
    (hfin : (T k).2.2.2 = false ∨ ((T k).2.2.2 = true ∧ meth.name = "<init>" ∧ (T k).1 = y.cls)) (hkd : (kd = 0 ∧ ty0 k = .int) ∨ (kd = 1 ∧ ty0 k = .long) ∨ (kd = 2 ∧ ((∃ C, ty0 k = .object C) ∨ ∃ u, ty0 k = .array u)) ∨ (kd = 3 ∧ ty0 k = .boolean)) (hd : decode cc pc = .ok (.putfield index, 3)) (hj : j = pc + 3) : ab_ok p l e R s m args below meth c Q b D ab_cl cA nL o (fun i => i) pc (ab_nx j (ab_putf ci k kd)) :=
  ab_putf_ok C.1 C.2.1 C.2.2.2.2.2.1 C.2.2.2.2.2.2.1 C.2.2.2.2.2.2.2.1 (fun w h => gm (hin w h)) ty0 hty hnm hc hk (gm hlink) hfin rfl hkd hd hj
theorem ok_iaload (C : ab_cx p l e R s m args below meth c D ab_cl cA (ab_E0 b) y cc nL ret (cd :: ab_G) rm) (hd : decode cc pc = .ok (.iaload, 1)) (hj : j = pc + 1) : ab_ok p l e R s m args below meth c Q b D ab_cl cA nL o (fun i => i) pc (ab_nx j (ab_ald 1)) := ab_iald_ok C.1 C.2.1 C.2.2.2.2.2.2.2.1 hd hj
theorem ok_baload (C : ab_cx p l e R s m args below meth c D ab_cl cA (ab_E0 b) y cc nL ret (cd :: ab_G) rm) (hd : decode cc pc = .ok (.baload, 1)) (hj : j = pc + 1) : ab_ok p l e R s m args below meth c Q b D ab_cl cA nL o (fun i => i) pc (ab_nx j (ab_ald 0)) := ab_bald_ok C.1 C.2.1 C.2.2.2.2.2.2.2.1 hd hj
theorem ok_zaload (C : ab_cx p l e R s m args below meth c D ab_cl cA (ab_E0 b) y cc nL ret (cd :: ab_G) rm) (hd : decode cc pc = .ok (.baload, 1)) (hj : j = pc + 1) : ab_ok p l e R s m args below meth c Q b D ab_cl cA nL o (fun i => i) pc (ab_nx j (ab_ald 3)) := ab_zald_ok C.1 C.2.1 C.2.2.2.2.2.2.2.1 hd hj
theorem ok_laload (C : ab_cx p l e R s m args below meth c D ab_cl cA (ab_E0 b) y cc nL ret (cd :: ab_G) rm) (hd : decode cc pc = .ok (.laload, 1)) (hj : j = pc + 1) : ab_ok p l e R s m args below meth c Q b D ab_cl cA nL o (fun i => i) pc (ab_nx j ab_lald) := ab_lald_ok C.1 C.2.1 C.2.2.2.2.2.2.2.1 hd hj
theorem ok_iastore (C : ab_cx p l e R s m args below meth c D ab_cl cA (ab_E0 b) y cc nL ret (cd :: ab_G) rm) (hd : decode cc pc = .ok (.iastore, 1)) (hj : j = pc + 1) : ab_ok p l e R s m args below meth c Q b D ab_cl cA nL o (fun i => i) pc (ab_nx j (ab_ast 1)) := ab_iast_ok C.1 C.2.1 C.2.2.2.2.2.2.2.1 hd hj
theorem ok_bastore (C : ab_cx p l e R s m args below meth c D ab_cl cA (ab_E0 b) y cc nL ret (cd :: ab_G) rm) (hd : decode cc pc = .ok (.bastore, 1)) (hj : j = pc + 1) : ab_ok p l e R s m args below meth c Q b D ab_cl cA nL o (fun i => i) pc (ab_nx j (ab_ast 0)) := ab_bast_ok C.1 C.2.1 C.2.2.2.2.2.2.2.1 hd hj
theorem ok_zastore (C : ab_cx p l e R s m args below meth c D ab_cl cA (ab_E0 b) y cc nL ret (cd :: ab_G) rm) (hd : decode cc pc = .ok (.bastore, 1)) (hj : j = pc + 1) : ab_ok p l e R s m args below meth c Q b D ab_cl cA nL o (fun i => i) pc (ab_nx j (ab_ast 3)) := ab_zast_ok C.1 C.2.1 C.2.2.2.2.2.2.2.1 hd hj
theorem ok_lastore (C : ab_cx p l e R s m args below meth c D ab_cl cA (ab_E0 b) y cc nL ret (cd :: ab_G) rm) (hd : decode cc pc = .ok (.lastore, 1)) (hj : j = pc + 1) : ab_ok p l e R s m args below meth c Q b D ab_cl cA nL o (fun i => i) pc (ab_nx j ab_last) := ab_last_ok C.1 C.2.1 C.2.2.2.2.2.2.2.1 hd hj
theorem ok_arraylength (C : ab_cx p l e R s m args below meth c D ab_cl cA (ab_E0 b) y cc nL ret (cd :: ab_G) rm) (hd : decode cc pc = .ok (.arraylength, 1)) (hj : j = pc + 1) : ab_ok p l e R s m args below meth c Q b D ab_cl cA nL o (fun i => i) pc (ab_nx j ab_alen) := ab_alen_ok C.1 C.2.1 C.2.2.2.2.2.2.2.1 hd hj
theorem ok_aaload (C : ab_cx p l e R s m args below meth c D ab_cl cA (ab_E0 b) y cc nL ret (cd :: ab_G) rm) {t0 : Nat} {Cn : String} (ht : (ab_tys cA)[t0]? = some (cA t0, .object Cn)) (hd : decode cc pc = .ok (.aaload, 1)) (hj : j = pc + 1) : ab_ok p l e R s m args below meth c Q b D ab_cl cA nL o (fun i => i) pc (ab_nx j (ab_aald t0)) := ab_aald_ok C.1 C.2.1 C.2.2.2.2.2.2.2.1 ht hd hj
theorem ok_aastore (C : ab_cx p l e R s m args below meth c D ab_cl cA (ab_E0 b) y cc nL ret (cd :: ab_G) rm) {t0 ci : Nat} {r : vw_C} (hc : ab_cl[ci]? = some r) (ht : (ab_tys cA)[t0]? = some (cA t0, .object r.1)) (hd : decode cc pc = .ok (.aastore, 1)) (hj : j = pc + 1) : ab_ok p l e R s m args below meth c Q b D ab_cl cA nL o (fun i => i) pc (ab_nx j (ab_aast t0 ci)) := ab_aast_ok C.1 C.2.1 C.2.2.2.2.2.2.2.1 ht hc hd hj
theorem cx_R (C : ab_cx p l e R s m args below meth c D ab_cl cA (ab_E0 b) y cc nL ret (cd :: ab_G) rm) : R = rm := C.2.2.2.2.2.2.2.2.2.2
theorem cx_cells (C : ab_cx p l e R s m args below meth c D ab_cl cA (ab_E0 b) y cc nL ret (cd :: ab_G) rm) : R.cells = rm.cells ∧ R.slots = rm.slots := by rw [cx_R C]; exact ⟨rfl, rfl⟩
theorem ok_newa_int (C : ab_cx p l e R s m args below meth c D ab_cl cA (ab_E0 b) y cc nL ret (cd :: ab_G) rm) (harr : Cond.arrayClass .int ∈ ab_G) (hd : decode cc pc = .ok (.newarray .int, 2)) (hj : j = pc + 2) : ab_ok p l e R s m args below meth c Q b D ab_cl cA nL o (fun i => i) pc (ab_nx j (ab_newa 1 (fun n => (n, .inl (fun _ => 0))) rm.cells rm.slots)) :=
  ab_newa_ok (ty := .int) C.1 C.2.1 C.2.2.2.2.2.1 C.2.2.2.2.2.2.2.1 (cx_cells C) rfl rfl (fun _ h => h) (gm harr) (by decide) (fun _ _ => rfl) hd hj
theorem ok_newa_byte (C : ab_cx p l e R s m args below meth c D ab_cl cA (ab_E0 b) y cc nL ret (cd :: ab_G) rm) (harr : Cond.arrayClass .byte ∈ ab_G) (hd : decode cc pc = .ok (.newarray .byte, 2)) (hj : j = pc + 2) : ab_ok p l e R s m args below meth c Q b D ab_cl cA nL o (fun i => i) pc (ab_nx j (ab_newa 0 (fun n => (n, .inl (fun _ => 0))) rm.cells rm.slots)) :=
  ab_newa_ok (ty := .byte) C.1 C.2.1 C.2.2.2.2.2.1 C.2.2.2.2.2.2.2.1 (cx_cells C) rfl rfl (fun _ h => h) (gm harr) (by decide) (fun _ _ => rfl) hd hj
theorem ok_newa_long (C : ab_cx p l e R s m args below meth c D ab_cl cA (ab_E0 b) y cc nL ret (cd :: ab_G) rm) (harr : Cond.arrayClass .long ∈ ab_G) (hd : decode cc pc = .ok (.newarray .long, 2)) (hj : j = pc + 2) : ab_ok p l e R s m args below meth c Q b D ab_cl cA nL o (fun i => i) pc (ab_nx j (ab_newa 2 (fun n => (n, .inr (.inl (fun _ => 0)))) rm.cells rm.slots)) :=
  ab_newa_ok (ty := .long) C.1 C.2.1 C.2.2.2.2.2.1 C.2.2.2.2.2.2.2.1 (cx_cells C) rfl rfl (fun _ h => h) (gm harr) (by decide) (fun _ _ => rfl) hd hj
theorem ok_newa_boolean (C : ab_cx p l e R s m args below meth c D ab_cl cA (ab_E0 b) y cc nL ret (cd :: ab_G) rm) (harr : Cond.arrayClass .boolean ∈ ab_G) (hd : decode cc pc = .ok (.newarray .boolean, 2)) (hj : j = pc + 2) : ab_ok p l e R s m args below meth c Q b D ab_cl cA nL o (fun i => i) pc (ab_nx j (ab_newa 3 (fun n => (n, .inl (fun _ => 0))) rm.cells rm.slots)) :=
  ab_newa_ok (ty := .boolean) C.1 C.2.1 C.2.2.2.2.2.1 C.2.2.2.2.2.2.2.1 (cx_cells C) rfl rfl (fun _ h => h) (gm harr) (by decide) (fun _ _ => rfl) hd hj
theorem ok_anew (C : ab_cx p l e R s m args below meth c D ab_cl cA (ab_E0 b) y cc nL ret (cd :: ab_G) rm) {t0 index : Nat} {Cn : String} (ht : (ab_tys cA)[t0]? = some (cA t0, .object Cn)) (hover : va_AO Cn s) (hclink : Cond.classLink y.cls index Cn ∈ ab_G) (hd : decode cc pc = .ok (.anewarray index, 3)) (hj : j = pc + 3) : ab_ok p l e R s m args below meth c Q b D ab_cl cA nL o (fun i => i) pc (ab_nx j (ab_newa t0 (fun n => (n, .inr (.inr (.inr (.inr (fun _ => none)))))) rm.cells rm.slots)) :=
  ab_newq_ok C.1 C.2.1 C.2.2.2.2.2.1 C.2.2.2.2.2.2.1 C.2.2.2.2.2.2.2.1 (cx_cells C) ht hover (gm hclink) hd hj
theorem ok_new (C : ab_cx p l e R s m args below meth c D ab_cl cA (ab_E0 b) y cc nL ret (cd :: ab_G) rm) {Cn : String} {T : u_T} {N ci index : Nat} {fs : List Value} (hin : ∀ w ∈ u_ws Cn T N, w ∈ ab_G) (ty : Nat → FieldType) (hty : ∀ k, k < N → parseFieldDescriptor (T k).2.2.1 = some (ty k)) (hc : ab_cl[ci]? = some (Cn, T, N)) (hcl : Cond.classLink y.cls index Cn ∈ ab_G) (hinst : Cond.instantiable Cn N ∈ ab_G) (hini : Cond.initialized Cn ∈ ab_G)
    (hfs : ∀ i, i < N → defaultValue (ty i) = vp_V (fs.map (ab_v b)) i) (hd : decode cc pc = .ok (.new index, 3)) (hj : j = pc + 3) : ab_ok p l e R s m args below meth c Q b D ab_cl cA nL o (fun i => i) pc (ab_nx j (ab_new ci N fs rm.cells rm.slots)) :=
  ab_new_ok C.1 C.2.1 C.2.2.2.2.2.1 C.2.2.2.2.2.2.1 C.2.2.2.2.2.2.2.1 (cx_cells C) (fun w h => gm (hin w h)) ty hty hc (gm hcl) (gm hinst) (gm hini) hfs hd hj
theorem ok_obj (C : ab_cx p l e R s m args below meth c D ab_cl cA (ab_E0 b) y cc nL ret (cd :: ab_G) rm) {index : Nat} (hlink : Cond.methodLink y.cls index Lib.objectInit ∈ ab_G) (hinst : Cond.instanceMethod Lib.objectInit ∈ ab_G) (hcode : Cond.code Lib.objectInit ⟨#[0xb1]⟩ 1 none ∈ ab_G)
    (hR : 1 ≤ rm.frames ∧ 20 ≤ rm.locals) (hd : decode cc pc = .ok (.invokespecial index, 3)) (hj : j = pc + 3) : ab_ok p l e R s m args below meth c Q b D ab_cl cA nL o (fun i => i) pc (ab_nx j ab_obj) :=
  ab_obj_ok C.1 C.2.1 C.2.2.1 C.2.2.2.2.2.1 C.2.2.2.2.2.2.1 (gm hlink) (gm hinst) (gm hcode) (by rw [cx_R C]; exact hR) hd hj
theorem ok_mmax (C : ab_cx p l e R s m args below meth c D ab_cl cA (ab_E0 b) y cc nL ret (cd :: ab_G) rm) {index : Nat} (hlink : Cond.methodLink y.cls index Lib.Math.max.name ∈ ab_G) (hstat : Cond.static Lib.Math.max.name ∈ ab_G) (hini : Cond.initialized "java/lang/Math" ∈ ab_G) (hcode : Cond.code Lib.Math.max.name Lib.Math.max.code 2 (some .int) ∈ ab_G)
    (hR : 1 ≤ rm.frames ∧ 21 ≤ rm.locals) (hd : decode cc pc = .ok (.invokestatic index, 3)) (hj : j = pc + 3) : ab_ok p l e R s m args below meth c Q b D ab_cl cA nL o (fun i => i) pc (ab_nx j (ab_mm ab_max rm.cells rm.slots)) := by
  have hE := cx_cells C
  have hR' : 1 ≤ R.frames ∧ 21 ≤ R.locals := by rw [cx_R C]; exact hR
  exact ab_mm_ok hj fun H locs u ls rest x z hz hc h1 h2 k => va_mmax C.1 C.2.1 (C.2.2.1.trans hz.symm) C.2.2.2.2.2.2.1 (C.2.2.2.2.2.1 _ (gm hlink)) (C.2.2.2.2.2.1 _ (gm hstat)) (C.2.2.2.2.2.1 _ (gm hini)) (C.2.2.2.2.2.1 _ (gm hcode)) hR'.1 (by omega) (by rw [hE.1]; exact h1) (by rw [hE.2]; exact h2) hd k
theorem ok_mmin (C : ab_cx p l e R s m args below meth c D ab_cl cA (ab_E0 b) y cc nL ret (cd :: ab_G) rm) {index : Nat} (hlink : Cond.methodLink y.cls index Lib.Math.min.name ∈ ab_G) (hstat : Cond.static Lib.Math.min.name ∈ ab_G) (hini : Cond.initialized "java/lang/Math" ∈ ab_G) (hcode : Cond.code Lib.Math.min.name Lib.Math.min.code 2 (some .int) ∈ ab_G)
    (hR : 1 ≤ rm.frames ∧ 21 ≤ rm.locals) (hd : decode cc pc = .ok (.invokestatic index, 3)) (hj : j = pc + 3) : ab_ok p l e R s m args below meth c Q b D ab_cl cA nL o (fun i => i) pc (ab_nx j (ab_mm ab_min rm.cells rm.slots)) := by
  have hE := cx_cells C
  have hR' : 1 ≤ R.frames ∧ 21 ≤ R.locals := by rw [cx_R C]; exact hR
  exact ab_mm_ok hj fun H locs u ls rest x z hz hc h1 h2 k => va_mmin C.1 C.2.1 (C.2.2.1.trans hz.symm) C.2.2.2.2.2.2.1 (C.2.2.2.2.2.1 _ (gm hlink)) (C.2.2.2.2.2.1 _ (gm hstat)) (C.2.2.2.2.2.1 _ (gm hini)) (C.2.2.2.2.2.1 _ (gm hcode)) hR'.1 (by omega) (by rw [hE.1]; exact h1) (by rw [hE.2]; exact h2) hd k
theorem ok_copy (C : ab_cx p l e R s m args below meth c D ab_cl cA (ab_E0 b) y cc nL ret (cd :: ab_G) rm) {index : Nat} (hlink : Cond.methodLink y.cls index arraycopyName ∈ ab_G) (hnat : Cond.native arraycopyName ∈ ab_G) (hstat : Cond.static arraycopyName ∈ ab_G) (hini : Cond.initialized "java/lang/System" ∈ ab_G)
    (hR : 1 ≤ rm.frames ∧ 8 + (nativeFrameWords "java/lang/System" "arraycopy" 5 + 11) ≤ rm.locals) (hd : decode cc pc = .ok (.invokestatic index, 3)) (hj : j = pc + 3) : ab_ok p l e R s m args below meth c Q b D ab_cl cA nL o (fun i => i) pc (ab_nx j ab_copy) :=
  ab_copy_ok C.1 C.2.1 C.2.2.1 C.2.2.2.2.2.1 C.2.2.2.2.2.2.1 C.2.2.2.2.2.2.2.1 (gm hlink) (gm hnat) (gm hstat) (gm hini) (by rw [cx_R C]; exact hR) hd hj
theorem ok_tab (C : ab_cx p l e R s m args below meth c D ab_cl cA (ab_E0 b) y cc nL ret (cd :: ab_G) rm) {dflt lo hi : Int} {offs : Array Int} {len : Nat} {ts : List Nat} {dj : Nat} (hd : decode cc pc = .ok (.tableswitch dflt lo hi offs, len)) (hdf : (pc : Int) + dflt = (dj : Int)) (hts : offs.toList.map (fun z => (pc : Int) + z) = ts.map (fun z : Nat => (z : Int))) (hhi : hi = lo + (ts.length : Int) - 1) : ab_ok p l e R s m args below meth c Q b D ab_cl cA nL o (fun i => i) pc (ab_tab lo ts dj) := ab_tab_ok C.1 C.2.1 hd hdf hts hhi
theorem ok_ret (C : ab_cx p l e R s m args below meth c D ab_cl cA (ab_E0 b) y cc nL ret (cd :: ab_G) rm) (hr : ret = some .int) (hd : decode cc pc = .ok (.ireturn, 1)) : ab_ok p l e R s m args below meth c (MQ below (ab_Qx b D ab_cl cA o) args s rm.cells rm.slots (fun q => b.1 ≤ q)) b D ab_cl cA nL o (fun i => i) pc (ab_ret rm.cells rm.slots) := ab_ret_ok C.1 C.2.1 (C.2.2.2.1.trans hr) C.2.2.2.2.1 hd
theorem ok_zret (C : ab_cx p l e R s m args below meth c D ab_cl cA (ab_E0 b) y cc nL ret (cd :: ab_G) rm) (hr : ret = some .boolean) (hd : decode cc pc = .ok (.ireturn, 1)) : ab_ok p l e R s m args below meth c (MQ below (ab_Qx b D ab_cl cA o) args s rm.cells rm.slots (fun q => b.1 ≤ q)) b D ab_cl cA nL o (fun i => i) pc (ab_zret rm.cells rm.slots) := ab_zret_ok C.1 C.2.1 (C.2.2.2.1.trans hr) C.2.2.2.2.1 hd
theorem ok_vret (C : ab_cx p l e R s m args below meth c D ab_cl cA (ab_E0 b) y cc nL ret (cd :: ab_G) rm) (hr : ret = none) (hd : decode cc pc = .ok (.return_, 1)) : ab_ok p l e R s m args below meth c (MQ below (ab_Qx b D ab_cl cA o) args s rm.cells rm.slots (fun q => b.1 ≤ q)) b D ab_cl cA nL o (fun i => i) pc (ab_vret rm.cells rm.slots) := ab_vret_ok C.1 C.2.1 (C.2.2.2.1.trans hr) C.2.2.2.2.1 hd
variable {nA mc ms maxL index : Nat} {X : List Value → ab_H → Option ab_O} {z : MethodName} {bytes : ByteArray} {rz : Option FieldType} {rc : Room}
theorem ok_callV (C : ab_cx p l e R s m args below meth c D ab_cl cA (ab_E0 b) y cc nL ret (cd :: ab_G) rm) {Cn : String} {T : u_T} {N ci n : Nat} (hM : ab_M l b D ab_cl cA (ab_E0 b) z (Cond.code z bytes maxL rz :: ab_G) rc X) (hm : rc.cells = mc ∧ rc.slots = ms) (hc : ab_cl[ci]? = some (Cn, T, N)) (hcode : Cond.code z bytes maxL rz ∈ ab_G) (hlink : Cond.methodLink y.cls index z ∈ ab_G) (hinst : Cond.instanceMethod z ∈ ab_G) (hsel : Cond.selects Cn z z ∈ ab_G) (hini : Cond.initialized z.cls ∈ ab_G)
    (hn : nA = n + 1) (hds : z.cls ≠ "java/lang/invoke/MethodHandle" ∧ z.cls ≠ "java/lang/invoke/VarHandle" ∧ (parseMethodDescriptor z.desc).map (fun d => d.parameters.length) = some n) (hrm : rc.frames + 1 ≤ rm.frames ∧ 8 + (maxL + 11) + rc.locals ≤ rm.locals) (hd : decode cc pc = .ok (.invokevirtual index, 3)) (hj : j = pc + 3) : ab_ok p l e R s m args below meth c Q b D ab_cl cA nL o (fun i => i) pc (ab_nx j (ab_callV nA ci X mc ms rm.cells rm.slots)) :=
  ab_callV_ok C.1 C.2.1 C.2.2.1 C.2.2.2.2.2.1 C.2.2.2.2.2.2.1 C.2.2.2.2.2.2.2.1 (cx_cells C) (cx_E C) (ab_E0k b) (ab_E0b b) hM hm hc (ab_good hcode) rfl (gm hlink) (gm hinst) (gm hsel) (gm hini) hn hds (by rw [cx_R C]; exact hrm) hd hj
theorem ok_callS (C : ab_cx p l e R s m args below meth c D ab_cl cA (ab_E0 b) y cc nL ret (cd :: ab_G) rm) (hM : ab_M l b D ab_cl cA (ab_E0 b) z (Cond.code z bytes maxL rz :: ab_G) rc X) (hm : rc.cells = mc ∧ rc.slots = ms) (hcode : Cond.code z bytes maxL rz ∈ ab_G) (hlink : Cond.methodLink y.cls index z ∈ ab_G) (hstat : Cond.static z ∈ ab_G) (hini : Cond.initialized z.cls ∈ ab_G)
    (hds : z.cls ≠ "java/lang/invoke/MethodHandle" ∧ z.cls ≠ "java/lang/invoke/VarHandle" ∧ (parseMethodDescriptor z.desc).map (fun d => d.parameters.length) = some nA) (hrm : rc.frames + 1 ≤ rm.frames ∧ 8 + (maxL + 11) + rc.locals ≤ rm.locals) (hd : decode cc pc = .ok (.invokestatic index, 3)) (hj : j = pc + 3) : ab_ok p l e R s m args below meth c Q b D ab_cl cA nL o (fun i => i) pc (ab_nx j (ab_call nA X mc ms rm.cells rm.slots)) :=
  ab_callS_ok C.1 C.2.1 C.2.2.1 C.2.2.2.2.2.1 C.2.2.2.2.2.2.1 C.2.2.2.2.2.2.2.1 (cx_cells C) (cx_E C) (ab_E0k b) (ab_E0b b) hM hm (ab_good hcode) rfl (gm hlink) (gm hstat) (gm hini) hds (by rw [cx_R C]; exact hrm) hd hj
theorem ok_callSN (C : ab_cx p l e R s m args below meth c D ab_cl cA (ab_E0 b) y cc nL ret (cd :: ab_G) rm) {host : String} (hM : ab_M l b D ab_cl cA (ab_E0 b) z (Cond.code z bytes maxL rz :: ab_G) rc X) (hm : rc.cells = mc ∧ rc.slots = ms) (hcode : Cond.code z bytes maxL rz ∈ ab_G) (hlink : (y.cls, index, z, host) ∈ ab_En) (hstat : Cond.static z ∈ ab_G) (hini : Cond.initialized z.cls ∈ ab_G)
    (hds : z.cls ≠ "java/lang/invoke/MethodHandle" ∧ z.cls ≠ "java/lang/invoke/VarHandle" ∧ (parseMethodDescriptor z.desc).map (fun d => d.parameters.length) = some nA) (hrm : rc.frames + 1 ≤ rm.frames ∧ 8 + (maxL + 11) + rc.locals ≤ rm.locals) (hd : decode cc pc = .ok (.invokestatic index, 3)) (hj : j = pc + 3) : ab_ok p l e R s m args below meth c Q b D ab_cl cA nL o (fun i => i) pc (ab_nx j (ab_call nA X mc ms rm.cells rm.slots)) :=
  ab_callSN_ok (host := host) C.1 C.2.1 C.2.2.1 C.2.2.2.2.2.1 C.2.2.2.2.2.2.1 C.2.2.2.2.2.2.2.1 (cx_cells C) (cx_E C) (ab_E0k b) (ab_E0b b) hM hm (ab_good hcode) rfl (cx_nest C hlink) (gm hstat) (gm hini) hds (by rw [cx_R C]; exact hrm) hd hj
theorem ok_callI (C : ab_cx p l e R s m args below meth c D ab_cl cA (ab_E0 b) y cc nL ret (cd :: ab_G) rm) (hM : ab_M l b D ab_cl cA (ab_E0 b) z (Cond.code z bytes maxL none :: ab_G) rc X) (hm : rc.cells = mc ∧ rc.slots = ms) (hX1 : ∀ v hp o2, X [v] hp = some o2 → ∃ a, v = .ref a) (hcode : Cond.code z bytes maxL none ∈ ab_G) (hlink : Cond.methodLink y.cls index z ∈ ab_G) (hinst : Cond.instanceMethod z ∈ ab_G) (hini : Cond.initialized z.cls ∈ ab_G) (hy1 : z.name = "<init>")
    (hds : z.cls ≠ "java/lang/invoke/MethodHandle" ∧ z.cls ≠ "java/lang/invoke/VarHandle" ∧ (parseMethodDescriptor z.desc).map (fun d => d.parameters.length) = some 0) (hrm : rc.frames + 1 ≤ rm.frames ∧ 8 + (maxL + 11) + rc.locals ≤ rm.locals) (hd : decode cc pc = .ok (.invokespecial index, 3)) (hj : j = pc + 3) : ab_ok p l e R s m args below meth c Q b D ab_cl cA nL o (fun i => i) pc (ab_nx j (ab_call 1 X mc ms rm.cells rm.slots)) :=
  ab_callI_ok C.1 C.2.1 C.2.2.1 C.2.2.2.2.2.1 C.2.2.2.2.2.2.1 C.2.2.2.2.2.2.2.1 (cx_cells C) (cx_E C) (ab_E0k b) (ab_E0b b) hM hX1 hm (ab_good hcode) rfl (gm hlink) (gm hinst) (gm hini) hy1 hds (by rw [cx_R C]; exact hrm) hd hj
theorem ok_callIN (C : ab_cx p l e R s m args below meth c D ab_cl cA (ab_E0 b) y cc nL ret (cd :: ab_G) rm) {host : String} (hM : ab_M l b D ab_cl cA (ab_E0 b) z (Cond.code z bytes maxL none :: ab_G) rc X) (hm : rc.cells = mc ∧ rc.slots = ms) (hX1 : ∀ v hp o2, X [v] hp = some o2 → ∃ a, v = .ref a) (hcode : Cond.code z bytes maxL none ∈ ab_G) (hlink : (y.cls, index, z, host) ∈ ab_En) (hinst : Cond.instanceMethod z ∈ ab_G) (hini : Cond.initialized z.cls ∈ ab_G) (hy1 : z.name = "<init>")
    (hds : z.cls ≠ "java/lang/invoke/MethodHandle" ∧ z.cls ≠ "java/lang/invoke/VarHandle" ∧ (parseMethodDescriptor z.desc).map (fun d => d.parameters.length) = some 0) (hrm : rc.frames + 1 ≤ rm.frames ∧ 8 + (maxL + 11) + rc.locals ≤ rm.locals) (hd : decode cc pc = .ok (.invokespecial index, 3)) (hj : j = pc + 3) : ab_ok p l e R s m args below meth c Q b D ab_cl cA nL o (fun i => i) pc (ab_nx j (ab_call 1 X mc ms rm.cells rm.slots)) :=
  ab_callIN_ok (host := host) C.1 C.2.1 C.2.2.1 C.2.2.2.2.2.1 C.2.2.2.2.2.2.1 C.2.2.2.2.2.2.2.1 (cx_cells C) (cx_E C) (ab_E0k b) (ab_E0b b) hM hX1 hm (ab_good hcode) rfl (cx_nest C hlink) (gm hinst) (gm hini) hy1 hds (by rw [cx_R C]; exact hrm) hd hj
end AB
theorem ab_init_ref (L : List (Nat × ab_A)) (nL : Nat) {k : Nat} {v : Value} {hp : ab_H} {o : ab_O} (h0 : ab_T L 0 = some (ab_nx 1 (ab_aload 0))) (h1 : ab_T L 1 = some (ab_nx k ab_obj)) (h : ab_X (ab_T L) nL [v] hp = some o) : ∃ a, v = .ref a := by
  obtain ⟨hl, f, hr⟩ := ab_X_run h
  cases v with
  | ref a => exact ⟨a, rfl⟩
  | null =>
    exfalso
    cases f with
    | zero => cases hr
    | succ f =>
      rw [ab_run, h0] at hr
      simp only [ab_nx, ab_aload, ab_en, ab_ent, List.cons_append, List.getElem?_cons_zero] at hr
      cases f with
      | zero => cases hr
      | succ f =>
        rw [ab_run, h1] at hr
        simp only [ab_nx, ab_obj] at hr
        cases hr
  | retAddr a =>
    exfalso
    cases f with
    | zero => cases hr
    | succ f =>
      rw [ab_run, h0] at hr
      simp only [ab_nx, ab_aload, ab_en, ab_ent, List.cons_append, List.getElem?_cons_zero] at hr
      cases f with
      | zero => cases hr
      | succ f =>
        rw [ab_run, h1] at hr
        simp only [ab_nx, ab_obj] at hr
        cases hr
  | _ =>
    exfalso
    cases f with
    | zero => cases hr
    | succ f =>
      rw [ab_run, h0] at hr
      simp only [ab_nx, ab_aload, ab_en, ab_ent, List.cons_append, List.getElem?_cons_zero] at hr
      cases hr
/-- the steps with a number of turns: a function that can be counted out -/
def ab_Y (L : List (Nat × ab_A)) (nL F : Nat) (as : List Value) (hp : ab_H) : Option ab_O := cond (decide ((ab_ent as).length ≤ nL)) (ab_run (ab_T L) F 0 (ab_en nL as, [], (0, 0), hp)) none
theorem ab_YX {L : List (Nat × ab_A)} {nL F : Nat} {as : List Value} {hp : ab_H} {o : ab_O} (h : ab_Y L nL F as hp = some o) : ab_X (ab_T L) nL as hp = some o := by
  obtain ⟨h1, h2⟩ := ab_condN h
  exact ab_X_of (of_decide_eq_true h1) h2
theorem ab_YM {l : Launch} {b : ab_B} {D : va_G} {cl : List vw_C} {cA : Nat → ClassId} {E : State → Prop} {y : MethodName} {ws : List Cond} {rm : Room} {L : List (Nat × ab_A)} {nL F : Nat} (h : ab_M l b D cl cA E y ws rm (ab_X (ab_T L) nL)) : ab_M l b D cl cA E y ws rm (ab_Y L nL F) := fun as hp o hy => h as hp o (ab_YX hy)
end
section
-- ===== end of PART A; then your names; then what follows =====
/-! THE CLAIM OUT OF ONE WALK OF THE LAW'S BODY. Your part is whole_start (and what it stands on); all else here is the same for every law, but numbers. -/
def R_law : String := "LackFerryLaw"
def lw_P (b : Addr) (xs : List Int32) (args : Array Value) (s : State) : Prop := args = #[.ref b] ∧ s.IntsAt b xs ∧ xs.length ≤ 6 ∧ (Jvm.Cond.and given_1 narrow_1).before args s = true
def lw_Q (_ : Array Value) (s : State) (o : Outcome) (t : State) : Prop := o = .returned (some (.int 1)) ∧ Framed s o t [] 600002 7302231
def lw_Z (below : List Frame) (a : Array Value) (s : State) : State → Prop := fun t => ∃ o, t.status = .running ∧ Ended t below o ∧ lw_Q a s o t
/-- the law's own end, with 1 on the stack, nothing written that was there before, its room as the claim has it -/
theorem lw_ret {p : Program} {l : Launch} {e : Env} {s : State} {m : MethodId} {below : List Frame} {meth : Method} {c : Code} {b : Nat} (hx : p.tables.exec = Jvm.exec) (hb : c.code = code) (hr : meth.sig.returnType = ret) (hlocks : meth.locks = false) {pc : Nat} {H : Heap} {ls : Array Slot} (hdg : decode code pc = .ok (.ireturn, 1)) : W p l e room_1 s m #[Value.ref b] below meth c H [] 600002 7302231 (lw_Z below #[Value.ref b] s) (F0 m pc ls [.int 1]) := by
  intro T hT X
  obtain ⟨fs, hret, hrun, hended, hW, hframe⟩ := X.leave (v := some (.int 1)) (hlocks := hlocks) (fun h => by rw [hr] at h; cases h)
  have hmeth' : T.vm.method? m = some meth := X.method'
  refine ⟨T.setFrames fs, ?_, .returned (some (.int 1)), hrun, hended, rfl, ⟨_, rfl⟩, hW, hframe⟩
  jvm_step X.here [X.here.top, hx, hb, hdg, hmeth', hr, ret, narrow_b1]
  (try refine ⟨rfl, ?_⟩); (try refine ⟨rfl, ?_⟩)
  first | (intro acts; rw [hret _ acts rfl rfl rfl]) | rw [hret _ _ rfl rfl rfl]
  exact Steps.refl _
/-- what holds at the law's entry: the machine, the code, the tables' words (any of lw_tbl by 'hts w (by decide +kernel)'), the script of L ints xs at the cell b, what the Statement gives of the start (any of its parts by flat_of_before) -/
def lw_At (p : Program) (s : State) (m : MethodId) (meth : Method) (c : Code) (b L : Nat) (xs : Nat → Int32) : Prop :=
  p.tables.exec = Jvm.exec ∧ c.code = code ∧ meth.sig.returnType = ret ∧ c.maxLocals = 7 ∧ s.vm.findClass R_law = some m.cls ∧ (∀ w ∈ lw_tbl, w.before #[Value.ref b] s = true) ∧ va_X b L xs s s.heap ∧ b < s.heap.size ∧ meth.locks = false ∧ (Jvm.Cond.and given_1 narrow_1).before #[Value.ref b] s = true
/-! ===== the law's own steps ===== -/
theorem lw_flags {l : Launch} (h : l.flags = flags0) : l.stackTraces = false := by
  unfold Launch.stackTraces
  rw [h]
  decide +kernel
def ab_slen (n : Nat) : ab_S → Option ab_S := fun s => match s.2.1 with
  | .retAddr 0 :: st => some (s.1, .int (Int32.ofNat n) :: st, s.2.2)
  | _ => none
def ab_sld (xs : Nat → Int32) (n : Nat) : ab_S → Option ab_S := fun s => match s.2.1 with
  | .int i :: .retAddr 0 :: st => cond (ab_in i n) (some (s.1, .int (xs i.toNatClampNeg) :: st, s.2.2)) none
  | _ => none
def ab_lret : ab_A := fun s => match s.2.1 with
  | [.int x] => cond (decide (x = 1) && decide (s.2.2.1.1 ≤ 600002) && decide (s.2.2.1.2 ≤ 7302231)) (some (.inr (some (.int 1), s.2.2.2))) none
  | _ => none
section AB
variable {p : Program} {l : Launch} {e : Env} {R : Room} {s : State} {m : MethodId} {args : Array Value} {below : List Frame} {meth : Method} {c : Code} {Q : State → Prop}
variable {b : ab_B} {D : va_G} {cA : Nat → ClassId} {nL : Nat} {cc : ByteArray} {pc j t : Nat} {o : ab_O} {y : MethodName} {ret' : Option FieldType} {cd : Cond} {rm : Room}
theorem ok_slen {xs : Nat → Int32} {n bb : Nat} (C : ab_cx p l e R s m args below meth c D ab_cl cA (ab_E0 b) y cc nL ret' (cd :: ab_G) rm) (hX : va_X bb n xs s s.heap) (hb0 : b.2 0 = bb) (hb1 : b.1 = s.heap.size ∧ bb < s.heap.size) (hd : decode cc pc = .ok (.arraylength, 1)) (hj : j = pc + 1) : ab_ok p l e R s m args below meth c Q b D ab_cl cA nL o (fun i => i) pc (ab_nx j (ab_slen n)) := by
  refine ab_nx_ok (pc + 1) hj fun σ σ' h k => ?_
  obtain ⟨lo, st, r⟩ := σ
  unfold ab_slen at h
  dsimp only at h
  split at h
  · obtain rfl := Option.some.inj h
    intro H locs ls hP hz hS hl
    have hk := k H locs ls hP hz hS hl
    show W p l e R s m args below meth c H locs r.1.1 r.1.2 Q (F0 m pc ls (.ref (b.2 0) :: _))
    rw [hb0]
    exact va_slen C.1 C.2.1 hX hb1.2 (by rw [hb1.1]; omega) hS hd hk
  · cases h
theorem ok_sld {xs : Nat → Int32} {n bb : Nat} (C : ab_cx p l e R s m args below meth c D ab_cl cA (ab_E0 b) y cc nL ret' (cd :: ab_G) rm) (hX : va_X bb n xs s s.heap) (hb0 : b.2 0 = bb) (hb1 : b.1 = s.heap.size ∧ bb < s.heap.size) (hd : decode cc pc = .ok (.iaload, 1)) (hj : j = pc + 1) : ab_ok p l e R s m args below meth c Q b D ab_cl cA nL o (fun i => i) pc (ab_nx j (ab_sld xs n)) := by
  refine ab_nx_ok (pc + 1) hj fun σ σ' h k => ?_
  obtain ⟨lo, st, r⟩ := σ
  unfold ab_sld at h
  dsimp only at h
  split at h
  · obtain ⟨h1, rfl⟩ := ab_cond h
    intro H locs ls hP hz hS hl
    have hk := k H locs ls hP hz hS hl
    rename_i i st'
    show W p l e R s m args below meth c H locs r.1.1 r.1.2 Q (F0 m pc ls (.int i :: .ref (b.2 0) :: _))
    rw [hb0]
    exact va_sld C.1 C.2.1 hX hb1.2 (by rw [hb1.1]; omega) hS (ab_in_ok h1) hd hk
  · cases h
theorem ok_lret {bb : Nat} (C : ab_cx p l e room_1 s m #[Value.ref bb] below meth c D ab_cl cA (ab_E0 b) y code nL ret (cd :: ab_G) room_1) (hb1 : b.1 = s.heap.size ∧ bb < s.heap.size) (hd : decode code pc = .ok (.ireturn, 1)) : ab_ok p l e room_1 s m #[Value.ref bb] below meth c (lw_Z below #[Value.ref bb] s) b D ab_cl cA nL o (fun i => i) pc ab_lret := by
  intro σ
  obtain ⟨lo, st, u, hp⟩ := σ
  unfold ab_lret
  dsimp only
  refine ⟨fun j' σ' h1 h2 => ?_, fun h1 => ?_⟩
  · split at h1
    · obtain ⟨-, h1⟩ := ab_cond h1
      cases h1
    · cases h1
  · split at h1
    · obtain ⟨h2, h1⟩ := ab_cond h1
      obtain rfl := Sum.inr.inj h1
      simp only [Bool.and_eq_true, decide_eq_true_eq] at h2
      obtain ⟨⟨rfl, h3⟩, h4⟩ := h2
      intro H locs ls hP hz hS hl
      refine va_forget (fun q hq => by rw [← hb1.1]; exact hS.2.2 q hq) ?_
      refine W.widen h3 h4 ?_
      exact lw_ret C.1 C.2.1 C.2.2.2.1 C.2.2.2.2.1 hd
    · cases h1
theorem ok_retx (C : ab_cx p l e R s m args below meth c D ab_cl cA (ab_E0 b) y cc nL ret' (cd :: ab_G) rm) (hr : ret' = some .int) (hd : decode cc pc = .ok (.ireturn, 1)) : ab_ok p l e R s m args below meth c (vx_MQ below (ab_Qy b D ab_cl cA o) (ab_Xc b D ab_cl cA o) args s rm.cells rm.slots (fun q => b.1 ≤ q)) b D ab_cl cA nL o (fun i => i) pc (ab_ret rm.cells rm.slots) := ab_retx_ok C.1 C.2.1 (C.2.2.2.1.trans hr) C.2.2.2.2.1 hd
set_option maxRecDepth 100000 in
theorem at_good : ∀ w ∈ (ab_at "LackFerry" 190).filter goodWord, w ∈ ab_G := by
  have h : ∀ w ∈ (ab_at "LackFerry" 190).filter goodWord, w ∈ lw_tbl := by decide +kernel
  exact fun w hw => List.mem_filter.mpr ⟨h w hw, (List.mem_filter.mp hw).2⟩
set_option maxRecDepth 100000 in
theorem at_bad : ∀ w ∈ (ab_at "LackFerry" 190).filter (fun w => !goodWord w), w ∈ Cond.castable ab_NS ab_NS :: ab_Ed.map Cond.declares := by decide +kernel
set_option maxRecDepth 100000 in
theorem at_ot : ∀ w ∈ Cond.classLink "LackFerry" 186 ab_NS :: Cond.initialized ab_NS :: ab_at "LackFerry" 190, vx_ot w = true := by decide +kernel
set_option maxRecDepth 100000 in
theorem at_186 : Cond.classLink "LackFerry" 186 ab_NS ∈ ab_G := List.mem_filter.mpr ⟨by decide +kernel, rfl⟩
set_option maxRecDepth 100000 in
theorem at_ini : Cond.initialized ab_NS ∈ ab_G := List.mem_filter.mpr ⟨by decide +kernel, rfl⟩
theorem ok_thr (C : ab_cx p l e R s m args below meth c D ab_cl cA (ab_E0 b) yX10_man cc nL ret' (cd :: ab_G) ({ frames := 8, cells := 1, slots := 6, locals := 800 } : Room)) (htr : l.stackTraces = false) (hout : ∀ x ∈ c.exceptionTable.toList, False) {t is : Nat} {text : String} (hstr : vk_R "LackFerry" is text (b.2 t) s)
    (d0 : decode cc pc = .ok (.new 186, 3)) (d3 : decode cc (pc + 3) = .ok (.dup, 1)) (d4 : decode cc (pc + 4) = .ok (.ldc is, 2)) (d6 : decode cc (pc + 6) = .ok (.invokespecial 190, 3)) (d9 : decode cc (pc + 9) = .ok (.athrow, 1)) : ab_ok p l e R s m args below meth c (vx_MQ below (ab_Qy b D ab_cl cA o) (ab_Xc b D ab_cl cA o) args s 1 6 (fun q => b.1 ≤ q)) b D ab_cl cA nL o (fun i => i) pc ab_thr := by
  have hE := cx_E C
  have hG : ∀ w ∈ ab_G, w.before args s = true := fun w h => C.2.2.2.2.2.1 w (gm h)
  refine ab_thr_ok C.1 C.2.1 C.2.2.1 C.2.2.2.2.1 htr C.2.2.2.2.2.2.1 C.2.2.2.2.2.2.2.1 rfl (hG _ at_186) (hG _ at_ini) hstr (vx_hat (fun w h => hG w (at_good w h)) at_bad (vx_c (va_Nw.use rfl hE.2.2.2.1) (fun w hw => by
    obtain ⟨x, hx, rfl⟩ := List.mem_map.mp hw
    exact va_Nw.use rfl (hE.2.2.2.2.2.2.2.2 x hx)))) at_ot hE.2.2.2.2.2.2.1 hE.2.2.2.2.2.2.2.1 d0 d3 d4 d6 d9 hout ?_ ⟨Nat.le_refl _, Nat.le_refl _⟩
  rw [cx_R C]
  exact ⟨by decide, by decide, by decide, by decide⟩
theorem ok_callX (C : ab_cx p l e R s m args below meth c D ab_cl cA (ab_E0 b) y cc nL ret' (cd :: ab_G) rm) {Cn : String} {T : u_T} {N ci n i hj nA index maxL : Nat} {X : List Value → ab_H → Option ab_O} {z : MethodName} {bytes : ByteArray} {rz : Option FieldType} {rc : Room} {x : ExceptionTableEntry}
    (hM : ∀ (as : List Value) (hp : ab_H) (o : ab_O), X as hp = some o → vx_Met l z (Cond.code z bytes maxL rz :: ab_G) rc (ab_Px b D ab_cl cA (ab_E0 b) as hp) (ab_Qy b D ab_cl cA o) (ab_Xc b D ab_cl cA o) rc.cells rc.slots (fun q => b.1 ≤ q)) (htab : c.exceptionTable.toList = [x]) (hc : ab_cl[ci]? = some (Cn, T, N)) (hcode : Cond.code z bytes maxL rz ∈ ab_G) (hlink : Cond.methodLink y.cls index z ∈ ab_G) (hinst : Cond.instanceMethod z ∈ ab_G) (hsel : Cond.selects Cn z z ∈ ab_G) (hini : Cond.initialized z.cls ∈ ab_G)
    (hds : z.cls ≠ "java/lang/invoke/MethodHandle" ∧ z.cls ≠ "java/lang/invoke/VarHandle" ∧ (parseMethodDescriptor z.desc).map (fun d => d.parameters.length) = some n) (hrm : rc.frames + 1 ≤ rm.frames ∧ 8 + (maxL + 11) + rc.locals ≤ rm.locals) (hcl : Cond.classLink y.cls x.catchType ab_NS ∈ ab_G) (hd2 : decode cc x.handlerPc = .ok (.astore i, 2)) (hhj : hj = x.handlerPc + 2)
    (hd : decode cc pc = .ok (.invokevirtual index, 3)) (hjj : j = pc + 3) (hn : nA = n + 1 := by rfl) (hcov : covers x pc = true := by rfl) (h0 : x.catchType ≠ 0 := by decide) (hi : i < nL := by decide) : ab_ok p l e R s m args below meth c Q b D ab_cl cA nL o (fun i => i) pc (ab_callX j hj i nA ci X rc.cells rc.slots rm.cells rm.slots) :=
  ab_callX_ok C.1 C.2.1 C.2.2.1 C.2.2.2.2.2.1 C.2.2.2.2.2.2.1 C.2.2.2.2.2.2.2.1 (cx_cells C) (cx_E C) (ab_E0k b) (ab_E0b b) hM ⟨rfl, rfl⟩ hc (ab_good hcode) rfl (gm hlink) (gm hinst) (gm hsel) (gm hini) hn hds (by rw [cx_R C]; exact hrm) htab hcov h0 (C.2.2.2.2.2.1 _ (gm hcl)) (va_Nw.use rfl (cx_E C).2.2.2.1) hi hd2 hhj hd hjj
theorem ok_callSW (C : ab_cx p l e R s m args below meth c D ab_cl cA (ab_E0 b) y cc nL ret' (cd :: ab_G) rm) {nA mc ms maxL index : Nat} {X : List Value → ab_H → Option ab_O} {z : MethodName} {bytes : ByteArray} {rz : Option FieldType} {rc : Room} {hh : List (Nat × Nat × Nat × Nat)} (hM : ab_M l b D ab_cl cA (ab_E0 b) z (Cond.codeWith z bytes maxL rz hh :: ab_G) rc X) (hm : rc.cells = mc ∧ rc.slots = ms) (hcode : Cond.codeWith z bytes maxL rz hh ∈ ab_G) (hlink : Cond.methodLink y.cls index z ∈ ab_G) (hstat : Cond.static z ∈ ab_G) (hini : Cond.initialized z.cls ∈ ab_G)
    (hds : z.cls ≠ "java/lang/invoke/MethodHandle" ∧ z.cls ≠ "java/lang/invoke/VarHandle" ∧ (parseMethodDescriptor z.desc).map (fun d => d.parameters.length) = some nA) (hrm : rc.frames + 1 ≤ rm.frames ∧ 8 + (maxL + 11) + rc.locals ≤ rm.locals) (hd : decode cc pc = .ok (.invokestatic index, 3)) (hj : j = pc + 3) : ab_ok p l e R s m args below meth c Q b D ab_cl cA nL o (fun i => i) pc (ab_nx j (ab_call nA X mc ms rm.cells rm.slots)) := by
  refine ab_call_ok hj fun as hp o2 H locs u ls rest hlen hX h2 h3 h4 hP hz hS hl => ?_
  have hM2 := hM _ hp o2 hX
  rw [hm.1, hm.2] at hM2
  have hR := cx_cells C
  have hG : GoodIn (cd :: ab_G) (va_wsS y.cls index z (Cond.codeWith z bytes maxL rz hh :: ab_G)) := fun w hw => by
    rcases List.mem_append.mp hw with h | h
    · have hw2 : w ∈ ab_G := by
        rcases List.mem_cons.mp h with h | h
        · rw [h]; exact hlink
        · rcases List.mem_cons.mp h with h | h
          · rw [h]; exact hstat
          · rw [List.mem_singleton.mp h]; exact hini
      exact ⟨gm hw2, good_of_word (List.mem_filter.mp hw2).2⟩
    · exact ab_good hcode w h
  exact vx_runSW (As := as.map (ab_v b)) (n := nA) ⟨C.1, C.2.1, C.2.2.1, C.2.2.2.2.2.2.1, C.2.2.2.2.2.1⟩ hM2 (vx_cwSW nA C.2.2.2.2.2.1 hG rfl hm.1 hm.2 hds (by rw [cx_R C]; exact hrm)) ⟨ab_blind (ab_E0b b) _ _, fun U hU hW => ⟨rfl, by rw [hU]; exact hz, by rw [hU]; exact hP, va_K.moved hW.alike C.2.2.2.2.2.2.2.1, ab_E0k b s U hW (fun q h1 h2 => by rw [hU]; exact hS.2.1 q h1 h2) (cx_E C)⟩⟩ rfl (by simpa using hlen) hl.1 rfl (lv_room (by rw [ab_cats_v]; exact h2)) hd (by rw [hR.1, hR.2]; exact ⟨h3, h4⟩)
end AB
end
