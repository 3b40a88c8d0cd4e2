-- 01.frame.lean.txt
section
/-! ===== AN ABSTRACT MACHINE: cells by their places (place k is the address b + k), arrays as functions, methods as lists of steps; what it does, the machine does ===== -/
abbrev ab_E : Type := (Nat × vp_A) ⊕ (Nat × List Value)
abbrev ab_H : Type := Nat × (Nat → ab_E)
abbrev ab_S : Type := List (Option Value) × List Value × (Nat × Nat) × ab_H
abbrev ab_O : Type := Option Value × ab_H
abbrev ab_R : Type := Option ((Nat × ab_S) ⊕ ab_O)
abbrev ab_A : Type := ab_S → ab_R
abbrev ab_B : Type := Nat × (Nat → Nat)
/-- what a value is on the machine: '.ref k' is the cell at place k, '.retAddr i' the i-th thing that was there before -/
def ab_v (b : ab_B) : Value → Value
  | .ref k => .ref (b.1 + k)
  | .retAddr i => .ref (b.2 i)
  | v => v
def ab_a (b : ab_B) (a : vp_A) : vp_A := match a.2 with
  | .inr (.inr (.inr (.inr f))) => (a.1, .inr (.inr (.inr (.inr (fun j => (f j).map (fun k => b.1 + k))))))
  | _ => a
def ab_e (b : ab_B) (cA : Nat → ClassId) (q : ab_E) : va_E := match q with
  | .inl x => .inl (cA x.1, ab_a b x.2)
  | .inr x => .inr (x.1, x.2.map (ab_v b))
def ab_w (b : ab_B) (cA : Nat → ClassId) (hp : ab_H) : va_W := (List.range hp.1).map (fun k => (b.1 + k, ab_e b cA (hp.2 k)))
theorem ab_w_at {b : ab_B} {cA : Nat → ClassId} {hp : ab_H} {k : Nat} (hk : k < hp.1) : (ab_w b cA hp)[k]? = some (b.1 + k, ab_e b cA (hp.2 k)) := by
  simp [ab_w, List.getElem?_map, List.getElem?_range hk]
theorem ab_w_lt {b : ab_B} {cA : Nat → ClassId} {hp : ab_H} {k : Nat} {q : Nat × va_E} (h : (ab_w b cA hp)[k]? = some q) : k < hp.1 ∧ q = (b.1 + k, ab_e b cA (hp.2 k)) := by
  have hk : k < hp.1 := by
    have := (List.getElem?_eq_some_iff.mp h).1
    simpa [ab_w] using this
  refine ⟨hk, ?_⟩
  rw [ab_w_at hk] at h
  exact (Option.some.inj h).symm
theorem ab_w_D {b : ab_B} {cA : Nat → ClassId} {hp : ab_H} : va_D (fun q => b.1 ≤ q) (ab_w b cA hp) := by
  refine ⟨fun i j x y hx hy hxy => ?_, fun k q hq => ?_⟩
  · obtain ⟨-, rfl⟩ := ab_w_lt hx
    obtain ⟨-, rfl⟩ := ab_w_lt hy
    have : b.1 + i = b.1 + j := hxy
    omega
  · obtain ⟨-, rfl⟩ := ab_w_lt hq
    exact Nat.le_add_right _ _
/-- one cell anew -/
def ab_up (hp : ab_H) (k : Nat) (x : ab_E) : ab_H := (hp.1, fun j => if j = k then x else hp.2 j)
def ab_push (hp : ab_H) (x : ab_E) : ab_H := (hp.1 + 1, fun j => if j = hp.1 then x else hp.2 j)
theorem ab_w_up {b : ab_B} {cA : Nat → ClassId} {hp : ab_H} {k : Nat} {x : ab_E} {y : va_E} (hy : ab_e b cA x = y) : (ab_w b cA hp).set k (b.1 + k, y) = ab_w b cA (ab_up hp k x) := by
  subst hy
  apply List.ext_getElem?
  intro i
  by_cases hi : i < hp.1
  · rw [ab_w_at (hp := ab_up hp k x) hi]
    rw [List.getElem?_set]
    by_cases hk : k = i
    · subst hk
      simp [ab_w, hi, ab_up]
    · rw [if_neg hk, ab_w_at hi]
      simp [ab_up, Ne.symm hk]
  · have h1 : (ab_w b cA (ab_up hp k x))[i]? = none := by
      rw [List.getElem?_eq_none_iff]
      simp [ab_w, ab_up]
      omega
    rw [h1, List.getElem?_eq_none_iff]
    simp [ab_w]
    omega
theorem ab_w_push {b : ab_B} {cA : Nat → ClassId} {hp : ab_H} {x : ab_E} {y : va_E} (hy : ab_e b cA x = y) : ab_w b cA hp ++ [(b.1 + hp.1, y)] = ab_w b cA (ab_push hp x) := by
  subst hy
  simp only [ab_w, ab_push, List.range_succ, List.map_append, List.map_cons, List.map_nil]
  have h1 : (List.range hp.1).map (fun k => (b.1 + k, ab_e b cA (hp.2 k))) = (List.range hp.1).map (fun k => (b.1 + k, ab_e b cA (if k = hp.1 then x else hp.2 k))) := by
    apply List.map_congr_left
    intro k hk
    have : k ≠ hp.1 := Nat.ne_of_lt (List.mem_range.mp hk)
    simp [this]
  rw [h1]
  simp
/-- the locals: places and values -/
def ab_lp (b : ab_B) : Nat → List (Option Value) → List (Nat × Value)
  | _, [] => []
  | i, none :: r => ab_lp b (i + 1) r
  | i, some v :: r => (i, ab_v b v) :: ab_lp b (i + 1) r
theorem ab_lp_mem {b : ab_B} : ∀ (lo : List (Option Value)) (i : Nat) (q : Nat × Value), q ∈ ab_lp b i lo ↔ ∃ (k : Nat) (v : Value), lo[k]? = some (some v) ∧ q = (i + k, ab_v b v)
  | [], i, q => by simp [ab_lp]
  | none :: r, i, q => by
    rw [ab_lp, ab_lp_mem r (i + 1) q]
    constructor
    · rintro ⟨k, v, h1, h2⟩
      exact ⟨k + 1, v, by simpa using h1, by rw [h2]; congr 1; omega⟩
    · rintro ⟨k, v, h1, h2⟩
      cases k with
      | zero => simp at h1
      | succ k => exact ⟨k, v, by simpa using h1, by rw [h2]; congr 1; omega⟩
  | some w :: r, i, q => by
    rw [ab_lp, List.mem_cons, ab_lp_mem r (i + 1) q]
    constructor
    · rintro (h | ⟨k, v, h1, h2⟩)
      · exact ⟨0, w, by simp, by simpa using h⟩
      · exact ⟨k + 1, v, by simpa using h1, by rw [h2]; congr 1; omega⟩
    · rintro ⟨k, v, h1, h2⟩
      cases k with
      | zero =>
        left
        simp at h1
        subst h1
        simpa using h2
      | succ k => exact Or.inr ⟨k, v, by simpa using h1, by rw [h2]; congr 1; omega⟩
theorem ab_ld {b : ab_B} {ls : Array Slot} {nL : Nat} {lo : List (Option Value)} (h : lv_has ls nL (ab_lp b 0 lo)) {i : Nat} {v : Value} (hi : lo[i]? = some (some v)) : ls[i]? = some (.val (ab_v b v)) := by
  have := h.2.2 (i, ab_v b v) ((ab_lp_mem lo 0 _).mpr ⟨i, v, hi, by simp⟩)
  exact this
/-- the slot before i is no long's first half -/
def ab_fr (lo : List (Option Value)) (i : Nat) : Bool := match i with
  | 0 => true
  | k + 1 => match lo[k]? with
    | some (some (.long _)) => false
    | some (some (.double _)) => false
    | _ => true
theorem ab_cat2 {v : Value} (h : v.category = 2) : (∃ x, v = .long x) ∨ ∃ x, v = .double x := by
  cases v <;> first | exact Or.inl ⟨_, rfl⟩ | exact Or.inr ⟨_, rfl⟩ | cases h
theorem ab_vcat (b : ab_B) (v : Value) : (ab_v b v).category = v.category := by cases v <;> rfl
theorem ab_st1 {b : ab_B} {ls : Array Slot} {nL : Nat} {lo : List (Option Value)} {i : Nat} {v : Value} (hf : ab_fr lo i = true)
    (h : lv_has ls nL ((i, ab_v b v) :: (ab_lp b 0 lo).filter (fun q => !(q.1 == i) && !(q.1 + 1 == i && q.2.category == 2)))) : lv_has ls nL (ab_lp b 0 (lo.set i (some v))) := by
  refine ⟨h.1, h.2.1, fun q hq => h.2.2 q ?_⟩
  obtain ⟨k, w, h1, rfl⟩ := (ab_lp_mem _ 0 q).mp hq
  rw [List.getElem?_set] at h1
  by_cases hk : i = k
  · subst hk
    rw [if_pos rfl] at h1
    split at h1
    · obtain rfl := Option.some.inj (Option.some.inj h1)
      simp
    · cases h1
  · rw [if_neg hk] at h1
    refine List.mem_cons_of_mem _ (List.mem_filter.mpr ⟨(ab_lp_mem lo 0 _).mpr ⟨k, w, h1, rfl⟩, ?_⟩)
    have e1 : (0 + k == i) = false := by simp; omega
    have e2 : ((0 + k + 1 == i) && ((ab_v b w).category == 2)) = false := by
      rw [ab_vcat]
      by_cases hc : w.category = 2
      · have : ¬ (0 + k + 1 = i) := by
          intro he
          subst he
          rw [show 0 + k + 1 = k + 1 by omega] at hf
          simp only [ab_fr, h1] at hf
          rcases ab_cat2 hc with ⟨x, rfl⟩ | ⟨x, rfl⟩ <;> simp at hf
        have e3 : (0 + k + 1 == i) = false := by simpa using this
        rw [e3]; rfl
      · have e3 : (w.category == 2) = false := by simpa using hc
        rw [e3, Bool.and_false]
    show ((!(0 + k == i)) && !((0 + k + 1 == i) && ((ab_v b w).category == 2))) = true
    rw [e1, e2]; rfl
theorem ab_st2 {b : ab_B} {ls : Array Slot} {nL : Nat} {lo : List (Option Value)} {i : Nat} {v : Value} (hf : ab_fr lo i = true)
    (h : lv_has ls nL ((i, ab_v b v) :: (ab_lp b 0 lo).filter (fun q => !(q.1 == i) && (!(q.1 == i + 1) && !(q.1 + 1 == i && q.2.category == 2))))) : lv_has ls nL (ab_lp b 0 ((lo.set i (some v)).set (i + 1) none)) := by
  refine ⟨h.1, h.2.1, fun q hq => h.2.2 q ?_⟩
  obtain ⟨k, w, h1, rfl⟩ := (ab_lp_mem _ 0 q).mp hq
  rw [List.getElem?_set] at h1
  by_cases hk1 : i + 1 = k
  · subst hk1
    rw [if_pos rfl] at h1
    split at h1 <;> cases h1
  rw [if_neg hk1, List.getElem?_set] at h1
  by_cases hk : i = k
  · subst hk
    rw [if_pos rfl] at h1
    split at h1
    · obtain rfl := Option.some.inj (Option.some.inj h1)
      simp
    · cases h1
  · rw [if_neg hk] at h1
    refine List.mem_cons_of_mem _ (List.mem_filter.mpr ⟨(ab_lp_mem lo 0 _).mpr ⟨k, w, h1, rfl⟩, ?_⟩)
    have e1 : (0 + k == i) = false := by simp; omega
    have e4 : (0 + k == i + 1) = false := by simp; omega
    have e2 : ((0 + k + 1 == i) && ((ab_v b w).category == 2)) = false := by
      rw [ab_vcat]
      by_cases hc : w.category = 2
      · have : ¬ (0 + k + 1 = i) := by
          intro he
          subst he
          rw [show 0 + k + 1 = k + 1 by omega] at hf
          simp only [ab_fr, h1] at hf
          rcases ab_cat2 hc with ⟨x, rfl⟩ | ⟨x, rfl⟩ <;> simp at hf
        have e3 : (0 + k + 1 == i) = false := by simpa using this
        rw [e3]; rfl
      · have e3 : (w.category == 2) = false := by simpa using hc
        rw [e3, Bool.and_false]
    show ((!(0 + k == i)) && (!(0 + k == i + 1) && !((0 + k + 1 == i) && ((ab_v b w).category == 2)))) = true
    rw [e1, e2, e4]; rfl
/-- a method's first locals -/
def ab_ent : List Value → List (Option Value)
  | [] => []
  | v :: r => match v with
    | .long x => some (.long x) :: none :: ab_ent r
    | .double x => some (.double x) :: none :: ab_ent r
    | w => some w :: ab_ent r
def ab_en (nL : Nat) (as : List Value) : List (Option Value) := ab_ent as ++ List.replicate (nL - (ab_ent as).length) none
theorem ab_ent_len (b : ab_B) : ∀ (as : List Value), (lg_sl (as.map (ab_v b))).length = (ab_ent as).length
  | [] => rfl
  | v :: r => by
    have ih := ab_ent_len b r
    have h : ∀ (w : Value) (vs : List Value), lg_sl (w :: vs) = (if w.category = 2 then [.val w, .second] else [.val w]) ++ lg_sl vs := fun w vs => by simp [lg_sl]
    rw [List.map_cons, h, List.length_append, ih]
    cases v <;> simp [ab_ent, ab_v, Value.category] <;> omega
theorem ab_ent_in (b : ab_B) : ∀ (as : List Value) (i k : Nat) (v : Value), (ab_ent as)[k]? = some (some v) → (i + k, ab_v b v) ∈ lv_args i (as.map (ab_v b))
  | [], i, k, v, h => by simp [ab_ent] at h
  | a :: r, i, k, v, h => by
    have ih := ab_ent_in b r
    cases a with
    | long x =>
      cases k with
      | zero => simp [ab_ent] at h; subst h; simp [lv_args, ab_v]
      | succ k => cases k with
        | zero => simp [ab_ent] at h
        | succ k =>
          have h1 : (ab_ent r)[k]? = some (some v) := by simpa [ab_ent] using h
          have h2 := ih (i + 2) k v h1
          rw [show i + (k + 1 + 1) = i + 2 + k by omega]
          simp only [List.map_cons, ab_v, lv_args, Value.category]
          exact List.mem_cons_of_mem _ h2
    | double x =>
      cases k with
      | zero => simp [ab_ent] at h; subst h; simp [lv_args, ab_v]
      | succ k => cases k with
        | zero => simp [ab_ent] at h
        | succ k =>
          have h1 : (ab_ent r)[k]? = some (some v) := by simpa [ab_ent] using h
          have h2 := ih (i + 2) k v h1
          rw [show i + (k + 1 + 1) = i + 2 + k by omega]
          simp only [List.map_cons, ab_v, lv_args, Value.category]
          exact List.mem_cons_of_mem _ h2
    | _ =>
      cases k with
      | zero => simp [ab_ent] at h; subst h; simp [lv_args, ab_v]
      | succ k =>
        have h1 : (ab_ent r)[k]? = some (some v) := by simpa [ab_ent] using h
        have h2 := ih (i + 1) k v h1
        rw [show i + (k + 1) = i + 1 + k by omega]
        simp only [List.map_cons, ab_v, lv_args, Value.category]
        exact List.mem_cons_of_mem _ h2
theorem ab_en_has {b : ab_B} {as : List Value} {nL : Nat} {ls : Array Slot} (h : lv_has ls nL (lv_args 0 (as.map (ab_v b)))) : lv_has ls nL (ab_lp b 0 (ab_en nL as)) := by
  refine ⟨h.1, h.2.1, fun q hq => h.2.2 q ?_⟩
  obtain ⟨k, v, h1, rfl⟩ := (ab_lp_mem _ 0 q).mp hq
  have h2 : (ab_ent as)[k]? = some (some v) := by
    unfold ab_en at h1
    rw [List.getElem?_append] at h1
    split at h1
    · exact h1
    · rw [List.getElem?_replicate] at h1
      split at h1 <;> cases h1
  exact ab_ent_in b as 0 k v h2
/-- steps, one behind the other -/
def ab_run (T : Nat → Option ab_A) : Nat → Nat → ab_S → Option ab_O
  | 0, _, _ => none
  | f + 1, i, s => match T i with
    | none => none
    | some a => match a s with
      | none => none
      | some (.inl q) => ab_run T f q.1 q.2
      | some (.inr o) => some o
/-- the step at a place of the code -/
def ab_T (L : List (Nat × ab_A)) (i : Nat) : Option ab_A := match L with
  | [] => none
  | q :: r => cond (Nat.beq q.1 i) (some q.2) (ab_T r i)
theorem ab_T_mem : ∀ (L : List (Nat × ab_A)) (i : Nat) (a : ab_A), ab_T L i = some a → (i, a) ∈ L
  | [], _, _, h => by cases h
  | q :: r, i, a, h => by
    rw [ab_T] at h
    cases hq : Nat.beq q.1 i with
    | true =>
      rw [hq] at h
      have h1 : q.1 = i := Nat.eq_of_beq_eq_true hq
      have h2 : q.2 = a := Option.some.inj h
      rw [← h1, ← h2]
      exact List.mem_cons_self
    | false =>
      rw [hq] at h
      exact List.mem_cons_of_mem _ (ab_T_mem r i a h)
end
-- 02.steps.lean.txt
section
/-! ===== the steps, and that the machine does them ===== -/
def ab_nx (j : Nat) (f : ab_S → Option ab_S) : ab_A := fun s => match f s with
  | some t => some (.inl (j, t))
  | none => none
def ab_lit (v : Value) : ab_S → Option ab_S := fun s => some (s.1, v :: s.2.1, s.2.2)
def ab_iload (i : Nat) : ab_S → Option ab_S := fun s => match s.1[i]? with
  | some (some (.int x)) => some (s.1, .int x :: s.2.1, s.2.2)
  | _ => none
def ab_lload (i : Nat) : ab_S → Option ab_S := fun s => match s.1[i]? with
  | some (some (.long x)) => some (s.1, .long x :: s.2.1, s.2.2)
  | _ => none
def ab_aload (i : Nat) : ab_S → Option ab_S := fun s => match s.1[i]? with
  | some (some (.ref x)) => some (s.1, .ref x :: s.2.1, s.2.2)
  | some (some (.retAddr x)) => some (s.1, .retAddr x :: s.2.1, s.2.2)
  | some (some .null) => some (s.1, .null :: s.2.1, s.2.2)
  | _ => none
def ab_istore (i : Nat) : ab_S → Option ab_S := fun s => match s.2.1 with
  | .int x :: st => cond (ab_fr s.1 i) (some (s.1.set i (some (.int x)), st, s.2.2)) none
  | _ => none
def ab_lstore (i : Nat) : ab_S → Option ab_S := fun s => match s.2.1 with
  | .long x :: st => cond (ab_fr s.1 i) (some ((s.1.set i (some (.long x))).set (i + 1) none, st, s.2.2)) none
  | _ => none
def ab_astore (i : Nat) : ab_S → Option ab_S := fun s => match s.2.1 with
  | .ref x :: st => cond (ab_fr s.1 i) (some (s.1.set i (some (.ref x)), st, s.2.2)) none
  | .null :: st => cond (ab_fr s.1 i) (some (s.1.set i (some .null), st, s.2.2)) none
  | _ => none
def ab_iinc (i : Nat) (n : Int32) : ab_S → Option ab_S := fun s => match s.1[i]? with
  | some (some (.int x)) => cond (ab_fr s.1 i) (some (s.1.set i (some (.int (x + n))), s.2.1, s.2.2)) none
  | _ => none
def ab_bin (g : Int32 → Int32 → Int32) : ab_S → Option ab_S := fun s => match s.2.1 with
  | .int y :: .int x :: st => some (s.1, .int (g x y) :: st, s.2.2)
  | _ => none
def ab_irem : ab_S → Option ab_S := fun s => match s.2.1 with
  | .int y :: .int x :: st => cond (decide (y = 0)) none (some (s.1, .int (x - x / y * y) :: st, s.2.2))
  | _ => none
def ab_un (g : Int32 → Int32) : ab_S → Option ab_S := fun s => match s.2.1 with
  | .int x :: st => some (s.1, .int (g x) :: st, s.2.2)
  | _ => none
def ab_lbin (g : Int64 → Int64 → Int64) : ab_S → Option ab_S := fun s => match s.2.1 with
  | .long y :: .long x :: st => some (s.1, .long (g x y) :: st, s.2.2)
  | _ => none
def ab_lsh (g : Int64 → Int32 → Int64) : ab_S → Option ab_S := fun s => match s.2.1 with
  | .int y :: .long x :: st => some (s.1, .long (g x y) :: st, s.2.2)
  | _ => none
def ab_lcmp : ab_S → Option ab_S := fun s => match s.2.1 with
  | .long y :: .long x :: st => some (s.1, .int (lg_cmp x y) :: st, s.2.2)
  | _ => none
def ab_i2l : ab_S → Option ab_S := fun s => match s.2.1 with
  | .int x :: st => some (s.1, .long x.toInt64 :: st, s.2.2)
  | _ => none
def ab_l2i : ab_S → Option ab_S := fun s => match s.2.1 with
  | .long x :: st => some (s.1, .int x.toInt32 :: st, s.2.2)
  | _ => none
def ab_c1 : Value → Bool
  | .long _ => false
  | .double _ => false
  | _ => true
def ab_dup : ab_S → Option ab_S := fun s => match s.2.1 with
  | v :: st => cond (ab_c1 v) (some (s.1, v :: v :: st, s.2.2)) none
  | _ => none
def ab_dup2 : ab_S → Option ab_S := fun s => match s.2.1 with
  | v :: w :: st => cond (ab_c1 v && ab_c1 w) (some (s.1, v :: w :: v :: w :: st, s.2.2)) none
  | _ => none
def ab_pop : ab_S → Option ab_S := fun s => match s.2.1 with
  | v :: st => cond (ab_c1 v) (some (s.1, st, s.2.2)) none
  | _ => none
def ab_if (j t : Nat) (g : Int32 → Bool) : ab_A := fun s => match s.2.1 with
  | .int x :: st => some (.inl (cond (g x) t j, s.1, st, s.2.2))
  | _ => none
def ab_icmp (j t : Nat) (g : Int32 → Int32 → Bool) : ab_A := fun s => match s.2.1 with
  | .int y :: .int x :: st => some (.inl (cond (g x y) t j, s.1, st, s.2.2))
  | _ => none
def ab_nonnull (j t : Nat) : ab_A := fun s => match s.2.1 with
  | .ref _ :: st => some (.inl (t, s.1, st, s.2.2))
  | .null :: st => some (.inl (j, s.1, st, s.2.2))
  | _ => none
def ab_goto (t : Nat) : ab_A := fun s => some (.inl (t, s))
def ab_getf (ci k : Nat) : ab_S → Option ab_S := fun s => match s.2.1 with
  | .ref a :: st => cond (decide (a < s.2.2.2.1)) (match s.2.2.2.2 a with
    | .inr o => cond (o.1 == ci) (match o.2[k]? with
      | some v => some (s.1, v :: st, s.2.2)
      | none => none) none
    | _ => none) none
  | _ => none
/-- may a value lie in a field: 0 int, 1 long, 2 a reference, 3 boolean -/
def ab_fit (kd : Nat) (v : Value) : Bool := match v with
  | .int x => cond (kd == 0) true (cond (kd == 3) (decide (x = 0) || decide (x = 1)) false)
  | .long _ => kd == 1
  | .ref _ => kd == 2
  | .null => kd == 2
  | _ => false
def ab_putf (ci k kd : Nat) : ab_S → Option ab_S := fun s => match s.2.1 with
  | v :: .ref a :: st => cond (decide (a < s.2.2.2.1) && ab_fit kd v) (match s.2.2.2.2 a with
    | .inr o => cond (o.1 == ci && decide (k < o.2.length)) (some (s.1, st, s.2.2.1, ab_up s.2.2.2 a (.inr (ci, o.2.set k v)))) none
    | _ => none) none
  | _ => none
def ab_in (i : Int32) (n : Nat) : Bool := !(decide (i < 0)) && decide (i.toNatClampNeg < n)
/-- an element of an array of ints, bytes or booleans (the kind t: 0 byte, 1 int, 2 long, 3 boolean, 4 and on references) -/
def ab_ald (t : Nat) : ab_S → Option ab_S := fun s => match s.2.1 with
  | .int i :: .ref a :: st => cond (decide (a < s.2.2.2.1)) (match s.2.2.2.2 a with
    | .inl (t2, n, .inl f) => cond (t2 == t && ab_in i n) (some (s.1, .int (f i.toNatClampNeg) :: st, s.2.2)) none
    | _ => none) none
  | _ => none
def ab_lald : ab_S → Option ab_S := fun s => match s.2.1 with
  | .int i :: .ref a :: st => cond (decide (a < s.2.2.2.1)) (match s.2.2.2.2 a with
    | .inl (t2, n, .inr (.inl f)) => cond (t2 == 2 && ab_in i n) (some (s.1, .long (f i.toNatClampNeg) :: st, s.2.2)) none
    | _ => none) none
  | _ => none
def ab_rf (r : Option Nat) : Value := match r with
  | some a => .ref a
  | none => .null
def ab_aald (t : Nat) : ab_S → Option ab_S := fun s => match s.2.1 with
  | .int i :: .ref a :: st => cond (decide (a < s.2.2.2.1)) (match s.2.2.2.2 a with
    | .inl (t2, n, .inr (.inr (.inr (.inr f)))) => cond (t2 == t && ab_in i n) (some (s.1, ab_rf (f i.toNatClampNeg) :: st, s.2.2)) none
    | _ => none) none
  | _ => none
def ab_nar (t : Nat) (x : Int32) : Int32 := match t with
  | 0 => vp_nar .byte x
  | 3 => vp_nar .boolean x
  | _ => x
def ab_ast (t : Nat) : ab_S → Option ab_S := fun s => match s.2.1 with
  | .int x :: .int i :: .ref a :: st => cond (decide (a < s.2.2.2.1)) (match s.2.2.2.2 a with
    | .inl (t2, n, .inl f) => cond (t2 == t && ab_in i n) (some (s.1, st, s.2.2.1, ab_up s.2.2.2 a (.inl (t, n, .inl (upd f i.toNatClampNeg (ab_nar t x)))))) none
    | _ => none) none
  | _ => none
def ab_last : ab_S → Option ab_S := fun s => match s.2.1 with
  | .long x :: .int i :: .ref a :: st => cond (decide (a < s.2.2.2.1)) (match s.2.2.2.2 a with
    | .inl (t2, n, .inr (.inl f)) => cond (t2 == 2 && ab_in i n) (some (s.1, st, s.2.2.1, ab_up s.2.2.2 a (.inl (2, n, .inr (.inl (vp_updL f i.toNatClampNeg x)))))) none
    | _ => none) none
  | _ => none
/-- a reference into an array of references whose class is the ci-th -/
def ab_aast (t ci : Nat) : ab_S → Option ab_S := fun s => match s.2.1 with
  | .ref v :: .int i :: .ref a :: st => cond (decide (a < s.2.2.2.1) && decide (v < s.2.2.2.1)) (match s.2.2.2.2 a with
    | .inl (t2, n, .inr (.inr (.inr (.inr f)))) => cond (t2 == t && ab_in i n && (match s.2.2.2.2 v with
      | .inr o => o.1 == ci
      | _ => false)) (some (s.1, st, s.2.2.1, ab_up s.2.2.2 a (.inl (t, n, .inr (.inr (.inr (.inr (va_up f i.toNatClampNeg (some v))))))))) none
    | _ => none) none
  | .null :: .int i :: .ref a :: st => cond (decide (a < s.2.2.2.1)) (match s.2.2.2.2 a with
    | .inl (t2, n, .inr (.inr (.inr (.inr f)))) => cond (t2 == t && ab_in i n) (some (s.1, st, s.2.2.1, ab_up s.2.2.2 a (.inl (t, n, .inr (.inr (.inr (.inr (va_up f i.toNatClampNeg none)))))))) none
    | _ => none) none
  | _ => none
def ab_alen : ab_S → Option ab_S := fun s => match s.2.1 with
  | .ref a :: st => cond (decide (a < s.2.2.2.1)) (match s.2.2.2.2 a with
    | .inl x => cond (decide (x.1 < 6)) (some (s.1, .int (Int32.ofNat x.2.1) :: st, s.2.2)) none
    | _ => none) none
  | _ => none
/-- new array of the kind t (its blank a0 by the length), MC and MS the method's room -/
def ab_newa (t : Nat) (a0 : Nat → vp_A) (MC MS : Nat) : ab_S → Option ab_S := fun s => match s.2.1 with
  | .int n :: st => cond (!(decide (n < 0)) && decide (n.toNatClampNeg ≤ 1000000) && decide (s.2.2.1.1 + 1 ≤ MC) && decide (s.2.2.1.2 + n.toNatClampNeg ≤ MS))
      (some (s.1, .ref s.2.2.2.1 :: st, (s.2.2.1.1 + 1, s.2.2.1.2 + n.toNatClampNeg), ab_push s.2.2.2 (.inl (t, a0 n.toNatClampNeg)))) none
  | _ => none
def ab_new (ci N : Nat) (fs : List Value) (MC MS : Nat) : ab_S → Option ab_S := fun s =>
  cond (decide (s.2.2.1.1 + 1 ≤ MC) && decide (s.2.2.1.2 + N ≤ MS)) (some (s.1, .ref s.2.2.2.1 :: s.2.1, (s.2.2.1.1 + 1, s.2.2.1.2 + N), ab_push s.2.2.2 (.inr (ci, fs)))) none
def ab_cats (st : List Value) : Nat := (st.map fun v => v.category).sum
/-- Object.<init> -/
def ab_obj : ab_S → Option ab_S := fun s => match s.2.1 with
  | .ref _ :: st => cond (decide (ab_cats st ≤ 8)) (some (s.1, st, s.2.2)) none
  | _ => none
/-- a call of X with nA values, the receiver (of class ci) among them where there is one -/
def ab_call (nA : Nat) (X : List Value → ab_H → Option ab_O) (mc ms MC MS : Nat) : ab_S → Option ab_S := fun s =>
  cond (decide (nA ≤ s.2.1.length) && decide (ab_cats (s.2.1.drop nA) ≤ 8) && decide (s.2.2.1.1 + mc ≤ MC) && decide (s.2.2.1.2 + ms ≤ MS))
    (match X (s.2.1.take nA).reverse s.2.2.2 with
    | some o => some (s.1, o.1.toList ++ s.2.1.drop nA, (s.2.2.1.1 + mc, s.2.2.1.2 + ms), o.2)
    | none => none) none
def ab_rcv (ci : Nat) (as : List Value) (hp : ab_H) : Bool := match as with
  | .ref a :: _ => decide (a < hp.1) && (match hp.2 a with
    | .inr o => o.1 == ci
    | _ => false)
  | _ => false
def ab_callV (nA ci : Nat) (X : List Value → ab_H → Option ab_O) (mc ms MC MS : Nat) : ab_S → Option ab_S := fun s =>
  cond (ab_rcv ci (s.2.1.take nA).reverse s.2.2.2) (ab_call nA X mc ms MC MS s) none
def ab_ret (MC MS : Nat) : ab_A := fun s => match s.2.1 with
  | [.int x] => cond (decide (s.2.2.1.1 ≤ MC) && decide (s.2.2.1.2 ≤ MS)) (some (.inr (some (.int x), s.2.2.2))) none
  | _ => none
def ab_zret (MC MS : Nat) : ab_A := fun s => match s.2.1 with
  | [.int x] => cond (decide (s.2.2.1.1 ≤ MC) && decide (s.2.2.1.2 ≤ MS) && (decide (x = 0) || decide (x = 1))) (some (.inr (some (.int x), s.2.2.2))) none
  | _ => none
def ab_vret (MC MS : Nat) : ab_A := fun s => match s.2.1 with
  | [] => cond (decide (s.2.2.1.1 ≤ MC) && decide (s.2.2.1.2 ≤ MS)) (some (.inr (none, s.2.2.2))) none
  | _ => none
def ab_max (x y : Int32) : Int32 := if x < y then y else x
def ab_min (x y : Int32) : Int32 := if y < x then y else x
/-- Math.max, Math.min: two ints -/
def ab_mm (g : Int32 → Int32 → Int32) (MC MS : Nat) : ab_S → Option ab_S := fun s => match s.2.1 with
  | .int y :: .int x :: st => cond (decide (ab_cats st ≤ 8) && decide (s.2.2.1.1 ≤ MC) && decide (s.2.2.1.2 ≤ MS)) (some (s.1, .int (g x y) :: st, s.2.2)) none
  | _ => none
/-- System.arraycopy between two arrays of ints (kind 1) or of longs (kind 2), not one and the same -/
def ab_copy : ab_S → Option ab_S := fun s => match s.2.1 with
  | .int n :: .int dp :: .ref a :: .int sp :: .ref a0 :: st =>
    cond (decide (a < s.2.2.2.1) && decide (a0 < s.2.2.2.1) && decide (ab_cats st ≤ 8) && !(decide (sp < 0)) && !(decide (dp < 0)) && !(decide (n < 0)) && decide (s.2.2.1.1 = 0))
      (match s.2.2.2.2 a0, s.2.2.2.2 a with
      | .inl (1, n0, .inl f), .inl (1, n1, .inl g) => cond (decide (sp.toNatClampNeg + n.toNatClampNeg ≤ n0) && decide (dp.toNatClampNeg + n.toNatClampNeg ≤ n1))
          (some (s.1, st, s.2.2.1, ab_up s.2.2.2 a (.inl (1, n1, .inl (va_cpy f g sp.toNatClampNeg dp.toNatClampNeg n.toNatClampNeg))))) none
      | .inl (2, n0, .inr (.inl f)), .inl (2, n1, .inr (.inl g)) => cond (decide (sp.toNatClampNeg + n.toNatClampNeg ≤ n0) && decide (dp.toNatClampNeg + n.toNatClampNeg ≤ n1))
          (some (s.1, st, s.2.2.1, ab_up s.2.2.2 a (.inl (2, n1, .inr (.inl (va_cpy f g sp.toNatClampNeg dp.toNatClampNeg n.toNatClampNeg)))))) none
      | _, _ => none) none
  | _ => none
/-- a table's jump -/
def ab_tab (lo : Int) (ts : List Nat) (dflt : Nat) : ab_A := fun s => match s.2.1 with
  | .int x :: st => some (.inl (cond (decide (x.toInt < lo)) dflt ((ts[(x.toInt - lo).toNat]?).getD dflt), s.1, st, s.2.2))
  | _ => none
end
-- 03.sound.lean.txt
section
/-! ===== the machine does what the steps do ===== -/
def ab_W (p : Program) (l : Launch) (e : Env) (R : Room) (s : State) (m : MethodId) (args : Array Value) (below : List Frame) (meth : Method) (c : Code) (Q : State → Prop) (b : ab_B) (D : va_G) (cl : List vw_C) (cA : Nat → ClassId) (nL pc : Nat) (σ : ab_S) : Prop :=
  ∀ (H : Heap) (locs : List Loc) (ls : Array Slot), va_P D cl (ab_w b cA σ.2.2.2) H → H.size = b.1 + σ.2.2.2.1 → va_S (fun q => b.1 ≤ q) s.heap H locs → lv_has ls nL (ab_lp b 0 σ.1) → W p l e R s m args below meth c H locs σ.2.2.1.1 σ.2.2.1.2 Q (F0 m pc ls (σ.2.1.map (ab_v b)))
def ab_ok (p : Program) (l : Launch) (e : Env) (R : Room) (s : State) (m : MethodId) (args : Array Value) (below : List Frame) (meth : Method) (c : Code) (Q : State → Prop) (b : ab_B) (D : va_G) (cl : List vw_C) (cA : Nat → ClassId) (nL : Nat) (o : ab_O) (P : Nat → Nat) (pc : Nat) (a : ab_A) : Prop :=
  ∀ σ : ab_S, (∀ (j : Nat) (σ' : ab_S), a σ = some (.inl (j, σ')) → ab_W p l e R s m args below meth c Q b D cl cA nL (P j) σ' → ab_W p l e R s m args below meth c Q b D cl cA nL pc σ) ∧ (a σ = some (.inr o) → ab_W p l e R s m args below meth c Q b D cl cA nL pc σ)
section AB
variable {p : Program} {l : Launch} {e : Env} {R : Room} {s : State} {m : MethodId} {args : Array Value} {below : List Frame} {meth : Method} {c : Code} {Q : State → Prop}
variable {b : ab_B} {D : va_G} {cl : List vw_C} {cA : Nat → ClassId} {nL : Nat} {cc : ByteArray} {P : Nat → Nat} {pc j t : Nat} {o : ab_O}
theorem ab_run_ok {T : Nat → Option ab_A} (hT : ∀ (i : Nat) (a : ab_A), T i = some a → ab_ok p l e R s m args below meth c Q b D cl cA nL o P (P i) a) : ∀ (f i : Nat) (σ : ab_S), ab_run T f i σ = some o → ab_W p l e R s m args below meth c Q b D cl cA nL (P i) σ
  | 0, i, σ, h => by cases h
  | f + 1, i, σ, h => by
    rw [ab_run] at h
    split at h
    · cases h
    · rename_i a ha
      split at h
      · cases h
      · rename_i q hq
        exact (hT i a ha σ).1 q.1 q.2 hq (ab_run_ok hT f q.1 q.2 h)
      · rename_i o' ho
        obtain rfl := Option.some.inj h
        exact (hT i a ha σ).2 ho
theorem ab_nx_ok {f : ab_S → Option ab_S} (pc' : Nat) (hj : P j = pc') (h : ∀ σ σ' : ab_S, f σ = some σ' → ab_W p l e R s m args below meth c Q b D cl cA nL pc' σ' → ab_W p l e R s m args below meth c Q b D cl cA nL pc σ) : ab_ok p l e R s m args below meth c Q b D cl cA nL o P pc (ab_nx j f) := by
  intro σ
  refine ⟨fun j' σ' h1 h2 => ?_, fun h1 => ?_⟩
  · unfold ab_nx at h1
    split at h1
    · rename_i t ht
      simp only [Option.some.injEq, Sum.inl.injEq, Prod.mk.injEq] at h1
      obtain ⟨rfl, rfl⟩ := h1
      rw [hj] at h2
      exact h σ _ ht h2
    · cases h1
  · unfold ab_nx at h1
    split at h1 <;> cases h1
theorem ab_lit_ok {v : Value} {d : Nat} (hj : P j = pc + d) (row : ∀ (H : Heap) (locs : List Loc) (cells slots : Nat) (ls : Array Slot) (rest : List Value), W p l e R s m args below meth c H locs cells slots Q (F0 m (pc + d) ls (ab_v b v :: rest)) → W p l e R s m args below meth c H locs cells slots Q (F0 m pc ls rest)) : ab_ok p l e R s m args below meth c Q b D cl cA nL o P pc (ab_nx j (ab_lit v)) := by
  refine ab_nx_ok (pc + d) hj fun σ σ' h k => ?_
  obtain rfl := Option.some.inj h
  intro H locs ls hP hz hS hl
  exact row _ _ _ _ _ _ (k H locs ls hP hz hS hl)
theorem ab_iload_ok {i d : Nat} (hj : P j = pc + d) (row : ∀ (H : Heap) (locs : List Loc) (cells slots : Nat) (ls : Array Slot) (rest : List Value) (x : Int32), ls[i]? = some (.val (.int x)) → W p l e R s m args below meth c H locs cells slots Q (F0 m (pc + d) ls (.int x :: rest)) → W p l e R s m args below meth c H locs cells slots Q (F0 m pc ls rest)) : ab_ok p l e R s m args below meth c Q b D cl cA nL o P pc (ab_nx j (ab_iload i)) := by
  refine ab_nx_ok (pc + d) hj fun σ σ' h k => ?_
  unfold ab_iload at h
  split at h
  · rename_i x hx
    obtain rfl := Option.some.inj h
    intro H locs ls hP hz hS hl
    exact row _ _ _ _ _ _ x (ab_ld hl hx) (k H locs ls hP hz hS hl)
  · cases h
theorem ab_lload_ok {i d : Nat} (hj : P j = pc + d) (row : ∀ (H : Heap) (locs : List Loc) (cells slots : Nat) (ls : Array Slot) (rest : List Value) (x : Int64), ls[i]? = some (.val (.long x)) → W p l e R s m args below meth c H locs cells slots Q (F0 m (pc + d) ls (.long x :: rest)) → W p l e R s m args below meth c H locs cells slots Q (F0 m pc ls rest)) : ab_ok p l e R s m args below meth c Q b D cl cA nL o P pc (ab_nx j (ab_lload i)) := by
  refine ab_nx_ok (pc + d) hj fun σ σ' h k => ?_
  unfold ab_lload at h
  split at h
  · rename_i x hx
    obtain rfl := Option.some.inj h
    intro H locs ls hP hz hS hl
    exact row _ _ _ _ _ _ x (ab_ld hl hx) (k H locs ls hP hz hS hl)
  · cases h
theorem ab_aload_ok {i d : Nat} (hj : P j = pc + d) (row : ∀ (H : Heap) (locs : List Loc) (cells slots : Nat) (ls : Array Slot) (rest : List Value) (x : Nat), ls[i]? = some (.val (.ref x)) → W p l e R s m args below meth c H locs cells slots Q (F0 m (pc + d) ls (.ref x :: rest)) → W p l e R s m args below meth c H locs cells slots Q (F0 m pc ls rest))
    (rowN : ∀ (H : Heap) (locs : List Loc) (cells slots : Nat) (ls : Array Slot) (rest : List Value), ls[i]? = some (.val .null) → W p l e R s m args below meth c H locs cells slots Q (F0 m (pc + d) ls (.null :: rest)) → W p l e R s m args below meth c H locs cells slots Q (F0 m pc ls rest)) : ab_ok p l e R s m args below meth c Q b D cl cA nL o P pc (ab_nx j (ab_aload i)) := by
  refine ab_nx_ok (pc + d) hj fun σ σ' h k => ?_
  unfold ab_aload at h
  split at h
  · rename_i x hx
    obtain rfl := Option.some.inj h
    intro H locs ls hP hz hS hl
    exact row _ _ _ _ _ _ _ (ab_ld hl hx) (k H locs ls hP hz hS hl)
  · rename_i x hx
    obtain rfl := Option.some.inj h
    intro H locs ls hP hz hS hl
    exact row _ _ _ _ _ _ _ (ab_ld hl hx) (k H locs ls hP hz hS hl)
  · rename_i hx
    obtain rfl := Option.some.inj h
    intro H locs ls hP hz hS hl
    exact rowN _ _ _ _ _ _ (ab_ld hl hx) (k H locs ls hP hz hS hl)
  · cases h
theorem ab_istore_ok {i d : Nat} (hj : P j = pc + d) (row : ∀ (H : Heap) (locs : List Loc) (cells slots : Nat) (ls : Array Slot) (rest : List Value) (x : Int32) (lv : List (Nat × Value)), lv_has ls nL lv → (∀ ls' : Array Slot, lv_has ls' nL ((i, Value.int x) :: lv.filter (fun q => !(q.1 == i) && !(q.1 + 1 == i && q.2.category == 2))) → W p l e R s m args below meth c H locs cells slots Q (F0 m (pc + d) ls' rest)) → W p l e R s m args below meth c H locs cells slots Q (F0 m pc ls (.int x :: rest))) : ab_ok p l e R s m args below meth c Q b D cl cA nL o P pc (ab_nx j (ab_istore i)) := by
  refine ab_nx_ok (pc + d) hj fun σ σ' h k => ?_
  obtain ⟨lo, st, r⟩ := σ
  unfold ab_istore at h
  dsimp only at h
  split at h
  · rename_i x st'
    cases hf : ab_fr lo i with
    | false => rw [hf] at h; cases h
    | true =>
      rw [hf] at h
      obtain rfl := Option.some.inj h
      intro H locs ls hP hz hS hl
      exact row _ _ _ _ _ _ x _ hl fun ls' h' => k H locs ls' hP hz hS (ab_st1 hf h')
  · cases h
theorem ab_lstore_ok {i d : Nat} (hj : P j = pc + d) (row : ∀ (H : Heap) (locs : List Loc) (cells slots : Nat) (ls : Array Slot) (rest : List Value) (x : Int64) (lv : List (Nat × Value)), lv_has ls nL lv → (∀ ls' : Array Slot, lv_has ls' nL ((i, Value.long x) :: lv.filter (fun q => !(q.1 == i) && (!(q.1 == i + 1) && !(q.1 + 1 == i && q.2.category == 2)))) → W p l e R s m args below meth c H locs cells slots Q (F0 m (pc + d) ls' rest)) → W p l e R s m args below meth c H locs cells slots Q (F0 m pc ls (.long x :: rest))) : ab_ok p l e R s m args below meth c Q b D cl cA nL o P pc (ab_nx j (ab_lstore i)) := by
  refine ab_nx_ok (pc + d) hj fun σ σ' h k => ?_
  obtain ⟨lo, st, r⟩ := σ
  unfold ab_lstore at h
  dsimp only at h
  split at h
  · rename_i x st'
    cases hf : ab_fr lo i with
    | false => rw [hf] at h; cases h
    | true =>
      rw [hf] at h
      obtain rfl := Option.some.inj h
      intro H locs ls hP hz hS hl
      exact row _ _ _ _ _ _ x _ hl fun ls' h' => k H locs ls' hP hz hS (ab_st2 hf h')
  · cases h
theorem ab_astore_ok {i d : Nat} (hj : P j = pc + d) (row : ∀ (H : Heap) (locs : List Loc) (cells slots : Nat) (ls : Array Slot) (rest : List Value) (x : Nat) (lv : List (Nat × Value)), lv_has ls nL lv → (∀ ls' : Array Slot, lv_has ls' nL ((i, Value.ref x) :: lv.filter (fun q => !(q.1 == i) && !(q.1 + 1 == i && q.2.category == 2))) → W p l e R s m args below meth c H locs cells slots Q (F0 m (pc + d) ls' rest)) → W p l e R s m args below meth c H locs cells slots Q (F0 m pc ls (.ref x :: rest)))
    (rowN : ∀ (H : Heap) (locs : List Loc) (cells slots : Nat) (ls : Array Slot) (rest : List Value) (lv : List (Nat × Value)), lv_has ls nL lv → (∀ ls' : Array Slot, lv_has ls' nL ((i, Value.null) :: lv.filter (fun q => !(q.1 == i) && !(q.1 + 1 == i && q.2.category == 2))) → W p l e R s m args below meth c H locs cells slots Q (F0 m (pc + d) ls' rest)) → W p l e R s m args below meth c H locs cells slots Q (F0 m pc ls (.null :: rest))) : ab_ok p l e R s m args below meth c Q b D cl cA nL o P pc (ab_nx j (ab_astore i)) := by
  refine ab_nx_ok (pc + d) hj fun σ σ' h k => ?_
  obtain ⟨lo, st, r⟩ := σ
  unfold ab_astore at h
  dsimp only at h
  split at h
  · rename_i x st'
    cases hf : ab_fr lo i with
    | false => rw [hf] at h; cases h
    | true =>
      rw [hf] at h
      obtain rfl := Option.some.inj h
      intro H locs ls hP hz hS hl
      exact row _ _ _ _ _ _ _ _ hl fun ls' h' => k H locs ls' hP hz hS (ab_st1 (v := .ref x) hf h')
  · rename_i st'
    cases hf : ab_fr lo i with
    | false => rw [hf] at h; cases h
    | true =>
      rw [hf] at h
      obtain rfl := Option.some.inj h
      intro H locs ls hP hz hS hl
      exact rowN _ _ _ _ _ _ _ hl fun ls' h' => k H locs ls' hP hz hS (ab_st1 (v := .null) hf h')
  · cases h
theorem ab_iinc_ok {i : Nat} {n : Int} {v : Int32} (hx : p.tables.exec = Jvm.exec) (hb : c.code = cc) (hd : decode cc pc = .ok (.iinc i n, 3)) (hv : Int32.ofInt n = v) (hi : i < nL) (hj : P j = pc + 3) : ab_ok p l e R s m args below meth c Q b D cl cA nL o P pc (ab_nx j (ab_iinc i v)) := by
  subst hv
  refine ab_nx_ok (pc + 3) hj fun σ σ' h k => ?_
  obtain ⟨lo, st, r⟩ := σ
  unfold ab_iinc at h
  dsimp only at h
  split at h
  · rename_i x hlo
    cases hf : ab_fr lo i with
    | false => rw [hf] at h; cases h
    | true =>
      rw [hf] at h
      obtain rfl := Option.some.inj h
      intro H locs ls hP hz hS hl
      obtain ⟨q, hq⟩ := List.getElem?_of_mem ((ab_lp_mem (b := b) lo 0 (i, .int x)).mpr ⟨i, .int x, hlo, by simp [ab_v]⟩)
      exact lv_iinc hx hb hd hl hq rfl hi rfl fun ls' h' => k H locs ls' hP hz hS (ab_st1 (v := .int (x + Int32.ofInt n)) hf h')
  · cases h
theorem ab_bin_ok {g : Int32 → Int32 → Int32} (hj : P j = pc + 1) (row : ∀ (H : Heap) (locs : List Loc) (cells slots : Nat) (ls : Array Slot) (rest : List Value) (x y : Int32), W p l e R s m args below meth c H locs cells slots Q (F0 m (pc + 1) ls (.int (g x y) :: rest)) → W p l e R s m args below meth c H locs cells slots Q (F0 m pc ls (.int y :: .int x :: rest))) : ab_ok p l e R s m args below meth c Q b D cl cA nL o P pc (ab_nx j (ab_bin g)) := by
  refine ab_nx_ok (pc + 1) hj fun σ σ' h k => ?_
  obtain ⟨lo, st, r⟩ := σ
  unfold ab_bin at h
  dsimp only at h
  split at h
  · obtain rfl := Option.some.inj h
    intro H locs ls hP hz hS hl
    exact row _ _ _ _ _ _ _ _ (k H locs ls hP hz hS hl)
  · cases h
theorem ab_irem_ok (hx : p.tables.exec = Jvm.exec) (hb : c.code = cc) (hd : decode cc pc = .ok (.irem, 1)) (hj : P j = pc + 1) : ab_ok p l e R s m args below meth c Q b D cl cA nL o P pc (ab_nx j ab_irem) := by
  refine ab_nx_ok (pc + 1) hj fun σ σ' h k => ?_
  obtain ⟨lo, st, r⟩ := σ
  unfold ab_irem at h
  dsimp only at h
  split at h
  · rename_i y x st'
    by_cases hy : y = 0
    · rw [decide_eq_true hy] at h; cases h
    · rw [decide_eq_false hy] at h
      obtain rfl := Option.some.inj h
      intro H locs ls hP hz hS hl
      exact lv_irem hx hb hd hy (k H locs ls hP hz hS hl)
  · cases h
theorem ab_un_ok {g : Int32 → Int32} (hj : P j = pc + 1) (row : ∀ (H : Heap) (locs : List Loc) (cells slots : Nat) (ls : Array Slot) (rest : List Value) (x : Int32), W p l e R s m args below meth c H locs cells slots Q (F0 m (pc + 1) ls (.int (g x) :: rest)) → W p l e R s m args below meth c H locs cells slots Q (F0 m pc ls (.int x :: rest))) : ab_ok p l e R s m args below meth c Q b D cl cA nL o P pc (ab_nx j (ab_un g)) := by
  refine ab_nx_ok (pc + 1) hj fun σ σ' h k => ?_
  obtain ⟨lo, st, r⟩ := σ
  unfold ab_un at h
  dsimp only at h
  split at h
  · obtain rfl := Option.some.inj h
    intro H locs ls hP hz hS hl
    exact row _ _ _ _ _ _ _ (k H locs ls hP hz hS hl)
  · cases h
theorem ab_lbin_ok {g : Int64 → Int64 → Int64} (hj : P j = pc + 1) (row : ∀ (H : Heap) (locs : List Loc) (cells slots : Nat) (ls : Array Slot) (rest : List Value) (x y : Int64), W p l e R s m args below meth c H locs cells slots Q (F0 m (pc + 1) ls (.long (g x y) :: rest)) → W p l e R s m args below meth c H locs cells slots Q (F0 m pc ls (.long y :: .long x :: rest))) : ab_ok p l e R s m args below meth c Q b D cl cA nL o P pc (ab_nx j (ab_lbin g)) := by
  refine ab_nx_ok (pc + 1) hj fun σ σ' h k => ?_
  obtain ⟨lo, st, r⟩ := σ
  unfold ab_lbin at h
  dsimp only at h
  split at h
  · obtain rfl := Option.some.inj h
    intro H locs ls hP hz hS hl
    exact row _ _ _ _ _ _ _ _ (k H locs ls hP hz hS hl)
  · cases h
theorem ab_lsh_ok {g : Int64 → Int32 → Int64} (hj : P j = pc + 1) (row : ∀ (H : Heap) (locs : List Loc) (cells slots : Nat) (ls : Array Slot) (rest : List Value) (x : Int64) (y : Int32), W p l e R s m args below meth c H locs cells slots Q (F0 m (pc + 1) ls (.long (g x y) :: rest)) → W p l e R s m args below meth c H locs cells slots Q (F0 m pc ls (.int y :: .long x :: rest))) : ab_ok p l e R s m args below meth c Q b D cl cA nL o P pc (ab_nx j (ab_lsh g)) := by
  refine ab_nx_ok (pc + 1) hj fun σ σ' h k => ?_
  obtain ⟨lo, st, r⟩ := σ
  unfold ab_lsh at h
  dsimp only at h
  split at h
  · obtain rfl := Option.some.inj h
    intro H locs ls hP hz hS hl
    exact row _ _ _ _ _ _ _ _ (k H locs ls hP hz hS hl)
  · cases h
theorem ab_lcmp_ok (hx : p.tables.exec = Jvm.exec) (hb : c.code = cc) (hd : decode cc pc = .ok (.lcmp, 1)) (hj : P j = pc + 1) : ab_ok p l e R s m args below meth c Q b D cl cA nL o P pc (ab_nx j ab_lcmp) := by
  refine ab_nx_ok (pc + 1) hj fun σ σ' h k => ?_
  obtain ⟨lo, st, r⟩ := σ
  unfold ab_lcmp at h
  dsimp only at h
  split at h
  · obtain rfl := Option.some.inj h
    intro H locs ls hP hz hS hl
    exact W.lcmp hx hb hd (k H locs ls hP hz hS hl)
  · cases h
theorem ab_i2l_ok (hx : p.tables.exec = Jvm.exec) (hb : c.code = cc) (hd : decode cc pc = .ok (.i2l, 1)) (hj : P j = pc + 1) : ab_ok p l e R s m args below meth c Q b D cl cA nL o P pc (ab_nx j ab_i2l) := by
  refine ab_nx_ok (pc + 1) hj fun σ σ' h k => ?_
  obtain ⟨lo, st, r⟩ := σ
  unfold ab_i2l at h
  dsimp only at h
  split at h
  · obtain rfl := Option.some.inj h
    intro H locs ls hP hz hS hl
    exact lv_i2l hx hb hd rfl (k H locs ls hP hz hS hl)
  · cases h
theorem ab_l2i_ok (hx : p.tables.exec = Jvm.exec) (hb : c.code = cc) (hd : decode cc pc = .ok (.l2i, 1)) (hj : P j = pc + 1) : ab_ok p l e R s m args below meth c Q b D cl cA nL o P pc (ab_nx j ab_l2i) := by
  refine ab_nx_ok (pc + 1) hj fun σ σ' h k => ?_
  obtain ⟨lo, st, r⟩ := σ
  unfold ab_l2i at h
  dsimp only at h
  split at h
  · obtain rfl := Option.some.inj h
    intro H locs ls hP hz hS hl
    exact lv_l2i hx hb hd rfl (k H locs ls hP hz hS hl)
  · cases h
theorem ab_c1_ok {v : Value} (h : ab_c1 v = true) : (ab_v b v).category = 1 := by cases v <;> first | rfl | cases h
theorem ab_dup_ok (hx : p.tables.exec = Jvm.exec) (hb : c.code = cc) (hd : decode cc pc = .ok (.dup, 1)) (hj : P j = pc + 1) : ab_ok p l e R s m args below meth c Q b D cl cA nL o P pc (ab_nx j ab_dup) := by
  refine ab_nx_ok (pc + 1) hj fun σ σ' h k => ?_
  obtain ⟨lo, st, r⟩ := σ
  unfold ab_dup at h
  dsimp only at h
  split at h
  · rename_i v st'
    cases hf : ab_c1 v with
    | false => rw [hf] at h; cases h
    | true =>
      rw [hf] at h
      obtain rfl := Option.some.inj h
      intro H locs ls hP hz hS hl
      exact lv_dup hx hb hd (ab_c1_ok hf) (k H locs ls hP hz hS hl)
  · cases h
theorem ab_dup2_ok (hx : p.tables.exec = Jvm.exec) (hb : c.code = cc) (hd : decode cc pc = .ok (.dup2, 1)) (hj : P j = pc + 1) : ab_ok p l e R s m args below meth c Q b D cl cA nL o P pc (ab_nx j ab_dup2) := by
  refine ab_nx_ok (pc + 1) hj fun σ σ' h k => ?_
  obtain ⟨lo, st, r⟩ := σ
  unfold ab_dup2 at h
  dsimp only at h
  split at h
  · rename_i v w st'
    cases hf : (ab_c1 v && ab_c1 w) with
    | false => rw [hf] at h; cases h
    | true =>
      rw [hf] at h
      obtain rfl := Option.some.inj h
      rw [Bool.and_eq_true] at hf
      intro H locs ls hP hz hS hl
      exact lv_dup2_11 hx hb hd (ab_c1_ok hf.1) (ab_c1_ok hf.2) (k H locs ls hP hz hS hl)
  · cases h
theorem ab_pop_ok (hx : p.tables.exec = Jvm.exec) (hb : c.code = cc) (hd : decode cc pc = .ok (.pop, 1)) (hj : P j = pc + 1) : ab_ok p l e R s m args below meth c Q b D cl cA nL o P pc (ab_nx j ab_pop) := by
  refine ab_nx_ok (pc + 1) hj fun σ σ' h k => ?_
  obtain ⟨lo, st, r⟩ := σ
  unfold ab_pop at h
  dsimp only at h
  split at h
  · rename_i v st'
    cases hf : ab_c1 v with
    | false => rw [hf] at h; cases h
    | true =>
      rw [hf] at h
      obtain rfl := Option.some.inj h
      intro H locs ls hP hz hS hl
      exact lv_pop hx hb hd (ab_c1_ok hf) (k H locs ls hP hz hS hl)
  · cases h
theorem ab_if_ok {g : Int32 → Bool} {tg : Nat} (hj : P j = pc + 3) (ht : P t = tg) (row : ∀ (H : Heap) (locs : List Loc) (cells slots : Nat) (ls : Array Slot) (rest : List Value) (x : Int32), (g x = true → W p l e R s m args below meth c H locs cells slots Q (F0 m tg ls rest)) → (g x = false → W p l e R s m args below meth c H locs cells slots Q (F0 m (pc + 3) ls rest)) → W p l e R s m args below meth c H locs cells slots Q (F0 m pc ls (.int x :: rest))) : ab_ok p l e R s m args below meth c Q b D cl cA nL o P pc (ab_if j t g) := by
  subst ht
  intro σ
  obtain ⟨lo, st, r⟩ := σ
  unfold ab_if
  dsimp only
  refine ⟨fun j' σ' h1 h2 => ?_, fun h1 => ?_⟩
  · split at h1
    · rename_i x st'
      simp only [Option.some.injEq, Sum.inl.injEq, Prod.mk.injEq] at h1
      obtain ⟨rfl, rfl⟩ := h1
      intro H locs ls hP hz hS hl
      refine row _ _ _ _ _ _ x (fun hg => ?_) (fun hg => ?_)
      · rw [hg] at h2
        exact h2 H locs ls hP hz hS hl
      · rw [hg] at h2
        rw [← hj]
        exact h2 H locs ls hP hz hS hl
    · cases h1
  · split at h1 <;> cases h1
theorem ab_icmp_ok {g : Int32 → Int32 → Bool} {tg : Nat} (hj : P j = pc + 3) (ht : P t = tg) (row : ∀ (H : Heap) (locs : List Loc) (cells slots : Nat) (ls : Array Slot) (rest : List Value) (x y : Int32), (g x y = true → W p l e R s m args below meth c H locs cells slots Q (F0 m tg ls rest)) → (g x y = false → W p l e R s m args below meth c H locs cells slots Q (F0 m (pc + 3) ls rest)) → W p l e R s m args below meth c H locs cells slots Q (F0 m pc ls (.int y :: .int x :: rest))) : ab_ok p l e R s m args below meth c Q b D cl cA nL o P pc (ab_icmp j t g) := by
  subst ht
  intro σ
  obtain ⟨lo, st, r⟩ := σ
  unfold ab_icmp
  dsimp only
  refine ⟨fun j' σ' h1 h2 => ?_, fun h1 => ?_⟩
  · split at h1
    · rename_i y x st'
      simp only [Option.some.injEq, Sum.inl.injEq, Prod.mk.injEq] at h1
      obtain ⟨rfl, rfl⟩ := h1
      intro H locs ls hP hz hS hl
      refine row _ _ _ _ _ _ x y (fun hg => ?_) (fun hg => ?_)
      · rw [hg] at h2
        exact h2 H locs ls hP hz hS hl
      · rw [hg] at h2
        rw [← hj]
        exact h2 H locs ls hP hz hS hl
    · cases h1
  · split at h1 <;> cases h1
theorem ab_nonnull_ok {off : Int} {tg : Nat} (hx : p.tables.exec = Jvm.exec) (hb : c.code = cc) (hd : decode cc pc = .ok (.ifnonnull off, 3)) (ho : (pc : Int) + off = (tg : Int)) (hj : P j = pc + 3) (ht : P t = tg) : ab_ok p l e R s m args below meth c Q b D cl cA nL o P pc (ab_nonnull j t) := by
  subst ht
  intro σ
  obtain ⟨lo, st, r⟩ := σ
  unfold ab_nonnull
  dsimp only
  refine ⟨fun j' σ' h1 h2 => ?_, fun h1 => ?_⟩
  · split at h1
    · simp only [Option.some.injEq, Sum.inl.injEq, Prod.mk.injEq] at h1
      obtain ⟨rfl, rfl⟩ := h1
      intro H locs ls hP hz hS hl
      exact lv_ifnonnull hx hb hd ho (h2 H locs ls hP hz hS hl)
    · simp only [Option.some.injEq, Sum.inl.injEq, Prod.mk.injEq] at h1
      obtain ⟨rfl, rfl⟩ := h1
      rw [hj] at h2
      intro H locs ls hP hz hS hl
      exact lv_ifnonnullN hx hb hd (h2 H locs ls hP hz hS hl)
    · cases h1
  · split at h1 <;> cases h1
theorem ab_goto_ok {off : Int} {tg : Nat} (hx : p.tables.exec = Jvm.exec) (hb : c.code = cc) (hd : decode cc pc = .ok (.goto off, 3)) (ho : (pc : Int) + off = (tg : Int)) (ht : P t = tg) : ab_ok p l e R s m args below meth c Q b D cl cA nL o P pc (ab_goto t) := by
  subst ht
  intro σ
  refine ⟨fun j' σ' h1 h2 => ?_, fun h1 => by cases h1⟩
  simp only [ab_goto, Option.some.injEq, Sum.inl.injEq, Prod.mk.injEq] at h1
  obtain ⟨rfl, rfl⟩ := h1
  intro H locs ls hP hz hS hl
  exact lv_goto hx hb hd ho (h2 H locs ls hP hz hS hl)
end AB
end
-- 04.heap.lean.txt
section
/-! ===== steps at the heap ===== -/
def ab_tys (cA : Nat → ClassId) : List (ClassId × FieldType) := [(cA 0, .byte), (cA 1, .int), (cA 2, .long), (cA 3, .boolean), (cA 4, .object "LackFerry$Image"), (cA 5, .object "LackFerry$Shores")]
theorem ab_in_ok {i : Int32} {n : Nat} (h : ab_in i n = true) : vp_in i n := by
  simp only [ab_in, Bool.and_eq_true, Bool.not_eq_true', decide_eq_false_iff_not, decide_eq_true_eq] at h
  exact fun q => q.elim h.1 (fun q => Nat.not_le.mpr h.2 q)
theorem ab_cond {α : Type} {x : Bool} {a : α} {y : α} (h : cond x (some a) none = some y) : x = true ∧ a = y := by
  cases x with
  | false => cases h
  | true => exact ⟨rfl, Option.some.inj h⟩
theorem ab_condN {α : Type} {x : Bool} {a : Option α} {y : α} (h : cond x a none = some y) : x = true ∧ a = some y := by
  cases x with
  | false => cases h
  | true => exact ⟨rfl, h⟩
section AB
variable {p : Program} {l : Launch} {e : Env} {R : Room} {s : State} {m : MethodId} {args : Array Value} {below : List Frame} {meth : Method} {c : Code} {Q : State → Prop}
variable {b : ab_B} {D : va_G} {cl : List vw_C} {cA : Nat → ClassId} {nL : Nat} {cc : ByteArray} {P : Nat → Nat} {pc j t : Nat} {o : ab_O}
theorem ab_set {hp : ab_H} {k i : Nat} {x : ab_E} {y : va_E} {H H1 : Heap} {locs : List Loc} (hP : va_P D cl (ab_w b cA hp) H) (hz : H.size = b.1 + hp.1) (hS : va_S (fun q => b.1 ≤ q) s.heap H locs) (hk : k < hp.1) (hy : ab_e b cA x = y)
    (he : va_at D cl (b.1 + k, y) H1) (z : H1.size = H.size) (oq : ∀ q : Nat, q ≠ b.1 + k → H1[q]? = H[q]?) : va_P D cl (ab_w b cA (ab_up hp k x)) H1 ∧ H1.size = b.1 + hp.1 ∧ va_S (fun q => b.1 ≤ q) s.heap H1 (locs ++ [⟨b.1 + k, i⟩]) := by
  refine ⟨?_, z.trans hz, hS.put z oq (Nat.le_add_right _ _)⟩
  rw [← ab_w_up hy]
  exact hP.set (A := fun q => b.1 ≤ q) ab_w_D (ab_w_at hk) he oq
theorem ab_getf_ok {own C : String} {T : u_T} {N ci index k : Nat} {Ts : List Cond} {tys : List (ClassId × FieldType)} (hx : p.tables.exec = Jvm.exec) (hb : c.code = cc) (hts : ∀ w ∈ Ts, w.before args s = true) (hown : s.vm.findClass own = some m.cls) (hK : va_K D cl tys s)
    (hin : ∀ w ∈ u_ws C T N, w ∈ Ts) (hc : cl[ci]? = some (C, T, N)) (hk : k < N) (hlink : Cond.fieldLink own index (T k).1 (T k).2.1 (T k).2.2.1 ∈ Ts) (hd : decode cc pc = .ok (.getfield index, 3)) (hj : P j = pc + 3) : ab_ok p l e R s m args below meth c Q b D cl cA nL o P pc (ab_nx j (ab_getf ci k)) := by
  refine ab_nx_ok (pc + 3) hj fun σ σ' h kk => ?_
  obtain ⟨lo, st, u, hp⟩ := σ
  unfold ab_getf at h
  dsimp only at h
  split at h
  · rename_i a st'
    obtain ⟨h1, h⟩ := ab_condN h
    have ha := of_decide_eq_true h1
    split at h
    · rename_i q hq
      obtain ⟨h2, h⟩ := ab_condN h
      have hci : q.1 = ci := by simpa using h2
      split at h
      · rename_i v hv
        obtain rfl := Option.some.inj h
        intro H locs ls hP hz hS hl
        have he : (ab_w b cA hp)[a]? = some (b.1 + a, .inr (ci, q.2.map (ab_v b))) := by rw [ab_w_at ha, hq, ← hci]; rfl
        exact va_get (v := ab_v b v) hx hb hts hin hown hK hP a he hc k hk (hts _ hlink) (fun _ h9 => h9) (by rw [List.getElem?_map, hv]; rfl) hd (kk H locs ls hP hz hS hl)
      · cases h
    · cases h
  · cases h
theorem ab_fit_ok {kd : Nat} {v : Value} {ty : FieldType} (h : ab_fit kd v = true) (hk : (kd = 0 ∧ ty = .int) ∨ (kd = 1 ∧ ty = .long) ∨ (kd = 2 ∧ ((∃ C, ty = .object C) ∨ ∃ u, ty = .array u)) ∨ (kd = 3 ∧ ty = .boolean)) : narrow ty (ab_v b v) = ab_v b v ∧ fits ty (ab_v b v) = true := by
  rcases hk with ⟨rfl, rfl⟩ | ⟨rfl, rfl⟩ | ⟨rfl, hk⟩ | ⟨rfl, rfl⟩
  · cases v <;> first | exact ⟨rfl, rfl⟩ | cases h
  · cases v <;> first | exact ⟨rfl, rfl⟩ | cases h
  · rcases hk with ⟨C, rfl⟩ | ⟨u, rfl⟩ <;> cases v <;> first | exact ⟨rfl, rfl⟩ | cases h
  · cases v with
    | int x =>
      have h' : (decide (x = 0) || decide (x = 1)) = true := h
      rw [Bool.or_eq_true, decide_eq_true_eq, decide_eq_true_eq] at h'
      rcases h' with rfl | rfl
      · exact ⟨(by decide : narrow .boolean (.int 0) = .int 0), (by decide : fits .boolean (.int 0) = true)⟩
      · exact ⟨(by decide : narrow .boolean (.int 1) = .int 1), (by decide : fits .boolean (.int 1) = true)⟩
    | _ => cases h
theorem ab_putf_ok {own C : String} {T : u_T} {N ci index k kd : Nat} {Ts : List Cond} {tys : List (ClassId × FieldType)} {ty : FieldType} (hx : p.tables.exec = Jvm.exec) (hb : c.code = cc) (hts : ∀ w ∈ Ts, w.before args s = true) (hown : s.vm.findClass own = some m.cls) (hK : va_K D cl tys s)
    (hin : ∀ w ∈ u_ws C T N, w ∈ Ts) (ty0 : Nat → FieldType) (hty : ∀ k, k < N → parseFieldDescriptor (T k).2.2.1 = some (ty0 k)) (hnm : ∀ a, a < N → ∀ b, b < N → a ≠ b → (T a).2.1 ≠ (T b).2.1) (hc : cl[ci]? = some (C, T, N)) (hk : k < N) (hlink : Cond.fieldLink own index (T k).1 (T k).2.1 (T k).2.2.1 ∈ Ts)
    (hfin : (T k).2.2.2 = false ∨ ((T k).2.2.2 = true ∧ meth.name = "<init>" ∧ (T k).1 = own)) (hd0 : ty0 k = ty) (hkd : (kd = 0 ∧ ty = .int) ∨ (kd = 1 ∧ ty = .long) ∨ (kd = 2 ∧ ((∃ C, ty = .object C) ∨ ∃ u, ty = .array u)) ∨ (kd = 3 ∧ ty = .boolean))
    (hd : decode cc pc = .ok (.putfield index, 3)) (hj : P j = pc + 3) : ab_ok p l e R s m args below meth c Q b D cl cA nL o P pc (ab_nx j (ab_putf ci k kd)) := by
  refine ab_nx_ok (pc + 3) hj fun σ σ' h kk => ?_
  obtain ⟨lo, st, u, hp⟩ := σ
  unfold ab_putf at h
  dsimp only at h
  split at h
  · rename_i v a st'
    obtain ⟨h1, h⟩ := ab_condN h
    rw [Bool.and_eq_true] at h1
    have ha := of_decide_eq_true h1.1
    split at h
    · rename_i q hq
      obtain ⟨h2, rfl⟩ := ab_cond h
      rw [Bool.and_eq_true] at h2
      have hci : q.1 = ci := by simpa using h2.1
      have hkl := of_decide_eq_true h2.2
      intro H locs ls hP hz hS hl
      have he : (ab_w b cA hp)[a]? = some (b.1 + a, .inr (ci, q.2.map (ab_v b))) := by rw [ab_w_at ha, hq, ← hci]; rfl
      obtain ⟨hn, hfit⟩ := ab_fit_ok (b := b) h1.2 hkd
      have hdt : parseFieldDescriptor (T k).2.2.1 = some ty := by rw [hty k hk, hd0]
      have hap := va_apart (own := own) hts hin ty0 hty hnm hK hc
      obtain ⟨r, g1, cell, q1, q2, q3, q4⟩ := hP a _ he
      have hr : r = (C, T, N) := Option.some.inj (g1.symm.trans hc)
      subst hr
      obtain ⟨hSl, hfc, kC, hkC, hkind⟩ := hK.1 ci _ hc
      obtain ⟨cf, kf, fi, f, hi, hsl⟩ := hSl k hk
      have hlay := hts _ (hin _ (u_in_lay hk))
      unfold u_lay at hlay
      have hst := (u_facts hfc hkC (u_lays hts hin hk) hi).1
      have fin : ∀ H1 : Heap, H1[b.1 + a]? = some (cell.setSlot f.slot (ab_v b v)) → H1.size = H.size → (∀ q : Nat, q ≠ b.1 + a → H1[q]? = H[q]?) → W p l e R s m args below meth c H1 (locs ++ [⟨b.1 + a, f.slot⟩]) u.1 u.2 Q (F0 m (pc + 3) ls (st'.map (ab_v b))) := by
        intro H1 e1 e2 e3
        rw [hsl] at e1
        have hat : va_at D cl (b.1 + a, .inr (ci, (q.2.map (ab_v b)).set k (ab_v b v))) H1 := ⟨_, hc, t_OB.to (V := updV (vp_V (q.2.map (ab_v b))) k (ab_v b v)) ⟨_, e1, q2, q3, t_set q4 hap hk _⟩ (fun j _ => vp_updV_set (by simpa using hkl) _ j)⟩
        obtain ⟨a1, a2, a3⟩ := ab_set (s := s) (x := .inr (ci, q.2.set k v)) (i := f.slot) hP hz hS ha (by show Sum.inr (ci, (q.2.set k v).map (ab_v b)) = _; rw [List.map_set]) hat e2 e3
        exact kk H1 _ ls a1 a2 a3 hl
      rcases hfin with hfin | ⟨hfin, hini, hdecl⟩
      · rw [if_neg (by rw [hfin]; decide)] at hlay
        have h6 := u_store hfc hkC hkind hlay hi hdt hn hfit
        exact W.putK hx hb (f := f) ⟨hown, hts _ hlink, ⟨_, _, _, hi⟩, hst⟩ (by rw [q2]; exact h6) q1 q3 (by rw [hsl]; exact k2_hasslot (q4 k hk)) rfl rfl hd fin
      · rw [if_pos hfin] at hlay
        have hcf : m.cls = cf := by
          obtain ⟨_, _, c', _, _, _, -, -, hf', -, -, -, hown2, -⟩ := Cond.laysFinal_spec hlay
          have e1 : c' = cf := by have := hi.symm.trans hf'; simp at this; exact this.1.symm
          rw [hdecl] at hown2
          rw [← e1]; exact Option.some.inj (hown.symm.trans hown2)
        have h6 := u_fits hfc hkC hkind (Or.inr hlay) hi hdt hn hfit
        exact W.putFinK hx hb hown (hts _ hlink) hi hst hcf hini (by rw [q2]; exact h6) q1 q3 (by rw [hsl]; exact k2_hasslot (q4 k hk)) rfl rfl hd fin
    · cases h
  · cases h
theorem ab_ald_ok {t0 : Nat} (hj : P j = pc + 1) (row : ∀ (hp : ab_H) (H : Heap) (locs : List Loc) (cells slots : Nat) (ls : Array Slot) (rest : List Value) (a n : Nat) (f : Nat → Int32) (i : Int32), va_P D cl (ab_w b cA hp) H → (ab_w b cA hp)[a]? = some (b.1 + a, .inl (cA t0, n, .inl f)) → vp_in i n → W p l e R s m args below meth c H locs cells slots Q (F0 m (pc + 1) ls (.int (f i.toNatClampNeg) :: rest)) → W p l e R s m args below meth c H locs cells slots Q (F0 m pc ls (.int i :: .ref (b.1 + a) :: rest))) : ab_ok p l e R s m args below meth c Q b D cl cA nL o P pc (ab_nx j (ab_ald t0)) := by
  refine ab_nx_ok (pc + 1) hj fun σ σ' h kk => ?_
  obtain ⟨lo, st, u, hp⟩ := σ
  unfold ab_ald at h
  dsimp only at h
  split at h
  · rename_i i a st'
    obtain ⟨h1, h⟩ := ab_condN h
    have ha := of_decide_eq_true h1
    split at h
    · rename_i t2 n f hq
      obtain ⟨h2, rfl⟩ := ab_cond h
      rw [Bool.and_eq_true] at h2
      have ht2 : t2 = t0 := by simpa using h2.1
      subst ht2
      intro H locs ls hP hz hS hl
      exact row hp H _ _ _ ls _ a n f i hP (by rw [ab_w_at ha, hq]; rfl) (ab_in_ok h2.2) (kk H locs ls hP hz hS hl)
    · cases h
  · cases h
theorem ab_lald_ok (hx : p.tables.exec = Jvm.exec) (hb : c.code = cc) (hK : va_K D cl (ab_tys cA) s) (hd : decode cc pc = .ok (.laload, 1)) (hj : P j = pc + 1) : ab_ok p l e R s m args below meth c Q b D cl cA nL o P pc (ab_nx j ab_lald) := by
  refine ab_nx_ok (pc + 1) hj fun σ σ' h kk => ?_
  obtain ⟨lo, st, u, hp⟩ := σ
  unfold ab_lald at h
  dsimp only at h
  split at h
  · rename_i i a st'
    obtain ⟨h1, h⟩ := ab_condN h
    have ha := of_decide_eq_true h1
    split at h
    · rename_i t2 n f hq
      obtain ⟨h2, rfl⟩ := ab_cond h
      rw [Bool.and_eq_true] at h2
      have ht2 : t2 = 2 := by simpa using h2.1
      subst ht2
      intro H locs ls hP hz hS hl
      exact va_lald hx hb hK hP a 2 (by rw [ab_w_at ha, hq]; rfl) rfl (ab_in_ok h2.2) hd (kk H locs ls hP hz hS hl)
    · cases h
  · cases h
theorem ab_rf_ok (r : Option Nat) : ab_v b (ab_rf r) = va_rf (r.map (fun k => b.1 + k)) := by cases r <;> rfl
theorem ab_aald_ok {t0 : Nat} {C : String} (hx : p.tables.exec = Jvm.exec) (hb : c.code = cc) (hK : va_K D cl (ab_tys cA) s) (ht : (ab_tys cA)[t0]? = some (cA t0, .object C)) (hd : decode cc pc = .ok (.aaload, 1)) (hj : P j = pc + 1) : ab_ok p l e R s m args below meth c Q b D cl cA nL o P pc (ab_nx j (ab_aald t0)) := by
  refine ab_nx_ok (pc + 1) hj fun σ σ' h kk => ?_
  obtain ⟨lo, st, u, hp⟩ := σ
  unfold ab_aald at h
  dsimp only at h
  split at h
  · rename_i i a st'
    obtain ⟨h1, h⟩ := ab_condN h
    have ha := of_decide_eq_true h1
    split at h
    · rename_i t2 n f hq
      obtain ⟨h2, rfl⟩ := ab_cond h
      rw [Bool.and_eq_true] at h2
      have ht2 : t2 = t0 := by simpa using h2.1
      subst ht2
      intro H locs ls hP hz hS hl
      have hk := kk H locs ls hP hz hS hl
      simp only [List.map_cons, ab_rf_ok] at hk
      exact va_aldq (f := fun j => (f j).map (fun k => b.1 + k)) hx hb hK hP a t2 (by rw [ab_w_at ha, hq]; rfl) ht (ab_in_ok h2.2) hd hk
    · cases h
  · cases h
theorem ab_ast_ok {t0 : Nat} (hj : P j = pc + 1) (row : ∀ (hp : ab_H) (H : Heap) (locs : List Loc) (cells slots : Nat) (ls : Array Slot) (rest : List Value) (a n : Nat) (f : Nat → Int32) (i x : Int32), va_at D cl (b.1 + a, .inl (cA t0, n, .inl f)) H → vp_in i n →
      (∀ H1 : Heap, va_at D cl (b.1 + a, .inl (cA t0, n, .inl (upd f i.toNatClampNeg (ab_nar t0 x)))) H1 → H1.size = H.size → (∀ q : Nat, q ≠ b.1 + a → H1[q]? = H[q]?) → W p l e R s m args below meth c H1 (locs ++ [⟨b.1 + a, i.toNatClampNeg⟩]) cells slots Q (F0 m (pc + 1) ls rest)) → W p l e R s m args below meth c H locs cells slots Q (F0 m pc ls (.int x :: .int i :: .ref (b.1 + a) :: rest))) : ab_ok p l e R s m args below meth c Q b D cl cA nL o P pc (ab_nx j (ab_ast t0)) := by
  refine ab_nx_ok (pc + 1) hj fun σ σ' h kk => ?_
  obtain ⟨lo, st, u, hp⟩ := σ
  unfold ab_ast at h
  dsimp only at h
  split at h
  · rename_i x i a st'
    obtain ⟨h1, h⟩ := ab_condN h
    have ha := of_decide_eq_true h1
    split at h
    · rename_i t2 n f hq
      obtain ⟨h2, rfl⟩ := ab_cond h
      rw [Bool.and_eq_true] at h2
      have ht2 : t2 = t0 := by simpa using h2.1
      subst ht2
      intro H locs ls hP hz hS hl
      have he : (ab_w b cA hp)[a]? = some (b.1 + a, .inl (cA t2, n, .inl f)) := by rw [ab_w_at ha, hq]; rfl
      refine row hp H _ _ _ ls _ a n f i x (hP a _ he) (ab_in_ok h2.2) fun H1 g1 g2 g3 => ?_
      obtain ⟨a1, a2, a3⟩ := ab_set (s := s) (x := .inl (t2, n, .inl (upd f i.toNatClampNeg (ab_nar t2 x)))) (i := i.toNatClampNeg) hP hz hS ha rfl g1 g2 g3
      exact kk H1 _ ls a1 a2 a3 hl
    · cases h
  · cases h
theorem ab_iast_ok (hx : p.tables.exec = Jvm.exec) (hb : c.code = cc) (hK : va_K D cl (ab_tys cA) s) (hd : decode cc pc = .ok (.iastore, 1)) (hj : P j = pc + 1) : ab_ok p l e R s m args below meth c Q b D cl cA nL o P pc (ab_nx j (ab_ast 1)) := by
  refine ab_ast_ok hj fun hp H locs cells slots ls rest a n f i x he hin kk => ?_
  refine W.iast hx hb he ((hK.2 1 _ rfl).1 n (fun j => .int (f j))) (fun q => by cases q) (by show ¬ (i < 0 ∨ (arrV _ _ _).slots.size ≤ _); rw [arrV_size]; exact hin) rfl rfl hd fun H1 e z oq => ?_
  refine kk H1 ?_ z oq
  show H1[b.1 + a]? = some (vp_cell _ _)
  rw [e, vp_cell_i, vp_cell_i, arrV_store]
  congr 2
  funext q
  by_cases hq : q = i.toNatClampNeg
  · subst hq
    simp [updV, upd, ab_nar]
  · simp [updV, upd, hq]
theorem ab_bast_ok (hx : p.tables.exec = Jvm.exec) (hb : c.code = cc) (hK : va_K D cl (ab_tys cA) s) (hd : decode cc pc = .ok (.bastore, 1)) (hj : P j = pc + 1) : ab_ok p l e R s m args below meth c Q b D cl cA nL o P pc (ab_nx j (ab_ast 0)) := by
  refine ab_ast_ok hj fun hp H locs cells slots ls rest a n f i x he hin kk => ?_
  refine W.bast hx hb he ((hK.2 0 _ rfl).1 n (fun j => .int (f j))) (fun q => by cases q) (by show ¬ (i < 0 ∨ (arrV _ _ _).slots.size ≤ _); rw [arrV_size]; exact hin) rfl rfl hd fun H1 e z oq => ?_
  refine kk H1 ?_ z oq
  show H1[b.1 + a]? = some (vp_cell _ _)
  rw [e, vp_cell_i, vp_cell_i, arrV_store]
  congr 2
  funext q
  by_cases hq : q = i.toNatClampNeg
  · subst hq
    simp [updV, upd, ab_nar, vp_nar]
    try rfl
  · simp [updV, upd, hq]
theorem ab_zast_ok (hx : p.tables.exec = Jvm.exec) (hb : c.code = cc) (hK : va_K D cl (ab_tys cA) s) (hd : decode cc pc = .ok (.bastore, 1)) (hj : P j = pc + 1) : ab_ok p l e R s m args below meth c Q b D cl cA nL o P pc (ab_nx j (ab_ast 3)) := by
  refine ab_ast_ok hj fun hp H locs cells slots ls rest a n f i x he hin kk => ?_
  refine W.zast hx hb he ((hK.2 3 _ rfl).1 n (fun j => .int (f j))) (fun q => by cases q) (by show ¬ (i < 0 ∨ (arrV _ _ _).slots.size ≤ _); rw [arrV_size]; exact hin) rfl rfl hd fun H1 e z oq => ?_
  refine kk H1 ?_ z oq
  show H1[b.1 + a]? = some (vp_cell _ _)
  rw [e, vp_cell_i, vp_cell_i, arrV_store]
  congr 2
  funext q
  by_cases hq : q = i.toNatClampNeg
  · subst hq
    simp [updV, upd, ab_nar, vp_nar]
    try rfl
  · simp [updV, upd, hq]
theorem ab_iald_ok (hx : p.tables.exec = Jvm.exec) (hb : c.code = cc) (hK : va_K D cl (ab_tys cA) s) (hd : decode cc pc = .ok (.iaload, 1)) (hj : P j = pc + 1) : ab_ok p l e R s m args below meth c Q b D cl cA nL o P pc (ab_nx j (ab_ald 1)) :=
  ab_ald_ok hj fun _ _ _ _ _ _ _ a _ _ _ hP he hin k => va_iald hx hb hK hP a 1 he rfl hin hd k
theorem ab_bald_ok (hx : p.tables.exec = Jvm.exec) (hb : c.code = cc) (hK : va_K D cl (ab_tys cA) s) (hd : decode cc pc = .ok (.baload, 1)) (hj : P j = pc + 1) : ab_ok p l e R s m args below meth c Q b D cl cA nL o P pc (ab_nx j (ab_ald 0)) :=
  ab_ald_ok hj fun _ _ _ _ _ _ _ a _ _ _ hP he hin k => va_bald hx hb hK hP a 0 he rfl hin hd k
theorem ab_zald_ok (hx : p.tables.exec = Jvm.exec) (hb : c.code = cc) (hK : va_K D cl (ab_tys cA) s) (hd : decode cc pc = .ok (.baload, 1)) (hj : P j = pc + 1) : ab_ok p l e R s m args below meth c Q b D cl cA nL o P pc (ab_nx j (ab_ald 3)) :=
  ab_ald_ok hj fun _ _ _ _ _ _ _ a _ _ _ hP he hin k => va_zald hx hb hK hP a 3 he rfl hin hd k
theorem ab_last_ok (hx : p.tables.exec = Jvm.exec) (hb : c.code = cc) (hK : va_K D cl (ab_tys cA) s) (hd : decode cc pc = .ok (.lastore, 1)) (hj : P j = pc + 1) : ab_ok p l e R s m args below meth c Q b D cl cA nL o P pc (ab_nx j ab_last) := by
  refine ab_nx_ok (pc + 1) hj fun σ σ' h kk => ?_
  obtain ⟨lo, st, u, hp⟩ := σ
  unfold ab_last at h
  dsimp only at h
  split at h
  · rename_i x i a st'
    obtain ⟨h1, h⟩ := ab_condN h
    have ha := of_decide_eq_true h1
    split at h
    · rename_i t2 n f hq
      obtain ⟨h2, rfl⟩ := ab_cond h
      rw [Bool.and_eq_true] at h2
      have ht2 : t2 = 2 := by simpa using h2.1
      subst ht2
      intro H locs ls hP hz hS hl
      have he : (ab_w b cA hp)[a]? = some (b.1 + a, .inl (cA 2, n, .inr (.inl f))) := by rw [ab_w_at ha, hq]; rfl
      have hin := ab_in_ok h2.2
      refine W.last hx hb (hP a _ he) ((hK.2 2 _ rfl).1 n (fun j => .long (f j))) (fun q => by cases q) (by show ¬ (i < 0 ∨ (arrV _ _ _).slots.size ≤ _); rw [arrV_size]; exact hin) rfl rfl hd fun H1 e z oq => ?_
      have g1 : va_at D cl (b.1 + a, .inl (cA 2, n, .inr (.inl (vp_updL f i.toNatClampNeg x)))) H1 := by
        show H1[b.1 + a]? = some (vp_cell _ _)
        rw [e, vp_cell_l, vp_cell_l, arrV_store]
        congr 2
        funext q
        by_cases hq : q = i.toNatClampNeg
        · subst hq
          simp [updV, vp_updL]
        · simp [updV, vp_updL, hq]
      obtain ⟨a1, a2, a3⟩ := ab_set (s := s) (x := .inl (2, n, .inr (.inl (vp_updL f i.toNatClampNeg x)))) (i := i.toNatClampNeg) hP hz hS ha rfl g1 z oq
      exact kk H1 _ ls a1 a2 a3 hl
    · cases h
  · cases h
end AB
end
-- 05.calls.lean.txt
section
/-! ===== arrays of references, new cells, calls, returns ===== -/
section AB
variable {p : Program} {l : Launch} {e : Env} {R : Room} {s : State} {m : MethodId} {args : Array Value} {below : List Frame} {meth : Method} {c : Code} {Q : State → Prop}
variable {b : ab_B} {D : va_G} {cl : List vw_C} {cA : Nat → ClassId} {nL : Nat} {cc : ByteArray} {P : Nat → Nat} {pc j t : Nat} {o : ab_O}
theorem ab_aast_ok {t0 ci : Nat} {r : vw_C} (hx : p.tables.exec = Jvm.exec) (hb : c.code = cc) (hK : va_K D cl (ab_tys cA) s) (ht : (ab_tys cA)[t0]? = some (cA t0, .object r.1)) (hc : cl[ci]? = some r) (hd : decode cc pc = .ok (.aastore, 1)) (hj : P j = pc + 1) : ab_ok p l e R s m args below meth c Q b D cl cA nL o P pc (ab_nx j (ab_aast t0 ci)) := by
  refine ab_nx_ok (pc + 1) hj fun σ σ' h kk => ?_
  obtain ⟨lo, st, u, hp⟩ := σ
  unfold ab_aast at h
  dsimp only at h
  split at h
  · rename_i v i a st'
    obtain ⟨h1, h⟩ := ab_condN h
    rw [Bool.and_eq_true] at h1
    have ha := of_decide_eq_true h1.1
    have hv := of_decide_eq_true h1.2
    split at h
    · rename_i t2 n f hq
      obtain ⟨h2, rfl⟩ := ab_cond h
      rw [Bool.and_eq_true, Bool.and_eq_true] at h2
      obtain ⟨⟨h2, hi2⟩, h3⟩ := h2
      have ht2 : t2 = t0 := by simpa using h2
      subst ht2
      have hin := ab_in_ok hi2
      split at h3
      · rename_i q hqv
        have hci : q.1 = ci := by simpa using h3
        intro H locs ls hP hz hS hl
        have he : (ab_w b cA hp)[a]? = some (b.1 + a, .inl (cA t2, n, .inr (.inr (.inr (.inr (fun j => (f j).map (fun k => b.1 + k))))))) := by rw [ab_w_at ha, hq]; rfl
        have hev : (ab_w b cA hp)[v]? = some (b.1 + v, .inr (ci, q.2.map (ab_v b))) := by rw [ab_w_at hv, hqv, ← hci]; rfl
        have hlt : i.toNatClampNeg < n := Nat.not_le.mp fun q => hin (Or.inr q)
        have h0 : ¬ i < 0 := fun q => hin (Or.inl q)
        obtain ⟨r', hr', cellV, g1, g2, g3, -⟩ := hP v _ hev
        have hcls := (hK.1 ci r hc).2
        obtain ⟨kA, comp, k1, k2, k3, -⟩ := (hK.2 t2 _ ht).2
        have hcomp : comp = D.1 ci := Option.some.inj (k3.symm.trans hcls.1)
        subst hcomp
        obtain ⟨kC, hkC, -⟩ := hcls.2
        refine W.aast hx hb (hP a _ he) (fun q h => by cases h) (fun h => by cases h) k1 k2 rfl hkC ⟨h0, by show _ < (arrV _ _ _).slots.size; rw [arrV_size]; exact hlt⟩ g1 (fun q h => by rw [g3] at h; cases h) (by rw [g2]; exact hkC) (by rw [g2]; exact va_assign hcls) rfl rfl hd fun H1 e z oq => ?_
        have y1 : va_at D cl (b.1 + a, .inl (cA t2, n, .inr (.inr (.inr (.inr (fun j => (va_up f i.toNatClampNeg (some v) j).map (fun k => b.1 + k))))))) H1 := by
          show H1[b.1 + a]? = some (vp_cell _ _)
          rw [e, vp_cell_q, vp_cell_q, arrV_store]
          congr 2
          funext q
          by_cases hq : q = i.toNatClampNeg
          · subst hq
            simp [updV, va_up, va_rf]
          · simp [updV, va_up, hq]
        obtain ⟨a1, a2, a3⟩ := ab_set (s := s) (x := .inl (t2, n, .inr (.inr (.inr (.inr (va_up f i.toNatClampNeg (some v))))))) (i := i.toNatClampNeg) hP hz hS ha rfl y1 z oq
        exact kk H1 _ ls a1 a2 a3 hl
      · cases h3
    · cases h
  · rename_i i a st'
    obtain ⟨h1, h⟩ := ab_condN h
    have ha := of_decide_eq_true h1
    split at h
    · rename_i t2 n f hq
      obtain ⟨h2, rfl⟩ := ab_cond h
      rw [Bool.and_eq_true] at h2
      have ht2 : t2 = t0 := by simpa using h2.1
      subst ht2
      have hin := ab_in_ok h2.2
      intro H locs ls hP hz hS hl
      have he : (ab_w b cA hp)[a]? = some (b.1 + a, .inl (cA t2, n, .inr (.inr (.inr (.inr (fun j => (f j).map (fun k => b.1 + k))))))) := by rw [ab_w_at ha, hq]; rfl
      refine va_WaastN (C := r.1) hx hb (hP a _ he) ((hK.2 t2 _ ht).1 n (fun j => va_rf ((f j).map (fun k => b.1 + k)))) (fun h => by cases h) (by show ¬ (i < 0 ∨ (arrV _ _ _).slots.size ≤ _); rw [arrV_size]; exact hin) rfl rfl hd fun H1 e z oq => ?_
      have y1 : va_at D cl (b.1 + a, .inl (cA t2, n, .inr (.inr (.inr (.inr (fun j => (va_up f i.toNatClampNeg none j).map (fun k => b.1 + k))))))) H1 := by
        show H1[b.1 + a]? = some (vp_cell _ _)
        rw [e, vp_cell_q, vp_cell_q, arrV_store]
        congr 2
        funext q
        by_cases hq : q = i.toNatClampNeg
        · subst hq
          simp [updV, va_up, va_rf]
        · simp [updV, va_up, hq]
      obtain ⟨a1, a2, a3⟩ := ab_set (s := s) (x := .inl (t2, n, .inr (.inr (.inr (.inr (va_up f i.toNatClampNeg none)))))) (i := i.toNatClampNeg) hP hz hS ha rfl y1 z oq
      exact kk H1 _ ls a1 a2 a3 hl
    · cases h
  · cases h
theorem ab_alen_ok (hx : p.tables.exec = Jvm.exec) (hb : c.code = cc) (hK : va_K D cl (ab_tys cA) s) (hd : decode cc pc = .ok (.arraylength, 1)) (hj : P j = pc + 1) : ab_ok p l e R s m args below meth c Q b D cl cA nL o P pc (ab_nx j ab_alen) := by
  refine ab_nx_ok (pc + 1) hj fun σ σ' h kk => ?_
  obtain ⟨lo, st, u, hp⟩ := σ
  unfold ab_alen at h
  dsimp only at h
  split at h
  · rename_i a st'
    obtain ⟨h1, h⟩ := ab_condN h
    have ha := of_decide_eq_true h1
    split at h
    · rename_i x hq
      obtain ⟨h2, rfl⟩ := ab_cond h
      have ht := of_decide_eq_true h2
      intro H locs ls hP hz hS hl
      have he : (ab_w b cA hp)[a]? = some (b.1 + a, .inl (cA x.1, ab_a b x.2)) := by rw [ab_w_at ha, hq]; rfl
      have hty : ∃ ty, (ab_tys cA)[x.1]? = some (cA x.1, ty) := by
        rcases (show x.1 = 0 ∨ x.1 = 1 ∨ x.1 = 2 ∨ x.1 = 3 ∨ x.1 = 4 ∨ x.1 = 5 by omega) with h | h | h | h | h | h <;> rw [h] <;> exact ⟨_, rfl⟩
      obtain ⟨ty, hty⟩ := hty
      have hn : Int32.ofNat (ab_a b x.2).1 = Int32.ofNat x.2.1 := by
        unfold ab_a
        split <;> rfl
      exact va_alen hx hb hK hP a x.1 he hty hn hd (kk H locs ls hP hz hS hl)
    · cases h
  · cases h
theorem ab_pushed {hp : ab_H} {x : ab_E} {y : va_E} {H H1 : Heap} {locs : List Loc} (hP : va_P D cl (ab_w b cA hp) H) (hz : H.size = b.1 + hp.1) (hS : va_S (fun q => b.1 ≤ q) s.heap H locs) (hy : ab_e b cA x = y)
    (he : va_at D cl (b.1 + hp.1, y) H1) (z : H1.size = H.size + 1) (oq : ∀ q : Nat, q < H.size → H1[q]? = H[q]?) : va_P D cl (ab_w b cA (ab_push hp x)) H1 ∧ H1.size = b.1 + (ab_push hp x).1 ∧ va_S (fun q => b.1 ≤ q) s.heap H1 locs := by
  refine ⟨?_, by rw [z, hz]; rfl, ⟨Nat.le_trans hS.1 (by omega), fun q h1 h2 => (oq q (Nat.lt_of_lt_of_le h1 hS.1)).trans (hS.2.1 q h1 h2), hS.2.2⟩⟩
  rw [← ab_w_push hy]
  refine (hP.kept fun k q hq => oq q.1 (hP k q hq).lt).app fun k q hq => ?_
  have hk : k < 1 := (List.getElem?_eq_some_iff.mp hq).1
  rw [show k = 0 by omega] at hq
  cases hq
  exact he
theorem ab_newa_ok {t0 MC MS : Nat} {a0 : Nat → vp_A} {atype : ArrayType} {ty : FieldType} {Ts : List Cond} (hx : p.tables.exec = Jvm.exec) (hb : c.code = cc) (hts : ∀ w ∈ Ts, w.before args s = true) (hK : va_K D cl (ab_tys cA) s) (hR : R.cells = MC ∧ R.slots = MS)
    (hty : newarray.typeOf atype = ty) (ht : (ab_tys cA)[t0]? = some (cA t0, ty)) (hRA : ∀ k, va_RA s k ty → s.vm.findClass ("[" ++ ty.toString) = some k) (harr : Cond.arrayClass ty ∈ Ts) (hby : componentBytes ty ≤ 8)
    (ha : ∀ (k : ClassId) (n : Nat), vp_cell k (ab_a b (a0 n)) = arrV k n (fun _ => defaultValue ty)) (hd : decode cc pc = .ok (.newarray atype, 2)) (hj : P j = pc + 2) : ab_ok p l e R s m args below meth c Q b D cl cA nL o P pc (ab_nx j (ab_newa t0 a0 MC MS)) := by
  subst hty
  refine ab_nx_ok (pc + 2) hj fun σ σ' h kk => ?_
  obtain ⟨lo, st, u, hp⟩ := σ
  unfold ab_newa at h
  dsimp only at h
  split at h
  · rename_i n st'
    obtain ⟨h1, rfl⟩ := ab_cond h
    simp only [Bool.and_eq_true, Bool.not_eq_true', decide_eq_false_iff_not, decide_eq_true_eq] at h1
    obtain ⟨⟨⟨h1, h2⟩, h3⟩, h4⟩ := h1
    intro H locs ls hP hz hS hl
    refine va_newaK hx hb (hts _ harr) rfl hd rfl h1 rfl (Nat.le_trans (Nat.mul_le_mul h2 hby) (by decide)) (by rw [hR.1]; exact h3) (by rw [hR.2]; exact h4) hz fun H1 k e1 z1 o1 hAr hNm => ?_
    have hk : k = cA t0 := Option.some.inj (hNm.symm.trans (hRA _ (hK.2 t0 _ ht).2))
    subst hk
    have g1 : va_at D cl (b.1 + hp.1, .inl (cA t0, ab_a b (a0 n.toNatClampNeg))) H1 := by
      show H1[b.1 + hp.1]? = some (vp_cell _ _)
      rw [ha, e1]
    obtain ⟨a1, a2, a3⟩ := ab_pushed (s := s) (x := .inl (t0, a0 n.toNatClampNeg)) hP hz hS rfl g1 (by rw [z1, hz]) (fun q hq => o1 q (by rw [← hz]; exact hq))
    exact kk H1 locs ls a1 a2 a3 hl
  · cases h
theorem ab_newq_ok {t0 MC MS index : Nat} {own C : String} {Ts : List Cond} (hx : p.tables.exec = Jvm.exec) (hb : c.code = cc) (hts : ∀ w ∈ Ts, w.before args s = true) (hown : s.vm.findClass own = some m.cls) (hK : va_K D cl (ab_tys cA) s) (hR : R.cells = MC ∧ R.slots = MS)
    (ht : (ab_tys cA)[t0]? = some (cA t0, .object C)) (hover : va_AO C s) (hclink : Cond.classLink own index C ∈ Ts) (hd : decode cc pc = .ok (.anewarray index, 3)) (hj : P j = pc + 3) : ab_ok p l e R s m args below meth c Q b D cl cA nL o P pc (ab_nx j (ab_newa t0 (fun n => (n, .inr (.inr (.inr (.inr (fun _ => none)))))) MC MS)) := by
  refine ab_nx_ok (pc + 3) hj fun σ σ' h kk => ?_
  obtain ⟨lo, st, u, hp⟩ := σ
  unfold ab_newa at h
  dsimp only at h
  split at h
  · rename_i n st'
    obtain ⟨h1, rfl⟩ := ab_cond h
    simp only [Bool.and_eq_true, Bool.not_eq_true', decide_eq_false_iff_not, decide_eq_true_eq] at h1
    obtain ⟨⟨⟨h1, h2⟩, h3⟩, h4⟩ := h1
    intro H locs ls hP hz hS hl
    refine W.anew hx hb hown (hts _ hclink) (va_AO.use hover) rfl hd rfl h1 (by omega) (by rw [hR.1]; exact h3) (by rw [hR.2]; exact h4) fun k kA comp f1 f2 f3 f4 => ?_
    have hk : k = cA t0 := by
      obtain ⟨_, _, -, -, -, w4⟩ := (hK.2 t0 _ ht).2
      exact Option.some.inj (f1.symm.trans w4)
    subst hk
    generalize hH1 : H.push ({ cls := cA t0, slots := Array.replicate n.toNatClampNeg .null, vm := .none } : Cell) = H1
    have z1 : H1.size = H.size + 1 := by rw [← hH1, Array.size_push]
    have e1 : H1[H.size]? = some (arrV (cA t0) n.toNatClampNeg (fun _ => .null)) := by rw [← hH1, Array.getElem?_push_size, ← arrV_new]
    have o1 : ∀ q : Nat, q < H.size → H1[q]? = H[q]? := fun q hq => by rw [← hH1, Array.getElem?_push, if_neg (Nat.ne_of_lt hq)]
    obtain ⟨a1, a2, a3⟩ := ab_pushed (s := s) (x := .inl (t0, n.toNatClampNeg, .inr (.inr (.inr (.inr (fun _ => none)))))) (y := .inl (cA t0, n.toNatClampNeg, .inr (.inr (.inr (.inr (fun _ => none)))))) hP hz hS rfl (by show H1[b.1 + hp.1]? = _; rw [← hz, e1]; rfl) z1 o1
    have hk2 := kk H1 locs ls a1 a2 a3 hl
    rw [hz]
    exact hk2
  · cases h
theorem ab_new_ok {own C : String} {T : u_T} {N ci index MC MS : Nat} {Ts : List Cond} {tys : List (ClassId × FieldType)} {fs : List Value} (hx : p.tables.exec = Jvm.exec) (hb : c.code = cc) (hts : ∀ w ∈ Ts, w.before args s = true) (hown : s.vm.findClass own = some m.cls) (hK : va_K D cl tys s) (hR : R.cells = MC ∧ R.slots = MS)
    (hin : ∀ w ∈ u_ws C T N, w ∈ Ts) (ty : Nat → FieldType) (hty : ∀ k, k < N → parseFieldDescriptor (T k).2.2.1 = some (ty k)) (hc : cl[ci]? = some (C, T, N)) (hcl : Cond.classLink own index C ∈ Ts) (hinst : Cond.instantiable C N ∈ Ts) (hini : Cond.initialized C ∈ Ts)
    (hfs : ∀ i, i < N → defaultValue (ty i) = vp_V (fs.map (ab_v b)) i) (hd : decode cc pc = .ok (.new index, 3)) (hj : P j = pc + 3) : ab_ok p l e R s m args below meth c Q b D cl cA nL o P pc (ab_nx j (ab_new ci N fs MC MS)) := by
  refine ab_nx_ok (pc + 3) hj fun σ σ' h kk => ?_
  obtain ⟨lo, st, u, hp⟩ := σ
  unfold ab_new at h
  dsimp only at h
  obtain ⟨h1, rfl⟩ := ab_cond h
  simp only [Bool.and_eq_true, decide_eq_true_eq] at h1
  obtain ⟨h3, h4⟩ := h1
  intro H locs ls hP hz hS hl
  have hKn := hK.1 ci _ hc
  refine W.newcK hx hb hown (hts _ hcl) (hts _ hinst) (hts _ hini) rfl hd (by rw [hR.1]; exact h3) (by rw [hR.2]; exact h4) hKn.2.1 hz fun H1 kC hkC e1 z1 o1 => ?_
  obtain ⟨a1, a2, a3⟩ := ab_pushed (s := s) (x := .inr (ci, fs)) hP hz hS rfl ⟨_, hc, (u_born ty hts hin hKn hkC e1 hty).to hfs⟩ (by rw [z1, hz]) (fun q hq => o1 q (by rw [← hz]; exact hq))
  exact kk H1 locs ls a1 a2 a3 hl
theorem ab_cats_v (st : List Value) : ((st.map (ab_v b)).map fun v => v.category).sum = ab_cats st := by
  unfold ab_cats
  rw [List.map_map]
  congr 1
  apply List.map_congr_left
  intro v _
  exact ab_vcat b v
theorem ab_obj_ok {own : String} {index : Nat} {Ts : List Cond} (hx : p.tables.exec = Jvm.exec) (hb : c.code = cc) (hml : c.maxLocals = nL) (hts : ∀ w ∈ Ts, w.before args s = true) (hown : s.vm.findClass own = some m.cls) (hlink : Cond.methodLink own index Lib.objectInit ∈ Ts) (hinst : Cond.instanceMethod Lib.objectInit ∈ Ts) (hcode : Cond.code Lib.objectInit ⟨#[0xb1]⟩ 1 none ∈ Ts)
    (hR : 1 ≤ R.frames ∧ 20 ≤ R.locals) (hd : decode cc pc = .ok (.invokespecial index, 3)) (hj : P j = pc + 3) : ab_ok p l e R s m args below meth c Q b D cl cA nL o P pc (ab_nx j ab_obj) := by
  refine ab_nx_ok (pc + 3) hj fun σ σ' h kk => ?_
  obtain ⟨lo, st, u, hp⟩ := σ
  unfold ab_obj at h
  dsimp only at h
  split at h
  · rename_i a st'
    obtain ⟨h1, rfl⟩ := ab_cond h
    have hst := of_decide_eq_true h1
    intro H locs ls hP hz hS hl
    refine W.objInit hx hb hown (hts _ hlink) (hts _ hinst) (hts _ hcode) rfl (by rw [hml]; exact hl.1) (rest := st'.map (ab_v b)) rfl hd hR.1 ?_ (kk H locs ls hP hz hS hl)
    have := ab_cats_v (b := b) st'
    show 2 * 0 + _ + 12 ≤ _
    omega
  · cases h
/-- a method: whatever the steps X answer, the machine answers -/
def ab_Qx (b : ab_B) (D : va_G) (cl : List vw_C) (cA : Nat → ClassId) (o : ab_O) : Array Value → State → Outcome → State → Prop := fun _ st oc t => (oc = .returned (o.1.map (ab_v b)) ∧ t.heap.size = b.1 + o.2.1 ∧ va_P D cl (ab_w b cA o.2) t.heap) ∧ va_F (fun q => b.1 ≤ q) st t
def ab_Px (b : ab_B) (D : va_G) (cl : List vw_C) (cA : Nat → ClassId) (E : State → Prop) (as : List Value) (hp : ab_H) : Array Value → State → Prop := va_Pc (as.map (ab_v b)) (fun U => U.heap.size = b.1 + hp.1 ∧ va_P D cl (ab_w b cA hp) U.heap ∧ va_K D cl (ab_tys cA) U ∧ E U)
def ab_M (l : Launch) (b : ab_B) (D : va_G) (cl : List vw_C) (cA : Nat → ClassId) (E : State → Prop) (y : MethodName) (ws : List Cond) (rm : Room) (X : List Value → ab_H → Option ab_O) : Prop :=
  ∀ (as : List Value) (hp : ab_H) (o : ab_O), X as hp = some o → Met l y ws rm (ab_Px b D cl cA E as hp) (ab_Qx b D cl cA o) rm.cells rm.slots (fun q => b.1 ≤ q)
/-- what is so at a start stays so as the tables warm -/
def ab_Ek (b : ab_B) (E : State → Prop) : Prop := ∀ s U : State, s.WarmedH U.vm → (∀ q : Nat, q < s.heap.size → ¬ b.1 ≤ q → U.heap[q]? = s.heap[q]?) → E s → E U
def ab_Eb (E : State → Prop) : Prop := ∀ s U : State, s.vm = U.vm → s.heap = U.heap → E s → E U
theorem ab_blind {E : State → Prop} (hE : ab_Eb E) (as : List Value) (hp : ab_H) : FrameBlind (ab_Px b D cl cA E as hp) := by
  intro a U g mk q
  obtain ⟨q0, q1, qP, qK, qE⟩ := q
  exact ⟨q0, q1, qP, va_K.moved (u := U) (U := U.calling g mk a) (Vm.Alike.refl U.vm) qK, hE U _ rfl rfl qE⟩
theorem ab_callW {hp : ab_H} {o2 : ab_O} {H : Heap} {locs : List Loc} {cells slots mc ms : Nat} {ls : Array Slot} {st0 rest : List Value} {a : Array Value} (hr : va_Run p l e R s m args below meth c H locs cells slots mc ms (F0 m pc ls st0) rest (ab_Qx b D cl cA o2 a) (fun q => b.1 ≤ q)) (hS : va_S (fun q => b.1 ≤ q) s.heap H locs)
    (kk : ∀ (H1 : Heap) (locs1 : List Loc), va_P D cl (ab_w b cA o2.2) H1 → H1.size = b.1 + o2.2.1 → va_S (fun q => b.1 ≤ q) s.heap H1 locs1 → W p l e R s m args below meth c H1 locs1 (cells + mc) (slots + ms) Q (F0 m (pc + 3) ls ((o2.1.map (ab_v b)).toList ++ rest))) : W p l e R s m args below meth c H locs cells slots Q (F0 m pc ls st0) := by
  intro T hT X
  obtain ⟨v, st₀, t, T', L, h0, X', hL, e1, e2, ⟨⟨hv, hz, hP⟩, hz1, hk⟩, st⟩ := hr T hT X
  cases hv
  rw [h0] at hz1 hk
  obtain ⟨t2, a1, b1⟩ := kk T'.heap (locs ++ L) (by rw [e1]; exact hP) (by rw [e1]; exact hz) ⟨Nat.le_trans hS.1 (by rw [e1]; exact hz1), fun q h1 h2 => by rw [e1, hk q (Nat.lt_of_lt_of_le h1 hS.1) h2]; exact hS.2.1 q h1 h2, fun q hq => by
      rcases List.mem_append.mp hq with h | h
      · exact hS.2.2 q h
      · exact hL q h⟩ T' rfl X'
  exact ⟨t2, st t2 a1, b1⟩
end AB
end
-- 06.calls2.lean.txt
section
/-! ===== calls, returns, the library's own ===== -/
theorem ab_split {b : ab_B} {nA : Nat} {st as : List Value} (h : (st.take nA).reverse = as) : st.map (ab_v b) = (as.map (ab_v b)).reverse ++ (st.drop nA).map (ab_v b) := by
  subst h
  rw [List.map_reverse, List.reverse_reverse, ← List.map_append, List.take_append_drop]
theorem ab_rcv_ok {ci : Nat} {as : List Value} {hp : ab_H} (h : ab_rcv ci as hp = true) : ∃ (a : Nat) (As : List Value) (fs : List Value), as = .ref a :: As ∧ a < hp.1 ∧ hp.2 a = .inr (ci, fs) := by
  unfold ab_rcv at h
  split at h
  · rename_i a As
    rw [Bool.and_eq_true] at h
    have h2 := h.2
    split at h2
    · rename_i q hq
      have hci : q.1 = ci := by simpa using h2
      exact ⟨a, As, q.2, rfl, of_decide_eq_true h.1, by rw [hq, ← hci]⟩
    · cases h2
  · cases h
section AB
variable {p : Program} {l : Launch} {e : Env} {R : Room} {s : State} {m : MethodId} {args : Array Value} {below : List Frame} {meth : Method} {c : Code} {Q : State → Prop}
variable {b : ab_B} {D : va_G} {cl : List vw_C} {cA : Nat → ClassId} {nL : Nat} {cc : ByteArray} {P : Nat → Nat} {pc j t : Nat} {o : ab_O} {E : State → Prop}
variable {nA mc ms MC MS maxL index : Nat} {X : List Value → ab_H → Option ab_O} {y : MethodName} {bytes : ByteArray} {ret : Option FieldType} {Ts ws ws' : List Cond} {rm : Room} {own : String}
/-- a call, whatever kind of call it is -/
theorem ab_call_ok (hj : P j = pc + 3) (row : ∀ (as : List Value) (hp : ab_H) (o2 : ab_O) (H : Heap) (locs : List Loc) (u : Nat × Nat) (ls : Array Slot) (rest : List Value), as.length = nA → X as hp = some o2 → ab_cats rest ≤ 8 → u.1 + mc ≤ MC → u.2 + ms ≤ MS → va_P D cl (ab_w b cA hp) H → H.size = b.1 + hp.1 → va_S (fun q => b.1 ≤ q) s.heap H locs → lv_has ls nL (ab_lp b 0 ([] : List (Option Value))) →
      va_Run p l e R s m args below meth c H locs u.1 u.2 mc ms (F0 m pc ls ((as.map (ab_v b)).reverse ++ rest.map (ab_v b))) (rest.map (ab_v b)) (ab_Qx b D cl cA o2 (as.map (ab_v b)).toArray) (fun q => b.1 ≤ q)) : ab_ok p l e R s m args below meth c Q b D cl cA nL o P pc (ab_nx j (ab_call nA X mc ms MC MS)) := by
  refine ab_nx_ok (pc + 3) hj fun σ σ' h kk => ?_
  obtain ⟨lo, st, u, hp⟩ := σ
  unfold ab_call at h
  dsimp only at h
  obtain ⟨h1, h⟩ := ab_condN h
  simp only [Bool.and_eq_true, decide_eq_true_eq] at h1
  obtain ⟨⟨⟨h1, h2⟩, h3⟩, h4⟩ := h1
  split at h
  · rename_i o2 hX
    obtain rfl := Option.some.inj h
    intro H locs ls hP hz hS hl
    have hlen : ((st.take nA).reverse).length = nA := by rw [List.length_reverse, List.length_take]; omega
    have hr := row _ hp o2 H locs u ls (st.drop nA) hlen hX h2 h3 h4 hP hz hS ⟨hl.1, hl.2.1, fun q hq => by cases hq⟩
    rw [← ab_split rfl] at hr
    refine ab_callW (hp := hp) hr hS fun H1 locs1 g1 g2 g3 => ?_
    have hk := kk H1 locs1 ls g1 g2 g3 hl
    have e1 : (o2.1.toList ++ st.drop nA).map (ab_v b) = (o2.1.map (ab_v b)).toList ++ (st.drop nA).map (ab_v b) := by
      rw [List.map_append]
      cases o2.1 <;> rfl
    rw [← e1]
    exact hk
  · cases h
theorem ab_callV_ok {C : String} {T : u_T} {N ci n : Nat} (hx : p.tables.exec = Jvm.exec) (hb : c.code = cc) (hml : c.maxLocals = nL) (hts : ∀ w ∈ Ts, w.before args s = true) (hown : s.vm.findClass own = some m.cls) (hK : va_K D cl (ab_tys cA) s) (hR : R.cells = MC ∧ R.slots = MS) (hE : E s) (hEk : ab_Ek b E) (hEb : ab_Eb E)
    (hM : ab_M l b D cl cA E y ws rm X) (hm : rm.cells = mc ∧ rm.slots = ms) (hc : cl[ci]? = some (C, T, N)) (hG : GoodIn Ts ws) (hw : ws = Cond.code y bytes maxL ret :: ws') (hlink : Cond.methodLink own index y ∈ Ts) (hinst : Cond.instanceMethod y ∈ Ts) (hsel : Cond.selects C y y ∈ Ts) (hini : Cond.initialized y.cls ∈ Ts)
    (hn : nA = n + 1) (hds : y.cls ≠ "java/lang/invoke/MethodHandle" ∧ y.cls ≠ "java/lang/invoke/VarHandle" ∧ (parseMethodDescriptor y.desc).map (fun d => d.parameters.length) = some n) (hrm : rm.frames + 1 ≤ R.frames ∧ 8 + (maxL + 11) + rm.locals ≤ R.locals)
    (hd : decode cc pc = .ok (.invokevirtual index, 3)) (hj : P j = pc + 3) : ab_ok p l e R s m args below meth c Q b D cl cA nL o P pc (ab_nx j (ab_callV nA ci X mc ms MC MS)) := by
  have base : ∀ σ σ' : ab_S, ab_callV nA ci X mc ms MC MS σ = some σ' → ab_W p l e R s m args below meth c Q b D cl cA nL (pc + 3) σ' → ab_W p l e R s m args below meth c Q b D cl cA nL pc σ := by
    intro σ σ' h kk
    unfold ab_callV at h
    obtain ⟨hr0, h⟩ := ab_condN h
    obtain ⟨lo, st, u, hp⟩ := σ
    unfold ab_call at h
    dsimp only at h hr0
    obtain ⟨h1, h⟩ := ab_condN h
    simp only [Bool.and_eq_true, decide_eq_true_eq] at h1
    obtain ⟨⟨⟨h1, h2⟩, h3⟩, h4⟩ := h1
    split at h
    · rename_i o2 hX
      obtain rfl := Option.some.inj h
      intro H locs ls hP hz hS hl
      obtain ⟨a, As, fs, has, ha, hq⟩ := ab_rcv_ok hr0
      have hlen : As.length = n := by
        have h9 : ((st.take nA).reverse).length = nA := by rw [List.length_reverse, List.length_take]; omega
        rw [has] at h9
        simp at h9
        omega
      have hst := ab_split (b := b) has
      rw [has] at hX
      have hstk : st.map (ab_v b) = (As.map (ab_v b)).reverse ++ .ref (b.1 + a) :: (st.drop nA).map (ab_v b) := by
        rw [hst]
        simp [ab_v]
      have he : (ab_w b cA hp)[a]? = some (b.1 + a, .inr (ci, fs.map (ab_v b))) := by rw [ab_w_at ha, hq]; rfl
      have hrun : va_Run p l e R s m args below meth c H locs u.1 u.2 mc ms (F0 m pc ls (st.map (ab_v b))) ((st.drop nA).map (ab_v b)) (ab_Qx b D cl cA o2 (Value.ref (b.1 + a) :: As.map (ab_v b)).toArray) (fun q => b.1 ≤ q) := by
        have hM2 := hM _ hp o2 hX
        rw [hm.1, hm.2] at hM2
        refine va_runV (C := C) (b := b.1 + a) (As := As.map (ab_v b)) (n := n) ⟨hx, hb, hml, hown, hts⟩ hM2 ⟨callB_of n hts hG hw hm.1 hm.2 (hts _ hini) (hts _ hlink) hds hrm, hts _ hinst, hts _ hsel⟩ ⟨ab_blind hEb _ _, va_recv hK hP hc he, fun U hU hW => ⟨rfl, by rw [hU]; exact hz, by rw [hU]; exact hP, va_K.moved hW.alike hK, hEk s U hW (fun q h1 h2 => by rw [hU]; exact hS.2.1 q h1 h2) hE⟩⟩ rfl (by simpa using hlen) hl.1 hstk (lv_room (by rw [ab_cats_v]; exact h2)) hd (by rw [hR.1, hR.2]; exact ⟨h3, h4⟩)
      refine ab_callW (hp := hp) hrun hS fun H1 locs1 g1 g2 g3 => ?_
      have hk := kk H1 locs1 ls g1 g2 g3 hl
      have e1 : (o2.1.toList ++ st.drop nA).map (ab_v b) = (o2.1.map (ab_v b)).toList ++ (st.drop nA).map (ab_v b) := by
        rw [List.map_append]
        cases o2.1 <;> rfl
      rw [← e1]
      exact hk
    · cases h
  exact ab_nx_ok (pc + 3) hj base
theorem ab_callS_ok (hx : p.tables.exec = Jvm.exec) (hb : c.code = cc) (hml : c.maxLocals = nL) (hts : ∀ w ∈ Ts, w.before args s = true) (hown : s.vm.findClass own = some m.cls) (hK : va_K D cl (ab_tys cA) s) (hR : R.cells = MC ∧ R.slots = MS) (hE : E s) (hEk : ab_Ek b E) (hEb : ab_Eb E)
    (hM : ab_M l b D cl cA E y ws rm X) (hm : rm.cells = mc ∧ rm.slots = ms) (hG : GoodIn Ts ws) (hw : ws = Cond.code y bytes maxL ret :: ws') (hlink : Cond.methodLink own index y ∈ Ts) (hstat : Cond.static y ∈ Ts) (hini : Cond.initialized y.cls ∈ Ts)
    (hds : y.cls ≠ "java/lang/invoke/MethodHandle" ∧ y.cls ≠ "java/lang/invoke/VarHandle" ∧ (parseMethodDescriptor y.desc).map (fun d => d.parameters.length) = some nA) (hrm : rm.frames + 1 ≤ R.frames ∧ 8 + (maxL + 11) + rm.locals ≤ R.locals)
    (hd : decode cc pc = .ok (.invokestatic index, 3)) (hj : P j = pc + 3) : ab_ok p l e R s m args below meth c Q b D cl cA nL o P pc (ab_nx j (ab_call nA X mc ms MC MS)) := by
  refine ab_call_ok hj fun as hp o2 H locs u ls rest hlen hX h2 h3 h4 hP hz hS hl => ?_
  have hM2 := hM _ hp o2 hX
  rw [hm.1, hm.2] at hM2
  exact va_runS (As := as.map (ab_v b)) (n := nA) ⟨hx, hb, hml, hown, hts⟩ hM2 ⟨callB_of nA hts hG hw hm.1 hm.2 (hts _ hini) (hts _ hlink) hds hrm, hts _ hstat⟩ ⟨ab_blind hEb _ _, fun U hU hW => ⟨rfl, by rw [hU]; exact hz, by rw [hU]; exact hP, va_K.moved hW.alike hK, hEk s U hW (fun q h1 h2 => by rw [hU]; exact hS.2.1 q h1 h2) hE⟩⟩ rfl (by simpa using hlen) hl.1 rfl (lv_room (by rw [ab_cats_v]; exact h2)) hd (by rw [hR.1, hR.2]; exact ⟨h3, h4⟩)
theorem ab_callSN_ok {host : String} (hx : p.tables.exec = Jvm.exec) (hb : c.code = cc) (hml : c.maxLocals = nL) (hts : ∀ w ∈ Ts, w.before args s = true) (hown : s.vm.findClass own = some m.cls) (hK : va_K D cl (ab_tys cA) s) (hR : R.cells = MC ∧ R.slots = MS) (hE : E s) (hEk : ab_Ek b E) (hEb : ab_Eb E)
    (hM : ab_M l b D cl cA E y ws rm X) (hm : rm.cells = mc ∧ rm.slots = ms) (hG : GoodIn Ts ws) (hw : ws = Cond.code y bytes maxL ret :: ws') (hlink : va_Nw (.methodLinkNest own index y host) s) (hstat : Cond.static y ∈ Ts) (hini : Cond.initialized y.cls ∈ Ts)
    (hds : y.cls ≠ "java/lang/invoke/MethodHandle" ∧ y.cls ≠ "java/lang/invoke/VarHandle" ∧ (parseMethodDescriptor y.desc).map (fun d => d.parameters.length) = some nA) (hrm : rm.frames + 1 ≤ R.frames ∧ 8 + (maxL + 11) + rm.locals ≤ R.locals)
    (hd : decode cc pc = .ok (.invokestatic index, 3)) (hj : P j = pc + 3) : ab_ok p l e R s m args below meth c Q b D cl cA nL o P pc (ab_nx j (ab_call nA X mc ms MC MS)) := by
  refine ab_call_ok hj fun as hp o2 H locs u ls rest hlen hX h2 h3 h4 hP hz hS hl => ?_
  have hM2 := hM _ hp o2 hX
  rw [hm.1, hm.2] at hM2
  exact va_runSN (host := host) (As := as.map (ab_v b)) (n := nA) ⟨hx, hb, hml, hown, hts⟩ hM2 ⟨va_cnB nA hts hG hw hm.1 hm.2 hlink (hts _ hini) hds hrm, hts _ hstat, trivial⟩ ⟨ab_blind hEb _ _, fun U hU hW => ⟨rfl, by rw [hU]; exact hz, by rw [hU]; exact hP, va_K.moved hW.alike hK, hEk s U hW (fun q h1 h2 => by rw [hU]; exact hS.2.1 q h1 h2) hE⟩⟩ rfl (by simpa using hlen) hl.1 rfl (lv_room (by rw [ab_cats_v]; exact h2)) hd (by rw [hR.1, hR.2]; exact ⟨h3, h4⟩)
/-- constructors without parameters: X is only asked at one reference -/
theorem ab_callI_ok (hx : p.tables.exec = Jvm.exec) (hb : c.code = cc) (hml : c.maxLocals = nL) (hts : ∀ w ∈ Ts, w.before args s = true) (hown : s.vm.findClass own = some m.cls) (hK : va_K D cl (ab_tys cA) s) (hR : R.cells = MC ∧ R.slots = MS) (hE : E s) (hEk : ab_Ek b E) (hEb : ab_Eb E)
    (hM : ab_M l b D cl cA E y ws rm X) (hX1 : ∀ v hp o2, X [v] hp = some o2 → ∃ a, v = .ref a) (hm : rm.cells = mc ∧ rm.slots = ms) (hG : GoodIn Ts ws) (hw : ws = Cond.code y bytes maxL none :: ws') (hlink : Cond.methodLink own index y ∈ Ts) (hinst : Cond.instanceMethod y ∈ Ts) (hini : Cond.initialized y.cls ∈ Ts) (hy1 : y.name = "<init>")
    (hds : y.cls ≠ "java/lang/invoke/MethodHandle" ∧ y.cls ≠ "java/lang/invoke/VarHandle" ∧ (parseMethodDescriptor y.desc).map (fun d => d.parameters.length) = some 0) (hrm : rm.frames + 1 ≤ R.frames ∧ 8 + (maxL + 11) + rm.locals ≤ R.locals)
    (hd : decode cc pc = .ok (.invokespecial index, 3)) (hj : P j = pc + 3) : ab_ok p l e R s m args below meth c Q b D cl cA nL o P pc (ab_nx j (ab_call 1 X mc ms MC MS)) := by
  refine ab_call_ok hj fun as hp o2 H locs u ls rest hlen hX h2 h3 h4 hP hz hS hl => ?_
  obtain ⟨v, rfl⟩ := List.length_eq_one_iff.mp hlen
  have hM2 := hM _ hp o2 hX
  obtain ⟨a, rfl⟩ := hX1 v hp o2 hX
  rw [hm.1, hm.2] at hM2
  exact va_runI (b := b.1 + a) (As := []) (n := 0) ⟨hx, hb, hml, hown, hts⟩ hM2 ⟨callB_of 0 hts hG hw hm.1 hm.2 (hts _ hini) (hts _ hlink) hds hrm, hy1, hts _ hinst⟩ ⟨ab_blind hEb _ _, fun U hU hW => ⟨rfl, by rw [hU]; exact hz, by rw [hU]; exact hP, va_K.moved hW.alike hK, hEk s U hW (fun q h1 h2 => by rw [hU]; exact hS.2.1 q h1 h2) hE⟩⟩ rfl rfl hl.1 rfl (lv_room (by rw [ab_cats_v]; exact h2)) hd (by rw [hR.1, hR.2]; exact ⟨h3, h4⟩)
theorem ab_callIN_ok {host : String} (hx : p.tables.exec = Jvm.exec) (hb : c.code = cc) (hml : c.maxLocals = nL) (hts : ∀ w ∈ Ts, w.before args s = true) (hown : s.vm.findClass own = some m.cls) (hK : va_K D cl (ab_tys cA) s) (hR : R.cells = MC ∧ R.slots = MS) (hE : E s) (hEk : ab_Ek b E) (hEb : ab_Eb E)
    (hM : ab_M l b D cl cA E y ws rm X) (hX1 : ∀ v hp o2, X [v] hp = some o2 → ∃ a, v = .ref a) (hm : rm.cells = mc ∧ rm.slots = ms) (hG : GoodIn Ts ws) (hw : ws = Cond.code y bytes maxL none :: ws') (hlink : va_Nw (.methodLinkNest own index y host) s) (hinst : Cond.instanceMethod y ∈ Ts) (hini : Cond.initialized y.cls ∈ Ts) (hy1 : y.name = "<init>")
    (hds : y.cls ≠ "java/lang/invoke/MethodHandle" ∧ y.cls ≠ "java/lang/invoke/VarHandle" ∧ (parseMethodDescriptor y.desc).map (fun d => d.parameters.length) = some 0) (hrm : rm.frames + 1 ≤ R.frames ∧ 8 + (maxL + 11) + rm.locals ≤ R.locals)
    (hd : decode cc pc = .ok (.invokespecial index, 3)) (hj : P j = pc + 3) : ab_ok p l e R s m args below meth c Q b D cl cA nL o P pc (ab_nx j (ab_call 1 X mc ms MC MS)) := by
  refine ab_call_ok hj fun as hp o2 H locs u ls rest hlen hX h2 h3 h4 hP hz hS hl => ?_
  obtain ⟨v, rfl⟩ := List.length_eq_one_iff.mp hlen
  have hM2 := hM _ hp o2 hX
  obtain ⟨a, rfl⟩ := hX1 v hp o2 hX
  rw [hm.1, hm.2] at hM2
  exact va_runIN (host := host) (b := b.1 + a) (As := []) (n := 0) ⟨hx, hb, hml, hown, hts⟩ hM2 ⟨va_cnB 0 hts hG hw hm.1 hm.2 hlink (hts _ hini) hds hrm, hy1, hts _ hinst⟩ ⟨ab_blind hEb _ _, fun U hU hW => ⟨rfl, by rw [hU]; exact hz, by rw [hU]; exact hP, va_K.moved hW.alike hK, hEk s U hW (fun q h1 h2 => by rw [hU]; exact hS.2.1 q h1 h2) hE⟩⟩ rfl rfl hl.1 rfl (lv_room (by rw [ab_cats_v]; exact h2)) hd (by rw [hR.1, hR.2]; exact ⟨h3, h4⟩)
theorem ab_ret_ok (hx : p.tables.exec = Jvm.exec) (hb : c.code = cc) (hr : meth.sig.returnType = some .int) (hlocks : meth.locks = false) (hd : decode cc pc = .ok (.ireturn, 1)) : ab_ok p l e R s m args below meth c (MQ below (ab_Qx b D cl cA o) args s MC MS (fun q => b.1 ≤ q)) b D cl cA nL o P pc (ab_ret MC MS) := by
  intro σ
  obtain ⟨lo, st, u, hp⟩ := σ
  unfold ab_ret
  dsimp only
  refine ⟨fun j' σ' h1 h2 => ?_, fun h1 => ?_⟩
  · split at h1
    · obtain ⟨-, h1⟩ := ab_cond h1
      cases h1
    · cases h1
  · split at h1
    · rename_i x
      obtain ⟨h2, h1⟩ := ab_cond h1
      obtain rfl := Sum.inr.inj h1
      simp only [Bool.and_eq_true, decide_eq_true_eq] at h2
      intro H locs ls hP hz hS hl
      refine W.widen h2.1 h2.2 ?_
      exact W.iret (v := x) hx hb hr (fun t ht hW => ⟨⟨rfl, by rw [ht]; exact hz, by rw [ht]; exact hP⟩, hS.F ht⟩) hS.2.2 hd hlocks
    · cases h1
theorem ab_zret_ok (hx : p.tables.exec = Jvm.exec) (hb : c.code = cc) (hr : meth.sig.returnType = some .boolean) (hlocks : meth.locks = false) (hd : decode cc pc = .ok (.ireturn, 1)) : ab_ok p l e R s m args below meth c (MQ below (ab_Qx b D cl cA o) args s MC MS (fun q => b.1 ≤ q)) b D cl cA nL o P pc (ab_zret MC MS) := by
  intro σ
  obtain ⟨lo, st, u, hp⟩ := σ
  unfold ab_zret
  dsimp only
  refine ⟨fun j' σ' h1 h2 => ?_, fun h1 => ?_⟩
  · split at h1
    · obtain ⟨-, h1⟩ := ab_cond h1
      cases h1
    · cases h1
  · split at h1
    · rename_i x
      obtain ⟨h2, h1⟩ := ab_cond h1
      obtain rfl := Sum.inr.inj h1
      simp only [Bool.and_eq_true, Bool.or_eq_true, decide_eq_true_eq] at h2
      intro H locs ls hP hz hS hl
      refine W.widen h2.1.1 h2.1.2 ?_
      exact W.zret (v := x) hx hb hr (by rcases h2.2 with rfl | rfl <;> decide) (fun t ht hW => ⟨⟨rfl, by rw [ht]; exact hz, by rw [ht]; exact hP⟩, hS.F ht⟩) hS.2.2 hd hlocks
    · cases h1
theorem ab_vret_ok (hx : p.tables.exec = Jvm.exec) (hb : c.code = cc) (hr : meth.sig.returnType = none) (hlocks : meth.locks = false) (hd : decode cc pc = .ok (.return_, 1)) : ab_ok p l e R s m args below meth c (MQ below (ab_Qx b D cl cA o) args s MC MS (fun q => b.1 ≤ q)) b D cl cA nL o P pc (ab_vret MC MS) := by
  intro σ
  obtain ⟨lo, st, u, hp⟩ := σ
  unfold ab_vret
  dsimp only
  refine ⟨fun j' σ' h1 h2 => ?_, fun h1 => ?_⟩
  · split at h1
    · obtain ⟨-, h1⟩ := ab_cond h1
      cases h1
    · cases h1
  · split at h1
    · obtain ⟨h2, h1⟩ := ab_cond h1
      obtain rfl := Sum.inr.inj h1
      simp only [Bool.and_eq_true, decide_eq_true_eq] at h2
      intro H locs ls hP hz hS hl
      refine W.widen h2.1 h2.2 ?_
      exact W.vret hx hb hr (fun t ht hW => ⟨⟨rfl, by rw [ht]; exact hz, by rw [ht]; exact hP⟩, hS.F ht⟩) hS.2.2 hd hlocks
    · cases h1
theorem ab_mm_ok {g : Int32 → Int32 → Int32} (hj : P j = pc + 3) (row : ∀ (H : Heap) (locs : List Loc) (u : Nat × Nat) (ls : Array Slot) (rest : List Value) (x z : Int32), ls.size = nL → (rest.map fun v => v.category).sum ≤ 8 → u.1 ≤ MC → u.2 ≤ MS → W p l e R s m args below meth c H locs u.1 u.2 Q (F0 m (pc + 3) ls (.int (g x z) :: rest)) → W p l e R s m args below meth c H locs u.1 u.2 Q (F0 m pc ls (.int z :: .int x :: rest))) : ab_ok p l e R s m args below meth c Q b D cl cA nL o P pc (ab_nx j (ab_mm g MC MS)) := by
  refine ab_nx_ok (pc + 3) hj fun σ σ' h kk => ?_
  obtain ⟨lo, st, u, hp⟩ := σ
  unfold ab_mm at h
  dsimp only at h
  split at h
  · rename_i z x st'
    obtain ⟨h1, rfl⟩ := ab_cond h
    simp only [Bool.and_eq_true, decide_eq_true_eq] at h1
    intro H locs ls hP hz hS hl
    exact row H locs u ls _ x z hl.1 (by rw [ab_cats_v]; exact h1.1.1) h1.1.2 h1.2 (kk H locs ls hP hz hS hl)
  · cases h
theorem ab_copy_ok (hx : p.tables.exec = Jvm.exec) (hb : c.code = cc) (hml : c.maxLocals = nL) (hts : ∀ w ∈ Ts, w.before args s = true) (hown : s.vm.findClass own = some m.cls) (hK : va_K D cl (ab_tys cA) s) (hlink : Cond.methodLink own index arraycopyName ∈ Ts) (hnat : Cond.native arraycopyName ∈ Ts) (hstat : Cond.static arraycopyName ∈ Ts) (hini : Cond.initialized "java/lang/System" ∈ Ts)
    (hR : 1 ≤ R.frames ∧ 8 + (nativeFrameWords "java/lang/System" "arraycopy" 5 + 11) ≤ R.locals) (hd : decode cc pc = .ok (.invokestatic index, 3)) (hj : P j = pc + 3) : ab_ok p l e R s m args below meth c Q b D cl cA nL o P pc (ab_nx j ab_copy) := by
  refine ab_nx_ok (pc + 3) hj fun σ σ' h kk => ?_
  obtain ⟨lo, st, u, hp⟩ := σ
  unfold ab_copy at h
  dsimp only at h
  split at h
  · rename_i n dp a sp a0 st'
    obtain ⟨h1, h⟩ := ab_condN h
    simp only [Bool.and_eq_true, Bool.not_eq_true', decide_eq_false_iff_not, decide_eq_true_eq] at h1
    obtain ⟨⟨⟨⟨⟨⟨ha, ha0⟩, hst⟩, h2⟩, h3⟩, h4⟩, h5⟩ := h1
    have fin : ∀ (x : ab_E) (y : va_E), ab_e b cA x = y → ab_W p l e R s m args below meth c Q b D cl cA nL (pc + 3) (lo, st', u, ab_up hp a x) → ∀ (H : Heap) (locs : List Loc) (ls : Array Slot), va_S (fun q => b.1 ≤ q) s.heap H locs → H.size = b.1 + hp.1 → lv_has ls nL (ab_lp b 0 lo) → ∀ (T : State), T.heap = H → Stand p l e R s m args below meth c T locs u.1 u.2 →
        ∀ (H1 : Heap) (locs1 : List Loc), va_P D cl ((ab_w b cA hp).set a (b.1 + a, y)) H1 → va_D (fun q => b.1 ≤ q) ((ab_w b cA hp).set a (b.1 + a, y)) → va_S (fun q => b.1 ≤ q) s.heap H1 locs1 → W p l e R s m args below meth c H1 locs1 u.1 u.2 Q (F0 m (pc + 3) ls (st'.map (ab_v b))) := by
      intro x y hy kk H locs ls hS hz hl T hT XT H1 locs1 hP1 _ hS1 T1 hT1 X1
      have z0 := XT.heapSize
      have z1 := X1.heapSize
      rw [hT, h5] at z0
      rw [hT1, h5] at z1
      have hz1 : H1.size = b.1 + hp.1 := by
        have := hS.1
        have := hS1.1
        omega
      rw [ab_w_up hy] at hP1
      exact kk H1 locs1 ls hP1 hz1 hS1 hl T1 hT1 X1
    have hsum : ((st'.map (ab_v b)).map fun v => v.category).sum ≤ 8 := by rw [ab_cats_v]; exact hst
    split at h
    · rename_i n0 f n1 g hq0 hq1
      obtain ⟨h6, rfl⟩ := ab_cond h
      simp only [Bool.and_eq_true, decide_eq_true_eq] at h6
      intro H locs ls hP hz hS hl T hT XT
      have he0 : (ab_w b cA hp)[a0]? = some (b.1 + a0, .inl (cA 1, n0, .inl f)) := by rw [ab_w_at ha0, hq0]; rfl
      have he1 : (ab_w b cA hp)[a]? = some (b.1 + a, .inl (cA 1, n1, .inl g)) := by rw [ab_w_at ha, hq1]; rfl
      exact va_copyi hx hb (by rw [hml]; exact hl.1.symm) hown (hts _ hlink) (hts _ hnat) (hts _ hstat) (hts _ hini) hK hP ab_w_D hS a0 a 1 1 he0 he1 rfl rfl rfl h2 h3 h4 h6.1 h6.2 (fun i _ => rfl) hR.1 (by omega) hd (fin (.inl (1, n1, .inl (va_cpy f g sp.toNatClampNeg dp.toNatClampNeg n.toNatClampNeg))) _ rfl kk H locs ls hS hz hl T hT XT) T hT XT
    · rename_i n0 f n1 g hq0 hq1
      obtain ⟨h6, rfl⟩ := ab_cond h
      simp only [Bool.and_eq_true, decide_eq_true_eq] at h6
      intro H locs ls hP hz hS hl T hT XT
      have he0 : (ab_w b cA hp)[a0]? = some (b.1 + a0, .inl (cA 2, n0, .inr (.inl f))) := by rw [ab_w_at ha0, hq0]; rfl
      have he1 : (ab_w b cA hp)[a]? = some (b.1 + a, .inl (cA 2, n1, .inr (.inl g))) := by rw [ab_w_at ha, hq1]; rfl
      exact va_copyl hx hb (by rw [hml]; exact hl.1.symm) hown (hts _ hlink) (hts _ hnat) (hts _ hstat) (hts _ hini) hK hP ab_w_D hS a0 a 2 2 he0 he1 rfl rfl rfl h2 h3 h4 h6.1 h6.2 (fun i _ => rfl) hR.1 (by omega) hd (fin (.inl (2, n1, .inr (.inl (va_cpy f g sp.toNatClampNeg dp.toNatClampNeg n.toNatClampNeg)))) _ rfl kk H locs ls hS hz hl T hT XT) T hT XT
    · cases h
  · cases h
theorem ab_tab_ok {dflt lo hi : Int} {offs : Array Int} {len : Nat} {ts : List Nat} {dj : Nat} (hx : p.tables.exec = Jvm.exec) (hb : c.code = cc) (hd : decode cc pc = .ok (.tableswitch dflt lo hi offs, len)) (hdf : (pc : Int) + dflt = (P dj : Int)) (hts : offs.toList.map (fun z => (pc : Int) + z) = ts.map (fun z => (P z : Int))) (hhi : hi = lo + (ts.length : Int) - 1) : ab_ok p l e R s m args below meth c Q b D cl cA nL o P pc (ab_tab lo ts dj) := by
  intro σ
  obtain ⟨lv, st, u, hp⟩ := σ
  unfold ab_tab
  dsimp only
  refine ⟨fun j' σ' h1 h2 => ?_, fun h1 => ?_⟩
  · split at h1
    · rename_i x st'
      simp only [Option.some.injEq, Sum.inl.injEq, Prod.mk.injEq] at h1
      obtain ⟨rfl, rfl⟩ := h1
      intro H locs ls hP hz hS hl
      by_cases hlo : x.toInt < lo
      · rw [decide_eq_true hlo] at h2
        exact lv_tableOut hx hb hd (Or.inl hlo) hdf (h2 H locs ls hP hz hS hl)
      · rw [decide_eq_false hlo] at h2
        have hlen : offs.toList.length = ts.length := by
          have := congrArg List.length hts
          simpa using this
        by_cases hh : hi < x.toInt
        · have hn : ts[(x.toInt - lo).toNat]? = none := by
            rw [List.getElem?_eq_none_iff]
            omega
          simp only [cond_false, hn, Option.getD_none] at h2
          exact lv_tableOut hx hb hd (Or.inr hh) hdf (h2 H locs ls hP hz hS hl)
        · have hk : (x.toInt - lo).toNat < ts.length := by omega
          have h3 : ts[(x.toInt - lo).toNat]? = some ts[(x.toInt - lo).toNat] := List.getElem?_eq_getElem hk
          have hk2 : (x.toInt - lo).toNat < offs.toList.length := by rw [hlen]; exact hk
          have h4 : offs.toList[(x.toInt - lo).toNat]? = some offs.toList[(x.toInt - lo).toNat] := List.getElem?_eq_getElem hk2
          have h5 : (offs.toList.map (fun z => (pc : Int) + z))[(x.toInt - lo).toNat]? = (ts.map (fun z => (P z : Int)))[(x.toInt - lo).toNat]? := by rw [hts]
          rw [List.getElem?_map, List.getElem?_map, h3, h4] at h5
          simp only [Option.map_some, Option.some.injEq] at h5
          simp only [cond_false, h3, Option.getD_some] at h2
          exact lv_tableIn hx hb hd hlo hh (by rw [← Array.getElem?_toList]; exact h4) h5 (h2 H locs ls hP hz hS hl)
    · cases h1
  · split at h1 <;> cases h1
end AB
end
-- 07.method.lean.txt
section
/-! ===== a method out of its steps ===== -/
theorem ab_run_mono {T : Nat → Option ab_A} : ∀ (f i : Nat) (s : ab_S) (o : ab_O), ab_run T f i s = some o → ∀ k, ab_run T (f + k) i s = some o
  | 0, _, _, _, h, _ => by cases h
  | f + 1, i, s, o, h, k => by
    rw [show f + 1 + k = (f + k) + 1 by omega]
    rw [ab_run] at h ⊢
    split at h
    · cases h
    · rename_i a ha
      cases hs : a s with
      | none => rw [hs] at h; cases h
      | some r =>
        rw [hs] at h
        cases r with
        | inl q => exact ab_run_mono f _ _ _ h k
        | inr o' => exact h
theorem ab_run_one {T : Nat → Option ab_A} {f g i : Nat} {s : ab_S} {o o' : ab_O} (h : ab_run T f i s = some o) (h' : ab_run T g i s = some o') : o = o' := by
  have h1 := ab_run_mono f i s o h g
  have h2 := ab_run_mono g i s o' h' f
  rw [Nat.add_comm] at h2
  exact Option.some.inj (h1.symm.trans h2)
/-- what a method's steps answer -/
noncomputable def ab_X (T : Nat → Option ab_A) (nL : Nat) (as : List Value) (hp : ab_H) : Option ab_O :=
  @dite _ ((ab_ent as).length ≤ nL ∧ ∃ (o : ab_O) (f : Nat), ab_run T f 0 (ab_en nL as, [], (0, 0), hp) = some o) (Classical.propDecidable _) (fun h => some h.2.choose) (fun _ => none)
theorem ab_X_of {T : Nat → Option ab_A} {nL : Nat} {as : List Value} {hp : ab_H} {o : ab_O} {f : Nat} (hl : (ab_ent as).length ≤ nL) (h : ab_run T f 0 (ab_en nL as, [], (0, 0), hp) = some o) : ab_X T nL as hp = some o := by
  unfold ab_X
  have hc : (ab_ent as).length ≤ nL ∧ ∃ (o : ab_O) (f : Nat), ab_run T f 0 (ab_en nL as, [], (0, 0), hp) = some o := ⟨hl, o, f, h⟩
  rw [dif_pos hc]
  obtain ⟨g, hg⟩ := hc.2.choose_spec
  rw [ab_run_one hg h]
theorem ab_X_run {T : Nat → Option ab_A} {nL : Nat} {as : List Value} {hp : ab_H} {o : ab_O} (h : ab_X T nL as hp = some o) : (ab_ent as).length ≤ nL ∧ ∃ f, ab_run T f 0 (ab_en nL as, [], (0, 0), hp) = some o := by
  unfold ab_X at h
  split at h
  · rename_i hc
    obtain ⟨g, hg⟩ := hc.2.choose_spec
    rw [Option.some.inj h] at hg
    exact ⟨hc.1, g, hg⟩
  · cases h
/-- all that a step's proof may use -/
def ab_cx (p : Program) (l : Launch) (e : Env) (R : Room) (s : State) (m : MethodId) (args : Array Value) (below : List Frame) (meth : Method) (c : Code) (D : va_G) (cl : List vw_C) (cA : Nat → ClassId) (E : State → Prop) (y : MethodName) (cc : ByteArray) (nL : Nat) (ret : Option FieldType) (Ts : List Cond) (rm : Room) : Prop :=
  p.tables.exec = Jvm.exec ∧ c.code = cc ∧ c.maxLocals = nL ∧ meth.sig.returnType = ret ∧ meth.locks = false ∧ (∀ w ∈ Ts, w.before args s = true) ∧ s.vm.findClass y.cls = some m.cls ∧ va_K D cl (ab_tys cA) s ∧ E s ∧ meth.name = y.name ∧ R = rm
theorem ab_meth {l : Launch} {b : ab_B} {D : va_G} {cl : List vw_C} {cA : Nat → ClassId} {E : State → Prop} {y : MethodName} {ws ws' : List Cond} {rm : Room} {cc : ByteArray} {nL : Nat} {ret : Option FieldType} (L : List (Nat × ab_A)) (hy : plainName y.cls = true) (hw : ws = Cond.code y cc nL ret :: ws')
    (hT : ∀ (p : Program) (e : Env) (R : Room) (s : State) (m : MethodId) (args : Array Value) (below : List Frame) (meth : Method) (c : Code) (o : ab_O), ab_cx p l e R s m args below meth c D cl cA E y cc nL ret ws rm → ∀ q ∈ L, ab_ok p l e R s m args below meth c (MQ below (ab_Qx b D cl cA o) args s rm.cells rm.slots (fun q => b.1 ≤ q)) b D cl cA nL o (fun i => i) q.1 q.2) :
    ab_M l b D cl cA E y ws rm (ab_X (ab_T L) nL) := by
  intro as hp o hX
  obtain ⟨hlen, f, hrun⟩ := ab_X_run hX
  refine Met.ofW (cc := cc) (maxL := nL) (ret := ret) hy hw ?_
  intro p e s m args below meth c s₁ B hml hv
  obtain ⟨rfl, hz, hPw, hK, hE⟩ := hv
  have C : ab_cx p l e (headSpec ws rm).room s m (as.map (ab_v b)).toArray below meth c D cl cA E y cc nL ret ws rm := ⟨B.exec, B.bytes, hml, B.returns, B.notSynchronized, atoms_spec (ws := ws) B.pre, findClass_of_methodNamed B.named, hK, hE, (name_of_methodNamed B.named B.method).1, rfl⟩
  have hl := lv_entry (as.map (ab_v b)) (n := nL) (by rw [ab_ent_len]; exact hlen)
  rw [lg_entry_eq]
  generalize (lg_sl (as.map (ab_v b)) ++ List.replicate (nL - (lg_sl (as.map (ab_v b))).length) Slot.unset).toArray = ls at hl ⊢
  have hW := ab_run_ok (p := p) (l := l) (e := e) (R := (headSpec ws rm).room) (s := s) (m := m) (args := (as.map (ab_v b)).toArray) (below := below) (meth := meth) (c := c) (Q := MQ below (ab_Qx b D cl cA o) (as.map (ab_v b)).toArray s rm.cells rm.slots (fun q => b.1 ≤ q)) (b := b) (D := D) (cl := cl) (cA := cA) (nL := nL) (P := fun i => i) (o := o) (T := ab_T L) (fun i a ha => hT p e _ s m _ below meth c o C (i, a) (ab_T_mem L i a ha)) f 0 _ hrun
  exact hW s.heap [] ls hPw hz va_S.rf (ab_en_has hl)
/-- a step that isn't there -/
def ab_no : ab_A := fun _ => none
section AB
variable {p : Program} {l : Launch} {e : Env} {R : Room} {s : State} {m : MethodId} {args : Array Value} {below : List Frame} {meth : Method} {c : Code} {Q : State → Prop}
variable {b : ab_B} {D : va_G} {cl : List vw_C} {cA : Nat → ClassId} {nL : Nat} {cc : ByteArray} {P : Nat → Nat} {pc j t : Nat} {o : ab_O} {E : State → Prop} {y : MethodName} {ret : Option FieldType} {Ts : List Cond} {rm : Room}
theorem ok_no : ab_ok p l e R s m args below meth c Q b D cl cA nL o P pc ab_no := fun _ => ⟨fun _ _ h => by (cases h), fun h => by cases h⟩
theorem ok_iconst (C : ab_cx p l e R s m args below meth c D cl cA E y cc nL ret Ts rm) {n : Int} {v : Int32} (hd : decode cc pc = .ok (.iconst n, 1)) (hv : Int32.ofInt n = v) (hj : P j = pc + 1) : ab_ok p l e R s m args below meth c Q b D cl cA nL o P pc (ab_nx j (ab_lit (.int v))) := ab_lit_ok hj fun _ _ _ _ _ _ k => lv_iconst C.1 C.2.1 hd hv k
theorem ok_bipush (C : ab_cx p l e R s m args below meth c D cl cA E y cc nL ret Ts rm) {n : Int} {v : Int32} (hd : decode cc pc = .ok (.bipush n, 2)) (hv : (Int8.ofInt n).toInt32 = v) (hj : P j = pc + 2) : ab_ok p l e R s m args below meth c Q b D cl cA nL o P pc (ab_nx j (ab_lit (.int v))) := ab_lit_ok hj fun _ _ _ _ _ _ k => lv_bipush C.1 C.2.1 hd hv k
theorem ok_sipush (C : ab_cx p l e R s m args below meth c D cl cA E y cc nL ret Ts rm) {n : Int} {v : Int32} (hd : decode cc pc = .ok (.sipush n, 3)) (hv : (Int16.ofInt n).toInt32 = v) (hj : P j = pc + 3) : ab_ok p l e R s m args below meth c Q b D cl cA nL o P pc (ab_nx j (ab_lit (.int v))) := ab_lit_ok hj fun _ _ _ _ _ _ k => lv_sipush C.1 C.2.1 hd hv k
theorem ok_ldc (C : ab_cx p l e R s m args below meth c D cl cA E y cc nL ret Ts rm) {i : Nat} {v : Int32} (hd : decode cc pc = .ok (.ldc i, 2)) (hw : Cond.constant y.cls i v ∈ Ts) (hj : P j = pc + 2) : ab_ok p l e R s m args below meth c Q b D cl cA nL o P pc (ab_nx j (ab_lit (.int v))) := ab_lit_ok hj fun _ _ _ _ _ _ k => lv_ldc C.1 C.2.1 C.2.2.2.2.2.2.1 (C.2.2.2.2.2.1 _ hw) hd k
theorem ok_ldcw (C : ab_cx p l e R s m args below meth c D cl cA E y cc nL ret Ts rm) {i : Nat} {v : Int32} (hd : decode cc pc = .ok (.ldc_w i, 3)) (hw : Cond.constant y.cls i v ∈ Ts) (hj : P j = pc + 3) : ab_ok p l e R s m args below meth c Q b D cl cA nL o P pc (ab_nx j (ab_lit (.int v))) := ab_lit_ok hj fun _ _ _ _ _ _ k => lv_ldcw C.1 C.2.1 C.2.2.2.2.2.2.1 (C.2.2.2.2.2.1 _ hw) hd k
theorem ok_ldc2 (C : ab_cx p l e R s m args below meth c D cl cA E y cc nL ret Ts rm) {i : Nat} {v : Int64} (hd : decode cc pc = .ok (.ldc2_w i, 3)) (hw : Cond.constantLong y.cls i v ∈ Ts) (hj : P j = pc + 3) : ab_ok p l e R s m args below meth c Q b D cl cA nL o P pc (ab_nx j (ab_lit (.long v))) := ab_lit_ok hj fun _ _ _ _ _ _ k => lv_ldc2 C.1 C.2.1 C.2.2.2.2.2.2.1 (C.2.2.2.2.2.1 _ hw) hd k
theorem ok_lconst (C : ab_cx p l e R s m args below meth c D cl cA E y cc nL ret Ts rm) {n : Fin 2} {v : Int64} (hd : decode cc pc = .ok (.lconst n, 1)) (hv : Int64.ofNat (n : Nat) = v) (hj : P j = pc + 1) : ab_ok p l e R s m args below meth c Q b D cl cA nL o P pc (ab_nx j (ab_lit (.long v))) := ab_lit_ok hj fun _ _ _ _ _ _ k => lv_lconst C.1 C.2.1 hd hv k
theorem ok_iload_n (C : ab_cx p l e R s m args below meth c D cl cA E y cc nL ret Ts rm) {k : Fin 4} {i : Nat} (hd : decode cc pc = .ok (.iload_n k, 1)) (hi : (k : Nat) = i) (hj : P j = pc + 1) : ab_ok p l e R s m args below meth c Q b D cl cA nL o P pc (ab_nx j (ab_iload i)) := ab_iload_ok hj fun _ _ _ _ _ _ _ h k => lv_iload_n C.1 C.2.1 hd hi h k
theorem ok_iload (C : ab_cx p l e R s m args below meth c D cl cA E y cc nL ret Ts rm) {i : Nat} (hd : decode cc pc = .ok (.iload i, 2)) (hj : P j = pc + 2) : ab_ok p l e R s m args below meth c Q b D cl cA nL o P pc (ab_nx j (ab_iload i)) := ab_iload_ok hj fun _ _ _ _ _ _ _ h k => lv_iload C.1 C.2.1 hd h k
theorem ok_lload_n (C : ab_cx p l e R s m args below meth c D cl cA E y cc nL ret Ts rm) {k : Fin 4} {i : Nat} (hd : decode cc pc = .ok (.lload_n k, 1)) (hi : (k : Nat) = i) (hj : P j = pc + 1) : ab_ok p l e R s m args below meth c Q b D cl cA nL o P pc (ab_nx j (ab_lload i)) := ab_lload_ok hj fun _ _ _ _ _ _ _ h k => lv_lload_n C.1 C.2.1 hd hi h k
theorem ok_lload (C : ab_cx p l e R s m args below meth c D cl cA E y cc nL ret Ts rm) {i : Nat} (hd : decode cc pc = .ok (.lload i, 2)) (hj : P j = pc + 2) : ab_ok p l e R s m args below meth c Q b D cl cA nL o P pc (ab_nx j (ab_lload i)) := ab_lload_ok hj fun _ _ _ _ _ _ _ h k => lv_lload C.1 C.2.1 hd h k
theorem ok_aload_n (C : ab_cx p l e R s m args below meth c D cl cA E y cc nL ret Ts rm) {k : Fin 4} {i : Nat} (hd : decode cc pc = .ok (.aload_n k, 1)) (hi : (k : Nat) = i) (hj : P j = pc + 1) : ab_ok p l e R s m args below meth c Q b D cl cA nL o P pc (ab_nx j (ab_aload i)) := ab_aload_ok hj (fun _ _ _ _ _ _ _ h k => lv_aload_n C.1 C.2.1 hd hi h k) (fun _ _ _ _ _ _ h k => lv_aload_nN C.1 C.2.1 hd hi h k)
theorem ok_aload (C : ab_cx p l e R s m args below meth c D cl cA E y cc nL ret Ts rm) {i : Nat} (hd : decode cc pc = .ok (.aload i, 2)) (hj : P j = pc + 2) : ab_ok p l e R s m args below meth c Q b D cl cA nL o P pc (ab_nx j (ab_aload i)) := ab_aload_ok hj (fun _ _ _ _ _ _ _ h k => lv_aload C.1 C.2.1 hd h k) (fun _ _ _ _ _ _ h k => lv_aloadN C.1 C.2.1 hd h k)
theorem ok_istore_n (C : ab_cx p l e R s m args below meth c D cl cA E y cc nL ret Ts rm) {k : Fin 4} {i : Nat} (hd : decode cc pc = .ok (.istore_n k, 1)) (hi : (k : Nat) = i) (hn : i < nL) (hj : P j = pc + 1) : ab_ok p l e R s m args below meth c Q b D cl cA nL o P pc (ab_nx j (ab_istore i)) := ab_istore_ok hj fun _ _ _ _ _ _ _ _ h k => lv_istore_n C.1 C.2.1 hd hi h hn rfl k
theorem ok_istore (C : ab_cx p l e R s m args below meth c D cl cA E y cc nL ret Ts rm) {i : Nat} (hd : decode cc pc = .ok (.istore i, 2)) (hn : i < nL) (hj : P j = pc + 2) : ab_ok p l e R s m args below meth c Q b D cl cA nL o P pc (ab_nx j (ab_istore i)) := ab_istore_ok hj fun _ _ _ _ _ _ _ _ h k => lv_istore C.1 C.2.1 hd h hn rfl k
theorem ok_lstore_n (C : ab_cx p l e R s m args below meth c D cl cA E y cc nL ret Ts rm) {k : Fin 4} {i : Nat} (hd : decode cc pc = .ok (.lstore_n k, 1)) (hi : (k : Nat) = i) (hn : i + 1 < nL) (hj : P j = pc + 1) : ab_ok p l e R s m args below meth c Q b D cl cA nL o P pc (ab_nx j (ab_lstore i)) := ab_lstore_ok hj fun _ _ _ _ _ _ _ _ h k => lv_lstore_n C.1 C.2.1 hd hi h hn rfl k
theorem ok_lstore (C : ab_cx p l e R s m args below meth c D cl cA E y cc nL ret Ts rm) {i : Nat} (hd : decode cc pc = .ok (.lstore i, 2)) (hn : i + 1 < nL) (hj : P j = pc + 2) : ab_ok p l e R s m args below meth c Q b D cl cA nL o P pc (ab_nx j (ab_lstore i)) := ab_lstore_ok hj fun _ _ _ _ _ _ _ _ h k => lv_lstore C.1 C.2.1 hd h hn rfl k
theorem ok_astore_n (C : ab_cx p l e R s m args below meth c D cl cA E y cc nL ret Ts rm) {k : Fin 4} {i : Nat} (hd : decode cc pc = .ok (.astore_n k, 1)) (hi : (k : Nat) = i) (hn : i < nL) (hj : P j = pc + 1) : ab_ok p l e R s m args below meth c Q b D cl cA nL o P pc (ab_nx j (ab_astore i)) := ab_astore_ok hj (fun _ _ _ _ _ _ _ _ h k => lv_astore_n C.1 C.2.1 hd hi h hn rfl k) (fun _ _ _ _ _ _ _ h k => lv_astore_nN C.1 C.2.1 hd hi h hn rfl k)
theorem ok_iinc (C : ab_cx p l e R s m args below meth c D cl cA E y cc nL ret Ts rm) {i : Nat} {n : Int} {v : Int32} (hd : decode cc pc = .ok (.iinc i n, 3)) (hv : Int32.ofInt n = v) (hi : i < nL) (hj : P j = pc + 3) : ab_ok p l e R s m args below meth c Q b D cl cA nL o P pc (ab_nx j (ab_iinc i v)) := ab_iinc_ok C.1 C.2.1 hd hv hi hj
theorem ok_iadd (C : ab_cx p l e R s m args below meth c D cl cA E y cc nL ret Ts rm) (hd : decode cc pc = .ok (.iadd, 1)) (hj : P j = pc + 1) : ab_ok p l e R s m args below meth c Q b D cl cA nL o P pc (ab_nx j (ab_bin (fun x y => x + y))) := ab_bin_ok hj fun _ _ _ _ _ _ _ _ k => lv_iadd C.1 C.2.1 hd k
theorem ok_isub (C : ab_cx p l e R s m args below meth c D cl cA E y cc nL ret Ts rm) (hd : decode cc pc = .ok (.isub, 1)) (hj : P j = pc + 1) : ab_ok p l e R s m args below meth c Q b D cl cA nL o P pc (ab_nx j (ab_bin (fun x y => x - y))) := ab_bin_ok hj fun _ _ _ _ _ _ _ _ k => lv_isub C.1 C.2.1 hd k
theorem ok_imul (C : ab_cx p l e R s m args below meth c D cl cA E y cc nL ret Ts rm) (hd : decode cc pc = .ok (.imul, 1)) (hj : P j = pc + 1) : ab_ok p l e R s m args below meth c Q b D cl cA nL o P pc (ab_nx j (ab_bin (fun x y => x * y))) := ab_bin_ok hj fun _ _ _ _ _ _ _ _ k => lv_imul C.1 C.2.1 hd k
theorem ok_iand (C : ab_cx p l e R s m args below meth c D cl cA E y cc nL ret Ts rm) (hd : decode cc pc = .ok (.iand, 1)) (hj : P j = pc + 1) : ab_ok p l e R s m args below meth c Q b D cl cA nL o P pc (ab_nx j (ab_bin (fun x y => x &&& y))) := ab_bin_ok hj fun _ _ _ _ _ _ _ _ k => lv_iand C.1 C.2.1 hd k
theorem ok_ior (C : ab_cx p l e R s m args below meth c D cl cA E y cc nL ret Ts rm) (hd : decode cc pc = .ok (.ior, 1)) (hj : P j = pc + 1) : ab_ok p l e R s m args below meth c Q b D cl cA nL o P pc (ab_nx j (ab_bin (fun x y => x ||| y))) := ab_bin_ok hj fun _ _ _ _ _ _ _ _ k => lv_ior C.1 C.2.1 hd k
theorem ok_ixor (C : ab_cx p l e R s m args below meth c D cl cA E y cc nL ret Ts rm) (hd : decode cc pc = .ok (.ixor, 1)) (hj : P j = pc + 1) : ab_ok p l e R s m args below meth c Q b D cl cA nL o P pc (ab_nx j (ab_bin (fun x y => x ^^^ y))) := ab_bin_ok hj fun _ _ _ _ _ _ _ _ k => lv_ixor C.1 C.2.1 hd k
theorem ok_ishl (C : ab_cx p l e R s m args below meth c D cl cA E y cc nL ret Ts rm) (hd : decode cc pc = .ok (.ishl, 1)) (hj : P j = pc + 1) : ab_ok p l e R s m args below meth c Q b D cl cA nL o P pc (ab_nx j (ab_bin (fun x y => x <<< (y &&& 31)))) := ab_bin_ok hj fun _ _ _ _ _ _ _ _ k => lv_ishl C.1 C.2.1 hd k
theorem ok_ishr (C : ab_cx p l e R s m args below meth c D cl cA E y cc nL ret Ts rm) (hd : decode cc pc = .ok (.ishr, 1)) (hj : P j = pc + 1) : ab_ok p l e R s m args below meth c Q b D cl cA nL o P pc (ab_nx j (ab_bin (fun x y => x >>> (y &&& 31)))) := ab_bin_ok hj fun _ _ _ _ _ _ _ _ k => lv_ishr C.1 C.2.1 hd k
theorem ok_iushr (C : ab_cx p l e R s m args below meth c D cl cA E y cc nL ret Ts rm) (hd : decode cc pc = .ok (.iushr, 1)) (hj : P j = pc + 1) : ab_ok p l e R s m args below meth c Q b D cl cA nL o P pc (ab_nx j (ab_bin (fun x y => (x.toUInt32 >>> (y.toUInt32 &&& Int32.toUInt32 31)).toInt32))) := ab_bin_ok hj fun _ _ _ _ _ _ _ _ k => lv_iushr C.1 C.2.1 hd rfl k
theorem ok_irem (C : ab_cx p l e R s m args below meth c D cl cA E y cc nL ret Ts rm) (hd : decode cc pc = .ok (.irem, 1)) (hj : P j = pc + 1) : ab_ok p l e R s m args below meth c Q b D cl cA nL o P pc (ab_nx j ab_irem) := ab_irem_ok C.1 C.2.1 hd hj
theorem ok_ineg (C : ab_cx p l e R s m args below meth c D cl cA E y cc nL ret Ts rm) (hd : decode cc pc = .ok (.ineg, 1)) (hj : P j = pc + 1) : ab_ok p l e R s m args below meth c Q b D cl cA nL o P pc (ab_nx j (ab_un (fun x => -x))) := ab_un_ok hj fun _ _ _ _ _ _ _ k => lv_ineg C.1 C.2.1 hd k
theorem ok_i2b (C : ab_cx p l e R s m args below meth c D cl cA E y cc nL ret Ts rm) (hd : decode cc pc = .ok (.i2b, 1)) (hj : P j = pc + 1) : ab_ok p l e R s m args below meth c Q b D cl cA nL o P pc (ab_nx j (ab_un (fun x => x.toInt8.toInt32))) := ab_un_ok hj fun _ _ _ _ _ _ _ k => lv_i2b C.1 C.2.1 hd rfl k
theorem ok_ladd (C : ab_cx p l e R s m args below meth c D cl cA E y cc nL ret Ts rm) (hd : decode cc pc = .ok (.ladd, 1)) (hj : P j = pc + 1) : ab_ok p l e R s m args below meth c Q b D cl cA nL o P pc (ab_nx j (ab_lbin (fun x y => x + y))) := ab_lbin_ok hj fun _ _ _ _ _ _ _ _ k => lv_ladd C.1 C.2.1 hd k
theorem ok_lsub (C : ab_cx p l e R s m args below meth c D cl cA E y cc nL ret Ts rm) (hd : decode cc pc = .ok (.lsub, 1)) (hj : P j = pc + 1) : ab_ok p l e R s m args below meth c Q b D cl cA nL o P pc (ab_nx j (ab_lbin (fun x y => x - y))) := ab_lbin_ok hj fun _ _ _ _ _ _ _ _ k => lv_lsub C.1 C.2.1 hd k
theorem ok_lmul (C : ab_cx p l e R s m args below meth c D cl cA E y cc nL ret Ts rm) (hd : decode cc pc = .ok (.lmul, 1)) (hj : P j = pc + 1) : ab_ok p l e R s m args below meth c Q b D cl cA nL o P pc (ab_nx j (ab_lbin (fun x y => x * y))) := ab_lbin_ok hj fun _ _ _ _ _ _ _ _ k => lv_lmul C.1 C.2.1 hd k
theorem ok_land (C : ab_cx p l e R s m args below meth c D cl cA E y cc nL ret Ts rm) (hd : decode cc pc = .ok (.land, 1)) (hj : P j = pc + 1) : ab_ok p l e R s m args below meth c Q b D cl cA nL o P pc (ab_nx j (ab_lbin (fun x y => x &&& y))) := ab_lbin_ok hj fun _ _ _ _ _ _ _ _ k => lv_land C.1 C.2.1 hd k
theorem ok_lor (C : ab_cx p l e R s m args below meth c D cl cA E y cc nL ret Ts rm) (hd : decode cc pc = .ok (.lor, 1)) (hj : P j = pc + 1) : ab_ok p l e R s m args below meth c Q b D cl cA nL o P pc (ab_nx j (ab_lbin (fun x y => x ||| y))) := ab_lbin_ok hj fun _ _ _ _ _ _ _ _ k => lv_lor C.1 C.2.1 hd k
theorem ok_lshl (C : ab_cx p l e R s m args below meth c D cl cA E y cc nL ret Ts rm) (hd : decode cc pc = .ok (.lshl, 1)) (hj : P j = pc + 1) : ab_ok p l e R s m args below meth c Q b D cl cA nL o P pc (ab_nx j (ab_lsh (fun x y => x <<< (y.toInt64 &&& 63)))) := ab_lsh_ok hj fun _ _ _ _ _ _ _ _ k => lv_lshl C.1 C.2.1 hd rfl k
theorem ok_lcmp (C : ab_cx p l e R s m args below meth c D cl cA E y cc nL ret Ts rm) (hd : decode cc pc = .ok (.lcmp, 1)) (hj : P j = pc + 1) : ab_ok p l e R s m args below meth c Q b D cl cA nL o P pc (ab_nx j ab_lcmp) := ab_lcmp_ok C.1 C.2.1 hd hj
theorem ok_i2l (C : ab_cx p l e R s m args below meth c D cl cA E y cc nL ret Ts rm) (hd : decode cc pc = .ok (.i2l, 1)) (hj : P j = pc + 1) : ab_ok p l e R s m args below meth c Q b D cl cA nL o P pc (ab_nx j ab_i2l) := ab_i2l_ok C.1 C.2.1 hd hj
theorem ok_l2i (C : ab_cx p l e R s m args below meth c D cl cA E y cc nL ret Ts rm) (hd : decode cc pc = .ok (.l2i, 1)) (hj : P j = pc + 1) : ab_ok p l e R s m args below meth c Q b D cl cA nL o P pc (ab_nx j ab_l2i) := ab_l2i_ok C.1 C.2.1 hd hj
theorem ok_dup (C : ab_cx p l e R s m args below meth c D cl cA E y cc nL ret Ts rm) (hd : decode cc pc = .ok (.dup, 1)) (hj : P j = pc + 1) : ab_ok p l e R s m args below meth c Q b D cl cA nL o P pc (ab_nx j ab_dup) := ab_dup_ok C.1 C.2.1 hd hj
theorem ok_dup2 (C : ab_cx p l e R s m args below meth c D cl cA E y cc nL ret Ts rm) (hd : decode cc pc = .ok (.dup2, 1)) (hj : P j = pc + 1) : ab_ok p l e R s m args below meth c Q b D cl cA nL o P pc (ab_nx j ab_dup2) := ab_dup2_ok C.1 C.2.1 hd hj
theorem ok_pop (C : ab_cx p l e R s m args below meth c D cl cA E y cc nL ret Ts rm) (hd : decode cc pc = .ok (.pop, 1)) (hj : P j = pc + 1) : ab_ok p l e R s m args below meth c Q b D cl cA nL o P pc (ab_nx j ab_pop) := ab_pop_ok C.1 C.2.1 hd hj
theorem ok_goto (C : ab_cx p l e R s m args below meth c D cl cA E y cc nL ret Ts rm) {off : Int} {tg : Nat} (hd : decode cc pc = .ok (.goto off, 3)) (ho : (pc : Int) + off = (tg : Int)) (ht : P t = tg) : ab_ok p l e R s m args below meth c Q b D cl cA nL o P pc (ab_goto t) := ab_goto_ok C.1 C.2.1 hd ho ht
theorem ok_nonnull (C : ab_cx p l e R s m args below meth c D cl cA E y cc nL ret Ts rm) {off : Int} {tg : Nat} (hd : decode cc pc = .ok (.ifnonnull off, 3)) (ho : (pc : Int) + off = (tg : Int)) (ht : P t = tg) (hj : P j = pc + 3) : ab_ok p l e R s m args below meth c Q b D cl cA nL o P pc (ab_nonnull j t) := ab_nonnull_ok C.1 C.2.1 hd ho hj ht
theorem ok_ifeq (C : ab_cx p l e R s m args below meth c D cl cA E y cc nL ret Ts rm) {off : Int} {tg : Nat} (hd : decode cc pc = .ok (.ifCond .eq off, 3)) (ho : (pc : Int) + off = (tg : Int)) (ht : P t = tg) (hj : P j = pc + 3) : ab_ok p l e R s m args below meth c Q b D cl cA nL o P pc (ab_if j t (fun x => decide (x = 0))) := ab_if_ok hj ht fun _ _ _ _ _ _ _ h1 h2 => lv_if_eq C.1 C.2.1 hd ho (fun q => h1 (decide_eq_true q)) (fun q => h2 (decide_eq_false q))
theorem ok_ifne (C : ab_cx p l e R s m args below meth c D cl cA E y cc nL ret Ts rm) {off : Int} {tg : Nat} (hd : decode cc pc = .ok (.ifCond .ne off, 3)) (ho : (pc : Int) + off = (tg : Int)) (ht : P t = tg) (hj : P j = pc + 3) : ab_ok p l e R s m args below meth c Q b D cl cA nL o P pc (ab_if j t (fun x => !decide (x = 0))) := ab_if_ok hj ht fun _ _ _ _ _ _ _ h1 h2 => lv_if_ne C.1 C.2.1 hd ho (fun q => h1 (by simpa using q)) (fun q => h2 (by simpa using q))
theorem ok_iflt (C : ab_cx p l e R s m args below meth c D cl cA E y cc nL ret Ts rm) {off : Int} {tg : Nat} (hd : decode cc pc = .ok (.ifCond .lt off, 3)) (ho : (pc : Int) + off = (tg : Int)) (ht : P t = tg) (hj : P j = pc + 3) : ab_ok p l e R s m args below meth c Q b D cl cA nL o P pc (ab_if j t (fun x => decide (x < 0))) := ab_if_ok hj ht fun _ _ _ _ _ _ _ h1 h2 => lv_if_lt C.1 C.2.1 hd ho (fun q => h1 (decide_eq_true q)) (fun q => h2 (decide_eq_false q))
theorem ok_ifge (C : ab_cx p l e R s m args below meth c D cl cA E y cc nL ret Ts rm) {off : Int} {tg : Nat} (hd : decode cc pc = .ok (.ifCond .ge off, 3)) (ho : (pc : Int) + off = (tg : Int)) (ht : P t = tg) (hj : P j = pc + 3) : ab_ok p l e R s m args below meth c Q b D cl cA nL o P pc (ab_if j t (fun x => decide (0 ≤ x))) := ab_if_ok hj ht fun _ _ _ _ _ _ _ h1 h2 => lv_if_ge C.1 C.2.1 hd ho (fun q => h1 (decide_eq_true q)) (fun q => h2 (decide_eq_false q))
theorem ok_ifle (C : ab_cx p l e R s m args below meth c D cl cA E y cc nL ret Ts rm) {off : Int} {tg : Nat} (hd : decode cc pc = .ok (.ifCond .le off, 3)) (ho : (pc : Int) + off = (tg : Int)) (ht : P t = tg) (hj : P j = pc + 3) : ab_ok p l e R s m args below meth c Q b D cl cA nL o P pc (ab_if j t (fun x => decide (x ≤ 0))) := ab_if_ok hj ht fun _ _ _ _ _ _ _ h1 h2 => lv_if_le C.1 C.2.1 hd ho (fun q => h1 (decide_eq_true q)) (fun q => h2 (decide_eq_false q))
theorem ok_icmpeq (C : ab_cx p l e R s m args below meth c D cl cA E y cc nL ret Ts rm) {off : Int} {tg : Nat} (hd : decode cc pc = .ok (.if_icmp .eq off, 3)) (ho : (pc : Int) + off = (tg : Int)) (ht : P t = tg) (hj : P j = pc + 3) : ab_ok p l e R s m args below meth c Q b D cl cA nL o P pc (ab_icmp j t (fun x y => decide (x = y))) := ab_icmp_ok hj ht fun _ _ _ _ _ _ _ _ h1 h2 => lv_icmp_eq C.1 C.2.1 hd ho (fun q => h1 (decide_eq_true q)) (fun q => h2 (decide_eq_false q))
theorem ok_icmpne (C : ab_cx p l e R s m args below meth c D cl cA E y cc nL ret Ts rm) {off : Int} {tg : Nat} (hd : decode cc pc = .ok (.if_icmp .ne off, 3)) (ho : (pc : Int) + off = (tg : Int)) (ht : P t = tg) (hj : P j = pc + 3) : ab_ok p l e R s m args below meth c Q b D cl cA nL o P pc (ab_icmp j t (fun x y => !decide (x = y))) := ab_icmp_ok hj ht fun _ _ _ _ _ _ _ _ h1 h2 => lv_icmp_ne C.1 C.2.1 hd ho (fun q => h1 (by simpa using q)) (fun q => h2 (by simpa using q))
theorem ok_icmplt (C : ab_cx p l e R s m args below meth c D cl cA E y cc nL ret Ts rm) {off : Int} {tg : Nat} (hd : decode cc pc = .ok (.if_icmp .lt off, 3)) (ho : (pc : Int) + off = (tg : Int)) (ht : P t = tg) (hj : P j = pc + 3) : ab_ok p l e R s m args below meth c Q b D cl cA nL o P pc (ab_icmp j t (fun x y => decide (x < y))) := ab_icmp_ok hj ht fun _ _ _ _ _ _ _ _ h1 h2 => lv_icmp_lt C.1 C.2.1 hd ho (fun q => h1 (decide_eq_true q)) (fun q => h2 (decide_eq_false q))
theorem ok_icmpge (C : ab_cx p l e R s m args below meth c D cl cA E y cc nL ret Ts rm) {off : Int} {tg : Nat} (hd : decode cc pc = .ok (.if_icmp .ge off, 3)) (ho : (pc : Int) + off = (tg : Int)) (ht : P t = tg) (hj : P j = pc + 3) : ab_ok p l e R s m args below meth c Q b D cl cA nL o P pc (ab_icmp j t (fun x y => decide (y ≤ x))) := ab_icmp_ok hj ht fun _ _ _ _ _ _ _ _ h1 h2 => lv_icmp_ge C.1 C.2.1 hd ho (fun q => h1 (decide_eq_true q)) (fun q => h2 (decide_eq_false q))
theorem ok_icmpgt (C : ab_cx p l e R s m args below meth c D cl cA E y cc nL ret Ts rm) {off : Int} {tg : Nat} (hd : decode cc pc = .ok (.if_icmp .gt off, 3)) (ho : (pc : Int) + off = (tg : Int)) (ht : P t = tg) (hj : P j = pc + 3) : ab_ok p l e R s m args below meth c Q b D cl cA nL o P pc (ab_icmp j t (fun x y => decide (y < x))) := ab_icmp_ok hj ht fun _ _ _ _ _ _ _ _ h1 h2 => lv_icmp_gt C.1 C.2.1 hd ho (fun q => h1 (decide_eq_true q)) (fun q => h2 (decide_eq_false q))
theorem ok_icmple (C : ab_cx p l e R s m args below meth c D cl cA E y cc nL ret Ts rm) {off : Int} {tg : Nat} (hd : decode cc pc = .ok (.if_icmp .le off, 3)) (ho : (pc : Int) + off = (tg : Int)) (ht : P t = tg) (hj : P j = pc + 3) : ab_ok p l e R s m args below meth c Q b D cl cA nL o P pc (ab_icmp j t (fun x y => decide (x ≤ y))) := ab_icmp_ok hj ht fun _ _ _ _ _ _ _ _ h1 h2 => lv_icmp_le C.1 C.2.1 hd ho (fun q => h1 (decide_eq_true q)) (fun q => h2 (decide_eq_false q))
end AB
end
-- 07x.vx.lean.txt
section

/-! ===== BEGIN exceptions that leave a method, and their catching by the caller (launches without stack traces) ===== -/
section VXA
/-! The laws vx_back, vx_callV, vx_callS, vx_callSW, vx_throw0, vx_throwS follow proofs of the library, with one case more: JvmDerived/Free/Laws.lean (Back.of_free), Shelf42/LK1.lean (callV, callS), Shelf/KitTraced.lean (throwNew0V, throwNewS). -/
/-- where a method has thrown q: the class by its name, the cell, what was written, the world -/
def vx_T (XC : String → State → State → Prop) (st : State) (q : Addr) (t : State) (mc ms : Nat) (free : Addr → Prop) : Prop :=
  ∃ (E : String) (ce : Cell) (L : List Loc), XC E st t ∧ t.heap[q]? = some ce ∧ ce.vm = .none ∧ st.vm.findClass E = some ce.cls ∧ st.WarmedH t.vm ∧ st.sameButNew ({ t with vm := st.vm } : State) L mc ms ∧ ∀ z ∈ L, free z.base
def vx_Q (Qc : Array Value → State → Outcome → State → Prop) (XC : String → State → State → Prop) (mc ms : Nat) (free : Addr → Prop) : Array Value → State → Outcome → State → Prop := fun a st o t =>
  (Qc a st o t ∧ ∃ L, FrameEnd st o t L mc ms ∧ ∀ q ∈ L, free q.base) ∨ ∃ q, o = .threw q ∧ vx_T XC st q t mc ms free
/-- a callee that returns or throws -/
def vx_Met (l : Launch) (y : MethodName) (ws : List Cond) (rm : Room) (Pc : Array Value → State → Prop) (Qc : Array Value → State → Outcome → State → Prop) (XC : String → State → State → Prop) (mc ms : Nat) (free : Addr → Prop) : Prop :=
  MetFree l y (headSpec ws rm) Pc (fun _ _ _ _ _ => True) (vx_Q Qc XC mc ms free)
def vx_Post (XC : String → State → State → Prop) (mc ms : Nat) (free : Addr → Prop) : Pt → Array Value → Addr → Pt → Prop := fun A a q B =>
  ∃ (g : JFrame) (mk : MethodId) (t : State) (L : List Loc) (E : String) (ce : Cell), B.U.heap = t.heap ∧ B.U.vm = t.vm ∧ XC E (A.U.calling g mk a) t ∧ t.heap[q]? = some ce ∧ ce.vm = .none ∧ A.U.vm.findClass E = some ce.cls ∧ B.locs = A.locs ++ L ∧ (∀ z ∈ L, free z.base) ∧ B.cells = A.cells + mc ∧ B.slots = A.slots + ms
def vx_Back (l : Launch) (R : Room) (p : Program) (e : Env) (below : List Frame) (s : State) (sargs : Array Value) (y : MethodName) (len W9 : Nat)
    (Pre : Pt → Array Value → Prop) (Post : Pt → Array Value → Option Value → Pt → Prop) (PostX : Pt → Array Value → Addr → Pt → Prop) : Prop :=
  ∀ (m : MethodId) (meth : Method) (c : Code) (A : Pt) (g : JFrame) (ig : Instr) (mk : MethodId) (a : Array Value),
    Stand p l e R s m sargs below meth c A.U A.locs A.cells A.slots → g.method = m → g.locals.size = c.maxLocals → decode c.code g.pc = .ok (ig, len) →
    2 * g.monitorRoom + (g.stack.map fun v => v.category).sum ≤ W9 → A.U.methodNamed? y = some mk → Pre A a →
    (∃ (v : Option Value) (B : Pt), Stand p l e R s m sargs below meth c B.U B.locs B.cells B.slots ∧ Post A a v B ∧
      Steps p.tables e below (doInvoke e (A.U.setTop g) [] mk a).1 (B.U.setTop { g with pc := g.pc + len, stack := v.toList ++ g.stack })) ∨
    (∃ (q : Addr) (B : Pt), Stand p l e R s m sargs below meth c B.U B.locs B.cells B.slots ∧ PostX A a q B ∧
      Steps p.tables e below (doInvoke e (A.U.setTop g) [] mk a).1 ((B.U.setTop g).pushFrame (.throwing q)))
section Payer
variable {l : Launch} {R : Room} {p : Program} {e : Env} {below : List Frame} {s : State} {sargs : Array Value} {y : MethodName} {len W9 : Nat}
theorem vx_back {ws : List Cond} {rm : Room} {Pc : Array Value → State → Prop} {Qc : Array Value → State → Outcome → State → Prop} {XC : String → State → State → Prop} {mc ms : Nat} {free : Addr → Prop} {bytes : ByteArray} {maxL : Nat} {ret : Option FieldType}
    (hM : vx_Met l y ws rm Pc Qc XC mc ms free) (hblind : FrameBlind Pc) (hrc : rm.cells = mc) (hrs : rm.slots = ms)
    (hframes : rm.frames + 1 ≤ R.frames) (hlocals : W9 + (maxL + 11) + rm.locals ≤ R.locals)
    (hws : ∀ w ∈ ws, ∀ a' U, s.WarmedH U.vm → w.before a' U = true) (hcode : Cond.code y bytes maxL ret ∈ ws) (hinit : ∀ a' U, s.WarmedH U.vm → (Cond.initialized y.cls).before a' U = true) :
    vx_Back l R p e below s sargs y len W9 (PreOf R mc ms Pc) (PostOf Qc mc ms free) (vx_Post XC mc ms free) := by
  intro m meth c A g ig mk a X hg hsize hdg hW hn hp
  have h1 : (headSpec ws rm).pre.before a A.U = true := atoms_intro fun w hw => hws w hw _ _ X.warmed
  have h2 : (Cond.code y bytes maxL ret).before a A.U = true := hws _ hcode _ _ X.warmed
  have h3 : (Cond.initialized y.cls).before a A.U = true := hinit _ _ X.warmed
  have h4 : A.cells + (headSpec ws rm).room.cells ≤ R.cells := by rw [show (headSpec ws rm).room.cells = mc from hrc]; exact hp.1
  have h5 : A.slots + (headSpec ws rm).room.slots ≤ R.slots := by rw [show (headSpec ws rm).room.slots = ms from hrs]; exact hp.2.1
  have hPc : Pc a (A.U.calling g mk a) := hblind _ _ _ _ hp.2.2
  obtain ⟨U, Ls, c0, s0⟩ := A
  dsimp only [Pt.U, Pt.locs, Pt.cells, Pt.slots] at h1 h2 h3 h4 h5 X hn hPc ⊢
  obtain ⟨methY, cY, hmY, hcY, -, hlY, -, -, -, -⟩ := Cond.code_spec hn h2
  obtain ⟨kY, hkY, -⟩ := className_of_methodNamed hn
  have hinitY : kY.init = .initialized := Cond.initialized_spec (findClass_of_methodNamed hn) hkY h3
  have h : At U g.method c below := by rw [hg]; exact X.here
  have hlocals9 : W9 + (maxL + 11) + (headSpec ws rm).room.locals ≤ R.locals := hlocals
  have happ : (headSpec ws rm).appliesLoose y e.platform (U.calling g mk a) = true :=
    Spec.appliesLoose_calling (g := g) h hdg hn hkY hinitY
      (X.room_calling (g := g) (R' := (headSpec ws rm).room) hsize hmY hcY hframes (by rw [hlY]; omega) h4 h5) h1
  obtain ⟨mid, hmid⟩ := h.above
  have hfr : (U.setTop g).frames = (.java g :: mid) ++ below := by rw [State.frames_setTop' g h.top, hmid]; rfl
  obtain ⟨o, s₂, hsteps, -, hend, hq⟩ := Steps.callFree hM p X.admits X.cas X.clock (acts := []) hfr happ hPc trivial
  have hq' : vx_Q Qc XC mc ms free a (U.calling g mk a) o s₂ := hq
  rw [State.frames_setTop' g h.top] at hend
  obtain ⟨g₀, hg0⟩ := Option.isSome_iff_exists.mp h.top
  obtain ⟨r, hr⟩ := State.topJava?_eq_some.mp hg0
  have hr' : (({ U with heap := s₂.heap, slotsUsed := s₂.slotsUsed } : State).setVm s₂.vm).frames = .java g₀ :: r := hr
  rcases hq' with ⟨hqc, L, hfe, hL⟩ | ⟨q, rfl, E, ce, L, hx, hce, hcv, hcl, hW₂, hsm, hL⟩
  · obtain ⟨⟨v, rfl⟩, hW₂, e2, q2, q3, q4, q5, q6⟩ := id hfe
    have e3 : s₂ = ({ (U.calling g mk a).setFrames s₂.frames with heap := s₂.heap, slotsUsed := s₂.slotsUsed } : State).setVm s₂.vm := by
      have : s₂ = ({ s₂ with vm := (U.calling g mk a).vm } : State).setVm s₂.vm := rfl
      rw [e2] at this
      exact this
    obtain ⟨c₂, i₂, len₂, hc₂, hd₂, hf₂⟩ := hend
    have hW' : U.WarmedH s₂.vm := hW₂
    have hcc : c₂ = c := by
      have h1 : s₂.code? g.method = U.code? g.method := by
        rw [State.code?_eq, State.code?_eq, hW'.alike.method?]
      exact Option.some.inj (hc₂.symm.trans (h1.trans h.code))
    subst hcc
    have hlen : len₂ = len := by rw [hdg] at hd₂; cases hd₂; rfl
    subst hlen
    have hs₂ : s₂ = (({ U with heap := s₂.heap, slotsUsed := s₂.slotsUsed } : State).setVm s₂.vm).setTop { g with pc := g.pc + len₂, stack := v.toList ++ g.stack } := by
      refine e3.trans ?_
      rw [hf₂, State.calling_eq h.top, State.setFrames_setFrames, State.setTop_of_frames _ hr', hr]
      rfl
    have hsame : U.sameButNew ({ U with heap := s₂.heap, slotsUsed := s₂.slotsUsed } : State) L mc ms := by
      refine ⟨?_, q2, q3, q4, q5, q6⟩
      obtain ⟨t, ht, -⟩ := State.frames_cons hr
      show ({ U with heap := s₂.heap, slotsUsed := s₂.slotsUsed } : State) = { U.setFrames U.frames with heap := s₂.heap, slotsUsed := s₂.slotsUsed }
      rw [State.setFrames_self ht]
    subst hg
    refine Or.inl ⟨v, ⟨(({ U with heap := s₂.heap, slotsUsed := s₂.slotsUsed } : State).setVm s₂.vm), Ls ++ L, c0 + mc, s0 + ms⟩,
      ⟨X.admits, X.cas, X.clock, X.frames, X.room, X.hears, X.method, X.code, (X.here.setHeapUsed s₂.heap s₂.slotsUsed).setVm hW'.alike, X.tail, State.WarmedH.trans X.warmed hW', X.limits, X.bytes, X.same.trans (hsame.setVm s.vm)⟩,
      ⟨g, mk, s₂, L, rfl, rfl, hqc, rfl, hL, rfl, rfl⟩, ?_⟩
    show Steps p.tables e below _ ((({ U with heap := s₂.heap, slotsUsed := s₂.slotsUsed } : State).setVm s₂.vm).setTop { g with pc := g.pc + len₂, stack := v.toList ++ g.stack })
    rw [← hs₂]
    exact hsteps
  · obtain ⟨e2, q2, q3, q4, q5, q6⟩ := id hsm
    have e3 : s₂ = ({ (U.calling g mk a).setFrames s₂.frames with heap := s₂.heap, slotsUsed := s₂.slotsUsed } : State).setVm s₂.vm := by
      have : s₂ = ({ s₂ with vm := (U.calling g mk a).vm } : State).setVm s₂.vm := rfl
      rw [e2] at this
      exact this
    have hf₂ : s₂.frames = .throwing q :: .java g :: U.frames.tail := hend
    have hW' : U.WarmedH s₂.vm := hW₂
    have hs₂ : s₂ = ((({ U with heap := s₂.heap, slotsUsed := s₂.slotsUsed } : State).setVm s₂.vm).setTop g).pushFrame (.throwing q) := by
      refine e3.trans ?_
      rw [hf₂, State.calling_eq h.top, State.setFrames_setFrames, State.pushFrame, State.frames_setTop _ hr', State.setTop_of_frames _ hr', State.setFrames_setFrames, hr]
      rfl
    have hsame : U.sameButNew ({ U with heap := s₂.heap, slotsUsed := s₂.slotsUsed } : State) L mc ms := by
      refine ⟨?_, q2, q3, q4, q5, q6⟩
      obtain ⟨t, ht, -⟩ := State.frames_cons hr
      show ({ U with heap := s₂.heap, slotsUsed := s₂.slotsUsed } : State) = { U.setFrames U.frames with heap := s₂.heap, slotsUsed := s₂.slotsUsed }
      rw [State.setFrames_self ht]
    subst hg
    refine Or.inr ⟨q, ⟨(({ U with heap := s₂.heap, slotsUsed := s₂.slotsUsed } : State).setVm s₂.vm), Ls ++ L, c0 + mc, s0 + ms⟩,
      ⟨X.admits, X.cas, X.clock, X.frames, X.room, X.hears, X.method, X.code, (X.here.setHeapUsed s₂.heap s₂.slotsUsed).setVm hW'.alike, X.tail, State.WarmedH.trans X.warmed hW', X.limits, X.bytes, X.same.trans (hsame.setVm s.vm)⟩,
      ⟨g, mk, s₂, L, E, ce, rfl, rfl, hx, hce, hcv, hcl, rfl, hL, rfl, rfl⟩, ?_⟩
    show Steps p.tables e below _ (((({ U with heap := s₂.heap, slotsUsed := s₂.slotsUsed } : State).setVm s₂.vm).setTop g).pushFrame (.throwing q))
    rw [← hs₂]
    exact hsteps
end Payer
section Calls
variable {p : Program} {l : Launch} {e : Env} {R : Room} {s : State} {m : MethodId} {args : Array Value} {below : List Frame} {meth : Method} {c : Code} {T : State} {locs : List Loc} {cells slots : Nat}
theorem vx_callV (X : Stand p l e R s m args below meth c T locs cells slots) (hexec : p.tables.exec = Jvm.exec) {own C : String} {index : Nat} {y : MethodName} {bytes : ByteArray} {maxL : Nat} {ret : Option FieldType}
    (hown : s.vm.findClass own = some m.cls) (hlink : (Cond.methodLink own index y).before args s = true) (hinst : (Cond.instanceMethod y).before args s = true) (hsel : (Cond.selects C y y).before args s = true)
    (hcode : (Cond.code y bytes maxL ret).before args s = true) (hy : y.cls ≠ "java/lang/invoke/MethodHandle" ∧ y.cls ≠ "java/lang/invoke/VarHandle")
    {W9 : Nat} {Pre : Pt → Array Value → Prop} {Post : Pt → Array Value → Option Value → Pt → Prop} {PostX : Pt → Array Value → Addr → Pt → Prop} (hK : vx_Back l R p e below s args y 3 W9 Pre Post PostX)
    {b : Addr} {cellB : Cell} (hcell : T.heap[b]? = some cellB) (hobj : cellB.vm.isStatics = false) (hcls : s.vm.findClass C = some cellB.cls)
    {g : JFrame} (hg : g.method = m) (hsize : g.locals.size = c.maxLocals) {argsL rest : List Value} (hlen : ∀ sig, parseMethodDescriptor y.desc = some sig → argsL.length = sig.parameters.length)
    (hstack : g.stack = argsL.reverse ++ .ref b :: rest) (hW : 2 * g.monitorRoom + (rest.map fun v => v.category).sum ≤ W9) (hdg : decode c.code g.pc = .ok (.invokevirtual index, 3))
    (hpre : ∀ vm₁, s.WarmedH vm₁ → Pre ⟨T.setVm vm₁, locs, cells, slots⟩ (Value.ref b :: argsL).toArray) :
    (∃ (v : Option Value) (vm₁ : Vm) (B : Pt), s.WarmedH vm₁ ∧ Stand p l e R s m args below meth c B.U B.locs B.cells B.slots ∧ Post ⟨T.setVm vm₁, locs, cells, slots⟩ (Value.ref b :: argsL).toArray v B ∧
      ∀ target, Steps p.tables e below (B.U.setTop { g with pc := g.pc + 3, stack := v.toList ++ rest }) target → Steps p.tables e below (T.setTop g) target) ∨
    (∃ (q : Addr) (vm₁ : Vm) (B : Pt), s.WarmedH vm₁ ∧ Stand p l e R s m args below meth c B.U B.locs B.cells B.slots ∧ PostX ⟨T.setVm vm₁, locs, cells, slots⟩ (Value.ref b :: argsL).toArray q B ∧
      Steps p.tables e below (T.setTop g) ((B.U.setTop { g with stack := rest }).pushFrame (.throwing q))) := by
  obtain ⟨mk, methM, hnamed, hmethM, hstM, habM⟩ := Cond.instanceMethod_spec hinst
  obtain ⟨methM', cM, hmethM', -, -, -, -, -, -, hsigM⟩ := Cond.code_spec hnamed hcode
  cases hmethM.symm.trans hmethM'
  obtain ⟨c2, r2, m2, q1, q2, q3, q4, kP, hkP, hkPi⟩ := Cond.selects_spec hsel
  cases hcls.symm.trans q1
  cases (State.methodFound?_of_named hnamed hy).symm.trans q2
  cases hnamed.symm.trans q3
  have hselP : selectMethod e.platform s.vm cellB.cls mk = .method mk := by rw [Launch.admits_selectMethod X.admits]; exact q4
  obtain ⟨vm₁, X₁, hstep₁⟩ := X.invokevirtual hexec hown hlink hnamed hmethM hstM hkP hkPi hy (a := b) (cell := cellB) hcell
    (fun z h => by rw [h] at hobj; cases hobj) hselP hmethM habM hkP hkPi (g := g) hg (argsL := argsL) (rest := rest) (hlen _ hsigM) hstack hdg
  rcases hK m meth c ⟨T.setVm vm₁, locs, cells, slots⟩ { g with stack := rest } (.invokevirtual index) mk (Value.ref b :: argsL).toArray X₁ hg hsize hdg hW (X₁.named hnamed) (hpre vm₁ X₁.warmed) with ⟨v, B, X', hpost, hsteps⟩ | ⟨q, B, X', hpost, hsteps⟩
  · exact Or.inl ⟨v, vm₁, B, X₁.warmed, X', hpost, fun target h => hstep₁ _ fun acts => by rw [doInvoke_state]; exact hsteps.trans h⟩
  · exact Or.inr ⟨q, vm₁, B, X₁.warmed, X', hpost, hstep₁ _ fun acts => by rw [doInvoke_state]; exact hsteps⟩
theorem vx_callS (X : Stand p l e R s m args below meth c T locs cells slots) (hexec : p.tables.exec = Jvm.exec) {own : String} {index : Nat} {y : MethodName} {bytes : ByteArray} {maxL : Nat} {ret : Option FieldType}
    (hown : s.vm.findClass own = some m.cls) (hlink : (Cond.methodLink own index y).before args s = true) (hstat : (Cond.static y).before args s = true) (hinit : (Cond.initialized y.cls).before args s = true)
    (hcode : (Cond.code y bytes maxL ret).before args s = true) (hy : y.cls ≠ "java/lang/invoke/MethodHandle" ∧ y.cls ≠ "java/lang/invoke/VarHandle")
    {W9 : Nat} {Pre : Pt → Array Value → Prop} {Post : Pt → Array Value → Option Value → Pt → Prop} {PostX : Pt → Array Value → Addr → Pt → Prop} (hK : vx_Back l R p e below s args y 3 W9 Pre Post PostX)
    {g : JFrame} (hg : g.method = m) (hsize : g.locals.size = c.maxLocals) {argsL rest : List Value} (hlen : ∀ sig, parseMethodDescriptor y.desc = some sig → argsL.length = sig.parameters.length)
    (hstack : g.stack = argsL.reverse ++ rest) (hW : 2 * g.monitorRoom + (rest.map fun v => v.category).sum ≤ W9) (hdg : decode c.code g.pc = .ok (.invokestatic index, 3))
    (hpre : ∀ vm₁, s.WarmedH vm₁ → Pre ⟨T.setVm vm₁, locs, cells, slots⟩ argsL.toArray) :
    (∃ (v : Option Value) (vm₁ : Vm) (B : Pt), s.WarmedH vm₁ ∧ Stand p l e R s m args below meth c B.U B.locs B.cells B.slots ∧ Post ⟨T.setVm vm₁, locs, cells, slots⟩ argsL.toArray v B ∧
      ∀ target, Steps p.tables e below (B.U.setTop { g with pc := g.pc + 3, stack := v.toList ++ rest }) target → Steps p.tables e below (T.setTop g) target) ∨
    (∃ (q : Addr) (vm₁ : Vm) (B : Pt), s.WarmedH vm₁ ∧ Stand p l e R s m args below meth c B.U B.locs B.cells B.slots ∧ PostX ⟨T.setVm vm₁, locs, cells, slots⟩ argsL.toArray q B ∧
      Steps p.tables e below (T.setTop g) ((B.U.setTop { g with stack := rest }).pushFrame (.throwing q))) := by
  obtain ⟨mk, hnamed⟩ := Cond.code_named hcode
  obtain ⟨methM, cM, hmethM, -, -, -, -, -, -, hsigM⟩ := Cond.code_spec hnamed hcode
  have hstatic : methM.isStatic = true := Cond.static_spec hnamed hmethM hstat
  obtain ⟨kP, hkP, -⟩ := className_of_methodNamed hnamed
  have hinitP : kP.init = .initialized := Cond.initialized_spec (findClass_of_methodNamed hnamed) hkP hinit
  obtain ⟨vm₁, X₁, hstep₁⟩ := X.invokestatic hexec hown hlink hnamed hmethM hstatic hkP hinitP hy (g := g) hg (argsL := argsL) (rest := rest) (hlen _ hsigM) hstack hdg
  rcases hK m meth c ⟨T.setVm vm₁, locs, cells, slots⟩ { g with stack := rest } (.invokestatic index) mk argsL.toArray X₁ hg hsize hdg hW (X₁.named hnamed) (hpre vm₁ X₁.warmed) with ⟨v, B, X', hpost, hsteps⟩ | ⟨q, B, X', hpost, hsteps⟩
  · exact Or.inl ⟨v, vm₁, B, X₁.warmed, X', hpost, fun target h => hstep₁ _ fun acts => by rw [doInvoke_state]; exact hsteps.trans h⟩
  · exact Or.inr ⟨q, vm₁, B, X₁.warmed, X', hpost, hstep₁ _ fun acts => by rw [doInvoke_state]; exact hsteps⟩
end Calls
theorem vx_cls {s : State} {T : State} {vm₁ : Vm} {E : String} {k : ClassId} (hW : s.WarmedH vm₁) (h : (T.setVm vm₁).vm.findClass E = some k) : s.vm.findClass E = some k := by
  have h1 : vm₁.findClass E = some k := h
  rw [hW.alike.findClass] at h1
  exact h1
/-- the method's frame g, with q thrown over it -/
def vx_W (p : Program) (l : Launch) (e : Env) (R : Room) (s : State) (m : MethodId) (args : Array Value) (below : List Frame) (meth : Method) (c : Code) (H : Heap) (locs : List Loc) (cells slots : Nat) (Q : State → Prop) (g : JFrame) (q : Addr) : Prop :=
  ∀ T : State, T.heap = H → Stand p l e R s m args below meth c T locs cells slots → ∃ t, Steps p.tables e below ((T.setTop g).pushFrame (.throwing q)) t ∧ Q t
def vx_Run (p : Program) (l : Launch) (e : Env) (R : Room) (s : State) (m : MethodId) (args : Array Value) (below : List Frame) (meth : Method) (c : Code) (H : Heap) (locs : List Loc) (cells slots mc ms : Nat) (g : JFrame) (rest : List Value) (Qa : State → Outcome → State → Prop) (XC : String → State → State → Prop) (free : Addr → Prop) : Prop :=
  ∀ T : State, T.heap = H → Stand p l e R s m args below meth c T locs cells slots →
    (∃ (v : Option Value) (st₀ t T' : State) (L : List Loc), st₀.heap = H ∧ Stand p l e R s m args below meth c T' (locs ++ L) (cells + mc) (slots + ms) ∧ (∀ q ∈ L, free q.base) ∧ T'.heap = t.heap ∧ T'.vm = t.vm ∧ Qa st₀ (.returned v) t ∧
      Goes p e below T g T' { g with pc := g.pc + 3, stack := v.toList ++ rest }) ∨
    (∃ (q : Addr) (st₀ t T' : State) (L : List Loc) (E : String) (ce : Cell), st₀.heap = H ∧ Stand p l e R s m args below meth c T' (locs ++ L) (cells + mc) (slots + ms) ∧ (∀ z ∈ L, free z.base) ∧ T'.heap = t.heap ∧ T'.vm = t.vm ∧ XC E st₀ t ∧ t.heap[q]? = some ce ∧ ce.vm = .none ∧ s.vm.findClass E = some ce.cls ∧
      Steps p.tables e below (T.setTop g) ((T'.setTop { g with stack := rest }).pushFrame (.throwing q)))
section Runs
variable {p : Program} {l : Launch} {e : Env} {R : Room} {s : State} {m : MethodId} {args : Array Value} {below : List Frame} {meth : Method} {c : Code} {H : Heap} {locs : List Loc} {cells slots : Nat}
variable {y : MethodName} {bytes cc : ByteArray} {maxL nL mc ms n index : Nat} {ret : Option FieldType} {ws : List Cond} {rm : Room} {Pc : Array Value → State → Prop} {Qc : Array Value → State → Outcome → State → Prop} {XC : String → State → State → Prop} {free : Addr → Prop} {Ts : List Cond} {own C : String} {b : Addr} {As rest : List Value} {g : JFrame}
theorem vx_callBack (cb : CallB R s args own index y bytes maxL ret ws rm mc ms n) (hM : vx_Met l y ws rm Pc Qc XC mc ms free) (hbl : FrameBlind Pc) : vx_Back l R p e below s args y 3 8 (PreOf R mc ms Pc) (PostOf Qc mc ms free) (vx_Post XC mc ms free) := by
  obtain ⟨hrc, hrs, hfr, hlo, hws, hcw, -, hini, -⟩ := cb
  exact vx_back (bytes := bytes) (maxL := maxL) (ret := ret) hM hbl hrc hrs hfr hlo hws hcw (fun a' U hW => word_at hW (Or.inl (by first | rfl | simp [Cond.onTables, Cond.keeps, Cond.steady])) hini)
theorem vx_runV (S : CallFix p m c cc nL s args Ts own) (hM : vx_Met l y ws rm Pc Qc XC mc ms free) (cw : CallW R s args own C index y bytes maxL ret ws rm mc ms n) (hp : PreV s H C b Pc As)
    (hg : g.method = m) (hn : As.length = n) (hsize : g.locals.size = nL) (hstack : g.stack = As.reverse ++ .ref b :: rest) (hW : 2 * g.monitorRoom + (rest.map fun v => v.category).sum ≤ 8) (hdg : decode cc g.pc = .ok (.invokevirtual index, 3)) (hf : cells + mc ≤ R.cells ∧ slots + ms ≤ R.slots) :
    vx_Run p l e R s m args below meth c H locs cells slots mc ms g rest (Qc (Value.ref b :: As).toArray) XC free := by
  have hK : vx_Back l R p e below s args y 3 8 (PreOf R mc ms Pc) (PostOf Qc mc ms free) (vx_Post XC mc ms free) := vx_callBack cw.1 hM hp.1
  obtain ⟨⟨-, -, -, -, -, -, hcode, -, hy, hlen, hl⟩, hin, hse⟩ := cw
  obtain ⟨hx, hb, hml, ho, -⟩ := S
  obtain ⟨-, ⟨cellB, hcB, hoB, hclB⟩, hPc⟩ := hp
  intro T hT X
  rcases vx_callV X hx (C := C) (bytes := bytes) (maxL := maxL) (ret := ret) ho hl hin hse hcode hy hK (by rw [hT]; exact hcB) hoB hclB hg (hsize.trans hml.symm) (argsL := As) (rest := rest) (fun sig h => hn.trans (hlen sig h)) hstack hW (by rw [hb]; exact hdg)
    (fun vm₁ hW₁ => ⟨hf.1, hf.2, hPc (T.setVm vm₁) hT hW₁⟩) with ⟨v, vm₁, ⟨U', l2, c2, s2⟩, hW₁, X', ⟨g', mk, t, L, e1, e2, hq, h1, hL, h2, h3⟩, st⟩ | ⟨q, vm₁, ⟨U', l2, c2, s2⟩, hW₁, X', ⟨g', mk, t, L, E, ce, e1, e2, hq, hce, hcv, hcl, h1, hL, h2, h3⟩, st⟩
  · dsimp only [Pt.U, Pt.locs, Pt.cells, Pt.slots] at X' e1 e2 h1 h2 h3 st
    subst h1; subst h2; subst h3
    exact Or.inl ⟨v, (T.setVm vm₁).calling g' mk (Value.ref b :: As).toArray, t, U', L, hT, X', hL, e1, e2, hq, st⟩
  · dsimp only [Pt.U, Pt.locs, Pt.cells, Pt.slots] at X' e1 e2 h1 h2 h3 st hcl
    subst h1; subst h2; subst h3
    exact Or.inr ⟨q, (T.setVm vm₁).calling g' mk (Value.ref b :: As).toArray, t, U', L, E, ce, hT, X', hL, e1, e2, hq, hce, hcv, vx_cls hW₁ hcl, st⟩
end Runs
section Rows
variable {p : Program} {l : Launch} {e : Env} {R : Room} {s : State} {m : MethodId} {args : Array Value} {below : List Frame} {meth : Method} {c : Code} {H : Heap} {locs : List Loc} {cells slots : Nat} {Q : State → Prop}
variable {mc ms : Nat} {free : Addr → Prop} {A0 A1 : Nat → Prop} {H0 : Heap} {a : Array Value} {pc : Nat} {ls : Array Slot} {st0 rest : List Value}
end Rows
section Ends
variable {p : Program} {l : Launch} {e : Env} {R : Room} {s : State} {m : MethodId} {args : Array Value} {below : List Frame} {meth : Method} {c : Code} {H : Heap} {locs : List Loc} {cells slots : Nat} {Q : State → Prop}
variable {mc ms : Nat} {free : Addr → Prop} {A0 A1 : Nat → Prop} {H0 : Heap} {a : Array Value} {ls : Array Slot} {st0 rest : List Value}
variable {Qc : Array Value → State → Outcome → State → Prop} {XC : String → State → State → Prop}
/-- what a body that may throw owes at its end -/
def vx_MQ (below : List Frame) (Qc : Array Value → State → Outcome → State → Prop) (XC : String → State → State → Prop) (a : Array Value) (s : State) (mc ms : Nat) (free : Addr → Prop) : State → Prop := fun t =>
  ∃ o, t.status = .running ∧ Ended t below o ∧ vx_Q Qc XC mc ms free a s o t
theorem vx_ret {g : JFrame} {mc ms : Nat} (k : W p l e R s m args below meth c H locs cells slots (MQ below Qc args s mc ms free) g) : W p l e R s m args below meth c H locs cells slots (vx_MQ below Qc XC args s mc ms free) g := by
  intro T hT X
  obtain ⟨t, a1, o, b1, b2, b3, b4⟩ := k T hT X
  exact ⟨t, a1, o, b1, b2, Or.inl ⟨b3, b4⟩⟩
theorem vx_frame {U : State} {k n : Nat} (h : s.sameButNew ({ U with vm := s.vm } : State) locs k n) : s.heap.size ≤ U.heap.size ∧ ∀ q : Nat, q < s.heap.size → (∀ z ∈ locs, z.base ≠ q) → U.heap[q]? = s.heap[q]? := by
  obtain ⟨-, h2, -, -, -, h6⟩ := h
  refine ⟨h2, fun q hq hz => ?_⟩
  obtain ⟨c9, e1, e2, e3, e4⟩ := h6 q _ (Array.getElem?_eq_getElem hq)
  have hs : c9.slots = (s.heap[q]).slots := Array.ext_getElem? fun i => e4 i fun hm => hz _ hm rfl
  have h9 : c9 = s.heap[q] := by
    rw [hs] at e2
    exact e2
  have e5 : U.heap[q]? = some c9 := e1
  rw [e5, h9, Array.getElem?_eq_getElem hq]
/-- the words of a throw but the four that speak of the heap -/
def vx_no (w : Cond) : Bool := decide (w ≠ .isRef (.static Bundle.tN "UNASSIGNED_STACK" Bundle.steD)) && decide (w ≠ .isRef (.static Bundle.tN "SUPPRESSED_SENTINEL" Bundle.listD)) && decide (w ≠ .laysStatic Bundle.tN "UNASSIGNED_STACK" Bundle.steD) && decide (w ≠ .laysStatic Bundle.tN "SUPPRESSED_SENTINEL" Bundle.listD)
/-- a word that the tables alone decide, or a good one -/
def vx_ot (w : Cond) : Bool := w.onTables || goodWord w
theorem vx_ot_at {args a' : Array Value} {s U : State} {w : Cond} (hW : s.WarmedH U.vm) (hvm : s.vm = U.vm) (hg : vx_ot w = true) (h : w.before args s = true) : w.before a' U = true := by
  simp only [vx_ot, Bool.or_eq_true] at hg
  rcases hg with hg | hg
  · exact va_tabs hg hvm h
  · exact word_at hW (good_of_word hg) h
/-- a list's words: the good ones out of the method's own list, the others by premises of their own -/
theorem vx_hat {args : Array Value} {s : State} {L B : List Cond} (h1 : ∀ w ∈ L.filter goodWord, w.before args s = true) (h2 : ∀ w ∈ L.filter (fun w => !goodWord w), w ∈ B) (h3 : ∀ w ∈ B, w.before args s = true) : ∀ w ∈ L, w.before args s = true := by
  intro w hw
  by_cases g : goodWord w = true
  · exact h1 w (List.mem_filter.mpr ⟨hw, g⟩)
  · refine h3 w (h2 w (List.mem_filter.mpr ⟨hw, ?_⟩))
    show (!goodWord w) = true
    cases hgw : goodWord w
    · rfl
    · exact absurd hgw g
theorem vx_c {args : Array Value} {s : State} {w : Cond} {B : List Cond} (h : w.before args s = true) (t : ∀ w ∈ B, w.before args s = true) : ∀ w' ∈ w :: B, w'.before args s = true := fun w' h' => (List.mem_cons.mp h').elim (fun e => by rw [e]; exact h) (t w')
theorem vx_own {args : Array Value} {s : State} {L : List Cond} (h1 : ∀ w ∈ L.filter vx_no, w.before args s = true)
    (hU : (Cond.isRef (.static Bundle.tN "UNASSIGNED_STACK" Bundle.steD)).before args s = true) (hN : (Cond.isRef (.static Bundle.tN "SUPPRESSED_SENTINEL" Bundle.listD)).before args s = true)
    (lU : (Cond.laysStatic Bundle.tN "UNASSIGNED_STACK" Bundle.steD).before args s = true) (lN : (Cond.laysStatic Bundle.tN "SUPPRESSED_SENTINEL" Bundle.listD).before args s = true) : ∀ w ∈ L, w.before args s = true := by
  intro w hw
  by_cases e1 : w = .isRef (.static Bundle.tN "UNASSIGNED_STACK" Bundle.steD)
  · rw [e1]; exact hU
  · by_cases e2 : w = .isRef (.static Bundle.tN "SUPPRESSED_SENTINEL" Bundle.listD)
    · rw [e2]; exact hN
    · by_cases e3 : w = .laysStatic Bundle.tN "UNASSIGNED_STACK" Bundle.steD
      · rw [e3]; exact lU
      · by_cases e4 : w = .laysStatic Bundle.tN "SUPPRESSED_SENTINEL" Bundle.listD
        · rw [e4]; exact lN
        · exact h1 w (List.mem_filter.mpr ⟨hw, by unfold vx_no; rw [decide_eq_true e1, decide_eq_true e2, decide_eq_true e3, decide_eq_true e4]; rfl⟩)
/-- where a static field lies, its class's statics cell in H -/
def vx_L (C n d : String) (A : Nat → Prop) (U : State) (H : Heap) : Prop := ∃ (c : ClassId) (k : Class) (i : Nat) (f : Field) (a : Nat) (cell : Cell), U.vm.findClass C = some c ∧ U.fieldFound? C n d = some (c, k, i, f) ∧ f.isStatic = true ∧ k.statics = some a ∧ H[a]? = some cell ∧ cell.vm.isStatics = true ∧ cell.cls = c ∧ f.slot < cell.slots.size ∧ k.staticTypes[f.slot]? = some f.type ∧ ¬ A a
theorem vx_L.moved {C n d : String} {A : Nat → Prop} {u U : State} {H : Heap} (hvm : u.vm.Alike U.vm) (h : vx_L C n d A u H) : vx_L C n d A U H := by
  obtain ⟨c, k, i, f, a, cell, h1, h2, h3, h4, h5, h6, h7, h8, h9, h10⟩ := h
  obtain ⟨k', hi', he⟩ := State.fieldFound?_setVm hvm h2
  exact ⟨c, k', i, f, a, cell, by rw [hvm.findClass]; exact h1, hi', h3, by rw [he]; exact h4, h5, h6, h7, h8, by rw [he]; exact h9, h10⟩
theorem vx_L.kept {C n d : String} {A : Nat → Prop} {U : State} {H H1 : Heap} (h : vx_L C n d A U H) (hq : ∀ a : Nat, a < H.size → ¬ A a → H1[a]? = H[a]?) : vx_L C n d A U H1 := by
  obtain ⟨c, k, i, f, a, cell, h1, h2, h3, h4, h5, h6, h7, h8, h9, h10⟩ := h
  exact ⟨c, k, i, f, a, cell, h1, h2, h3, h4, by rw [hq a (Array.getElem?_eq_some_iff.mp h5).1 h10]; exact h5, h6, h7, h8, h9, h10⟩
theorem vx_L.word {C n d : String} {A : Nat → Prop} {s : State} {args : Array Value} (h : vx_L C n d A s s.heap) : (Cond.laysStatic C n d).before args s = true := by
  obtain ⟨c, k, i, f, a, cell, h1, h2, h3, h4, h5, h6, h7, h8, h9, -⟩ := h
  show (Cond.laysStatic C n d).holds args s none s [] = true
  exact Cond.laysStatic_of h1 h2 h3 h4 h5 h6 h7 h8 h9
/-- .. and what it holds: null or some reference -/
def vx_Zq (C n d : String) (A : Nat → Prop) (U : State) (H : Heap) : Prop := va_Zq C n d A U H ∧ vx_L C n d A U H
theorem vx_Zq.moved {C n d : String} {A : Nat → Prop} {u U : State} {H : Heap} (hvm : u.vm.Alike U.vm) (h : vx_Zq C n d A u H) : vx_Zq C n d A U H := ⟨va_Zq.moved hvm h.1, vx_L.moved hvm h.2⟩
theorem vx_Zq.kept {C n d : String} {A : Nat → Prop} {U : State} {H H1 : Heap} (h : vx_Zq C n d A U H) (hq : ∀ a : Nat, a < H.size → ¬ A a → H1[a]? = H[a]?) : vx_Zq C n d A U H1 := ⟨va_Zq.kept h.1 hq, vx_L.kept h.2 hq⟩
theorem vx_Zqof {args : Array Value} {s : State} {C n d : String} {A : Nat → Prop} (hl : (Cond.laysStatic C n d).before args s = true) (hini : (Cond.initialized C).before args s = true) (h : (Cond.isRef (.static C n d)).before args s = true) (hA : ∀ a : Nat, a < s.heap.size → ¬ A a) : vx_Zq C n d A s s.heap := by
  refine ⟨va_Zqof hl hini h hA, ?_⟩
  obtain ⟨c, k, i, f, a, cell, h1, h2, h3, h4, h5, h6, h7, h8, h9⟩ := Cond.laysStatic_spec hl
  exact ⟨c, k, i, f, a, cell, h1, h2, h3, h4, h5, h6, h7, h8, h9, hA a (Array.getElem?_eq_some_iff.mp h5).1⟩
theorem vx_isRef {C n d : String} {v : Value} {A : Nat → Prop} {s : State} {args : Array Value} (h : va_Z C n d v A s s.heap) (hv : v.isRef = true) : (Cond.isRef (.static C n d)).before args s = true := by
  obtain ⟨cf, kf, fi, f, a, cell, h1, h2, h3, h4, h5, h6, h7, -⟩ := h
  have he : (Term.static C n d).eval args s none [] s = some v := by
    simp [Term.eval, State.fieldNamed?, h1, h2, h4, h5, h6, h7]
  simp only [Cond.before, Cond.holds, Cond.value, he]
  cases v <;> simp_all [Value.isRef]
theorem vx_isRefq {C n d : String} {A : Nat → Prop} {s : State} {args : Array Value} (h : va_Zq C n d A s s.heap) : (Cond.isRef (.static C n d)).before args s = true := by
  rcases h with h | ⟨t, h⟩
  · exact vx_isRef h rfl
  · exact vx_isRef h rfl
/-- the same frame, seen from here: as if the method were called anew in this heap -/
theorem vx_rebase {T : State} (X : Stand p l e R s m args below meth c T locs cells slots) {R' : Room} (hf : R'.frames ≤ R.frames) (hl : R'.locals ≤ R.locals) (hc : cells + R'.cells ≤ R.cells) (hs : slots + R'.slots ≤ R.slots) :
    Stand p l e R' ((T.setVm s.vm).setFrames (.invoking m args :: below)) m args below meth c T [] 0 0 := by
  have htop : (T.setVm s.vm).topJava?.isSome := X.here.top
  have hF : ((T.setVm s.vm).setFrames (.invoking m args :: below)).frames = .invoking m args :: below := State.frames_setFrames _ (State.cur_lt_of_top htop)
  obtain ⟨g₀, hg0⟩ := Option.isSome_iff_exists.mp htop
  obtain ⟨r, hr⟩ := State.topJava?_eq_some.mp hg0
  have hl9 : e.platform.stackLimits (T.setVm s.vm).me = e.platform.stackLimits s.me := X.limits
  have hb9 : (T.setVm s.vm).me.stackBytes = s.me.stackBytes := X.bytes
  refine ⟨X.admits, X.cas, X.clock, hF, ?_, X.hears, X.method, X.code, X.here, X.tail, X.warmed, ?_, ?_, ?_⟩
  · have h := X.room
    have hU : ((T.setVm s.vm).setFrames (.invoking m args :: below)).localsInUse = s.localsInUse := by
      rw [State.localsInUse_invoking hF (meth := meth) (c := c) X.method X.code, State.localsInUse_invoking X.frames X.method X.code]
    simp only [State.hasRoom, Bool.and_eq_true, decide_eq_true_eq] at h ⊢
    obtain ⟨⟨⟨⟨h1, h2, h3, h4, h5, h6⟩, h7⟩, h8⟩, h9⟩ := h
    rw [X.frames, List.length_cons] at h2 h3
    have q1 := X.heapSize
    have q2 := X.used
    simp only [hF, hU, List.length_cons, State.stackLimits_setFrames, State.stackBytes_setFrames, hl9, hb9]
    refine ⟨⟨⟨⟨by omega, by omega, by omega, by omega, by omega, h6⟩, ?_⟩, ?_⟩, X.book⟩
    · show T.heap.size + R'.cells ≤ e.platform.maxCells
      omega
    · show T.slotsUsed + R'.slots ≤ e.platform.maxSlots
      omega
  · rw [State.stackLimits_setFrames]; rfl
  · rw [State.stackBytes_setFrames]; rfl
  · refine ⟨?_, Nat.le_refl _, Nat.le_refl _, ?_, ?_, fun a c9 h9 => ⟨c9, h9, rfl, rfl, fun _ _ => rfl⟩⟩
    · obtain ⟨t, ht, -⟩ := State.frames_cons hr
      show T.setVm s.vm = { ((T.setVm s.vm).setFrames (.invoking m args :: below)).setFrames (T.setVm s.vm).frames with heap := T.heap, slotsUsed := T.slotsUsed }
      rw [State.setFrames_setFrames, State.setFrames_self ht]
      rfl
    · show T.slotsUsed = T.slotsUsed + ((T.heap.toList.drop T.heap.size).map (·.slots.size)).sum
      rw [List.drop_eq_nil_of_le (Nat.le_of_eq Array.length_toList)]
      rfl
    · show ((T.heap.toList.drop T.heap.size).map (·.slots.size)).sum ≤ 0
      rw [List.drop_eq_nil_of_le (Nat.le_of_eq Array.length_toList)]
      exact Nat.le_refl _
end Ends
section Bodies
variable {l : Launch}
theorem vx_ofW {y : MethodName} {ws ws' : List Cond} {rm : Room} {Pc : Array Value → State → Prop} {Qc : Array Value → State → Outcome → State → Prop} {XC : String → State → State → Prop} {mc ms : Nat} {free : Addr → Prop} {cc : ByteArray} {maxL : Nat} {ret : Option FieldType}
    (hy : plainName y.cls = true) (hw : ws = Cond.code y cc maxL ret :: ws')
    (body : ∀ p e s m args below meth c s₁, BodyLoose p l y (headSpec ws rm) cc maxL ret e s m args below meth c s₁ → c.maxLocals = maxL → (∀ x ∈ c.exceptionTable.toList, False) → Pc args s →
      W p l e (headSpec ws rm).room s m args below meth c s.heap [] 0 0 (vx_MQ below Qc XC args s mc ms free) (entryFrame m args maxL)) : vx_Met l y ws rm Pc Qc XC mc ms free := by
  refine MetFree.of_bodyS (code := cc) (maxLocals := maxL) (ret := ret) hy ?_ ?_
  · intro args s m h hn
    obtain ⟨meth, c, h1, h2, h3, h4, h5, h6, -, -⟩ := Cond.code_spec hn (atoms_spec (ws := ws) h _ (by rw [hw]; exact List.mem_cons_self))
    exact ⟨meth, c, h1, h2, h3, h4, h5, h6⟩
  · intro p e s m args below meth c s₁ B hml hP _
    have hh0 : s₁.heap = s.heap := by rw [B.state]; rfl
    have ht : ∀ x ∈ c.exceptionTable.toList, False := by
      obtain ⟨meth9, c9, h1, h2, -, -, -, -, h7, -⟩ := Cond.code_spec B.named (atoms_spec (ws := ws) B.pre _ (by rw [hw]; exact List.mem_cons_self))
      cases Option.some.inj (h1.symm.trans B.method)
      cases Option.some.inj (h2.symm.trans (Stand.of_body B).code)
      intro x hx
      rw [Array.isEmpty_iff.mp h7] at hx
      cases hx
    obtain ⟨t, a1, o, b1, b2, b3⟩ := body p e s m args below meth c s₁ B hml ht hP s₁ hh0 (Stand.of_body B)
    exact ⟨t, o, a1, b1, b2, b3⟩
/-- the table of a body with handlers -/
theorem vx_table {p : Program} {x y : MethodName} {S : Spec} {cc bytes : ByteArray} {maxL maxL' : Nat} {ret ret' : Option FieldType} {e : Env} {s s₁ : State} {m : MethodId} {args : Array Value} {below : List Frame} {meth : Method} {c : Code} {hh : List (Nat × Nat × Nat × Nat)}
    (B : BodyLoose p l y S cc maxL ret e s m args below meth c s₁) (h : (Cond.codeWith y bytes maxL' ret' hh).before args s = true) : c.exceptionTable.toList = tableOf hh := by
  obtain ⟨m9, meth9, c9, hn9, h1, h2, -, -, h6, -⟩ := Cond.codeWith_spec h
  cases Option.some.inj (hn9.symm.trans B.named)
  cases Option.some.inj (h1.symm.trans B.method)
  cases Option.some.inj (h2.symm.trans (Stand.of_body B).code)
  rw [← h6, table_eq]
end Bodies
end VXA
/-! ===== END ===== -/
/-! ===== BEGIN a static call of a method with an exception table ===== -/
section VXS
variable {p : Program} {l : Launch} {e : Env} {R : Room} {s : State} {m : MethodId} {args : Array Value} {below : List Frame} {meth : Method} {c : Code} {T : State} {H : Heap} {locs : List Loc} {cells slots : Nat}
abbrev vx_CSW (R : Room) (s : State) (args : Array Value) (own : String) (index : Nat) (y : MethodName) (bytes : ByteArray) (maxL : Nat) (ret : Option FieldType) (hh : List (Nat × Nat × Nat × Nat)) (ws : List Cond) (rm : Room) (mc ms n : Nat) : Prop :=
  (rm.cells = mc ∧ rm.slots = ms ∧ rm.frames + 1 ≤ R.frames ∧ 8 + (maxL + 11) + rm.locals ≤ R.locals ∧ (∀ w ∈ ws, ∀ (a' : Array Value) (U : State), s.WarmedH U.vm → w.before a' U = true) ∧ Cond.codeWith y bytes maxL ret hh ∈ ws) ∧
  (Cond.codeWith y bytes maxL ret hh).before args s = true ∧ (Cond.initialized y.cls).before args s = true ∧ (y.cls ≠ "java/lang/invoke/MethodHandle" ∧ y.cls ≠ "java/lang/invoke/VarHandle") ∧
  (∀ sig, parseMethodDescriptor y.desc = some sig → n = sig.parameters.length) ∧ (Cond.methodLink own index y).before args s = true ∧ (Cond.static y).before args s = true
theorem vx_cwSW {own : String} {index maxL mc ms : Nat} {y : MethodName} {bytes : ByteArray} {ret : Option FieldType} {hh : List (Nat × Nat × Nat × Nat)} {Ts ws ws' : List Cond} {rm : Room} (n : Nat) (ht : ∀ w ∈ Ts, w.before args s = true) (hT : GoodIn Ts (va_wsS own index y ws)) (hw : ws = Cond.codeWith y bytes maxL ret hh :: ws') (hrc : rm.cells = mc) (hrs : rm.slots = ms)
    (hd : y.cls ≠ "java/lang/invoke/MethodHandle" ∧ y.cls ≠ "java/lang/invoke/VarHandle" ∧ (parseMethodDescriptor y.desc).map (fun d => d.parameters.length) = some n) (hR : rm.frames + 1 ≤ R.frames ∧ 8 + (maxL + 11) + rm.locals ≤ R.locals) :
    vx_CSW R s args own index y bytes maxL ret hh ws rm mc ms n := by
  have ok : ∀ w ∈ va_wsS own index y ws, w.before args s = true := fun w h => ht w (hT w h).1
  have hG : GoodIn Ts ws := fun w h => hT w (by unfold va_wsS; exact List.mem_append_right _ h)
  have hc : Cond.codeWith y bytes maxL ret hh ∈ ws := by rw [hw]; exact List.mem_cons_self
  refine ⟨⟨hrc, hrs, hR.1, hR.2, pay_in ht hG, hc⟩, ht _ (hG _ hc).1, ok _ (by simp [va_wsS]), ⟨hd.1, hd.2.1⟩, fun sig h => ?_, ok _ (by simp [va_wsS]), ok _ (by simp [va_wsS])⟩
  have h2 := hd.2.2
  rw [h] at h2
  exact (Option.some.inj h2).symm
theorem vx_callSW (X : Stand p l e R s m args below meth c T locs cells slots) (hexec : p.tables.exec = Jvm.exec) {own : String} {index : Nat} {y : MethodName} {bytes : ByteArray} {maxL : Nat} {ret : Option FieldType} {hh : List (Nat × Nat × Nat × Nat)}
    (hown : s.vm.findClass own = some m.cls) (hlink : (Cond.methodLink own index y).before args s = true) (hstat : (Cond.static y).before args s = true) (hinit : (Cond.initialized y.cls).before args s = true)
    (hcode : (Cond.codeWith y bytes maxL ret hh).before args s = true) (hy : y.cls ≠ "java/lang/invoke/MethodHandle" ∧ y.cls ≠ "java/lang/invoke/VarHandle")
    {W9 : Nat} {Pre : Pt → Array Value → Prop} {Post : Pt → Array Value → Option Value → Pt → Prop} (hK : Back l R p e below s args y 3 W9 Pre Post)
    {g : JFrame} (hg : g.method = m) (hsize : g.locals.size = c.maxLocals) {argsL rest : List Value} (hlen : ∀ sig, parseMethodDescriptor y.desc = some sig → argsL.length = sig.parameters.length)
    (hstack : g.stack = argsL.reverse ++ rest) (hW : 2 * g.monitorRoom + (rest.map fun v => v.category).sum ≤ W9) (hdg : decode c.code g.pc = .ok (.invokestatic index, 3))
    (hpre : ∀ vm₁, s.WarmedH vm₁ → Pre ⟨T.setVm vm₁, locs, cells, slots⟩ argsL.toArray) :
    ∃ (v : Option Value) (vm₁ : Vm) (B : Pt), s.WarmedH vm₁ ∧ Stand p l e R s m args below meth c B.U B.locs B.cells B.slots ∧ Post ⟨T.setVm vm₁, locs, cells, slots⟩ argsL.toArray v B ∧
      ∀ target, Steps p.tables e below (B.U.setTop { g with pc := g.pc + 3, stack := v.toList ++ rest }) target → Steps p.tables e below (T.setTop g) target := by
  obtain ⟨mk, methM, cM, hnamed, hmethM, -, -, -, -, -, -, hsigM⟩ := Cond.codeWith_spec hcode
  have hstatic : methM.isStatic = true := Cond.static_spec hnamed hmethM hstat
  obtain ⟨kP, hkP, -⟩ := className_of_methodNamed hnamed
  have hinitP : kP.init = .initialized := Cond.initialized_spec (findClass_of_methodNamed hnamed) hkP hinit
  obtain ⟨vm₁, X₁, hstep₁⟩ := X.invokestatic hexec hown hlink hnamed hmethM hstatic hkP hinitP hy (g := g) hg (argsL := argsL) (rest := rest) (hlen _ hsigM) hstack hdg
  obtain ⟨v, B, X', hpost, hsteps⟩ := hK m meth c ⟨T.setVm vm₁, locs, cells, slots⟩ { g with stack := rest } (.invokestatic index) mk argsL.toArray X₁ hg hsize hdg hW (X₁.named hnamed) (hpre vm₁ X₁.warmed)
  exact ⟨v, vm₁, B, X₁.warmed, X', hpost, fun target h => hstep₁ _ fun acts => by rw [doInvoke_state]; exact hsteps.trans h⟩
theorem vx_runSW {y : MethodName} {bytes cc : ByteArray} {maxL nL mc ms n index : Nat} {ret : Option FieldType} {hh : List (Nat × Nat × Nat × Nat)} {ws : List Cond} {rm : Room} {Pc : Array Value → State → Prop} {Qc : Array Value → State → Outcome → State → Prop} {free : Addr → Prop} {Ts : List Cond} {own : String} {As rest : List Value} {g : JFrame}
    (S : CallFix p m c cc nL s args Ts own) (hM : Met l y ws rm Pc Qc mc ms free) (cw : vx_CSW R s args own index y bytes maxL ret hh ws rm mc ms n) (hp : PreS s H Pc As)
    (hg : g.method = m) (hn : As.length = n) (hsize : g.locals.size = nL) (hstack : g.stack = As.reverse ++ rest) (hW : 2 * g.monitorRoom + (rest.map fun v => v.category).sum ≤ 8) (hdg : decode cc g.pc = .ok (.invokestatic index, 3)) (hf : cells + mc ≤ R.cells ∧ slots + ms ≤ R.slots) :
    va_Run p l e R s m args below meth c H locs cells slots mc ms g rest (Qc As.toArray) (free) := by
  obtain ⟨⟨hrc, hrs, hfr, hlo, hws, hcw⟩, hcode, hini, hy, hlen, hl, hstt⟩ := cw
  have hK : Back l R p e below s args y 3 8 (PreOf R mc ms Pc) (PostOf Qc mc ms free) := va_backW (hh := hh) (bytes := bytes) (maxL := maxL) (ret := ret) hM hp.1 hrc hrs hfr hlo hws hcw (fun a' U hW => word_at hW (Or.inl (by first | rfl | simp [Cond.onTables, Cond.keeps, Cond.steady])) hini)
  obtain ⟨hx, hb, hml, ho, -⟩ := S
  intro T hT X
  obtain ⟨v, vm₁, ⟨U', l2, c2, s2⟩, hW₁, X', ⟨g', mk, t, L, e1, e2, hq, h1, hL, h2, h3⟩, st⟩ := vx_callSW X hx (hh := hh) (bytes := bytes) (maxL := maxL) (ret := ret) ho hl hstt hini hcode hy hK hg (hsize.trans hml.symm) (argsL := As) (rest := rest) (fun sig h => hn.trans (hlen sig h)) hstack hW (by rw [hb]; exact hdg)
    (fun vm₁ hW₁ => ⟨hf.1, hf.2, hp.2 (T.setVm vm₁) hT hW₁⟩)
  dsimp only [Pt.U, Pt.locs, Pt.cells, Pt.slots] at X' e1 e2 h1 h2 h3 st
  subst h1; subst h2; subst h3
  exact ⟨v, (T.setVm vm₁).calling g' mk As.toArray, t, U', L, hT, X', hL, e1, e2, hq, st⟩
end VXS
/-- the search at the one row of a table, her class's entry cold or warm -/
theorem ab_found {e : Env} {S : State} {f : JFrame} {a : Addr} {x : ExceptionTableEntry} {k : ClassId} {cell : Cell} (hx : covers x f.pc = true) (h0 : x.catchType ≠ 0) (hl : S.vm.ClassLinks e.platform f.method.cls x.catchType k) (hcell : S.heap[a]? = some cell) (hobj : ∀ j, cell.vm ≠ .statics j)
    (h1 : ∃ j, S.vm.classes[cell.cls]? = some j) (h2 : ∃ j, S.vm.classes[k]? = some j) (hfit : S.vm.assignable cell.cls k = true) (QQ : Handler → Pre) (E : CtlPost) (d : Bool) (acts : List Action) :
    wp (findHandler.go f a [x]) QQ E e d acts S ↔ QQ (.found x.handlerPc) d acts (S.setVm (S.vm.noted f.method.cls x.catchType (.cls k))) := by
  simp only [covers] at hx
  obtain ⟨g1, g2⟩ := (resolveClass_links e.toSetting hl).op (op := VmOp.resolveClass f.method.cls x.catchType) rfl
  have hal : S.vm.Alike (S.vm.noted f.method.cls x.catchType (.cls k)) := (Vm.Alike.refl S.vm).noted _ _ _
  obtain ⟨j1, hj1⟩ := h1
  obtain ⟨j2, hj2⟩ := h2
  obtain ⟨j1', hj1', -⟩ := hal.2.2 _ _ hj1
  obtain ⟨j2', hj2', -⟩ := hal.2.2 _ _ hj2
  have hfit' : (S.vm.noted f.method.cls x.catchType (.cls k)).assignable cell.cls k = true := by rw [hal.assignable]; exact hfit
  simp [findHandler.go, hx, h0, g1, g2, hcell, hobj, hj1', hj2', hfit', VmOp.dirties, VmOp.acts]
/-- caught by the one row of a table -/
theorem ab_caught {p : Program} {l : Launch} {e : Env} {R : Room} {s : State} {m : MethodId} {args : Array Value} {below : List Frame} {meth : Method} {c : Code} {H : Heap} {locs : List Loc} {cells slots : Nat} {Q : State → Prop} {pc : Nat} {ls : Array Slot} {rest : List Value}
    {own name E : String} {ce : Cell} {q : Addr} {x : ExceptionTableEntry} (hown : s.vm.findClass own = some m.cls) (htab : c.exceptionTable.toList = [x]) (hx : covers x pc = true) (h0 : x.catchType ≠ 0) (hlink : (Cond.classLink own x.catchType name).before args s = true) (hcast : (Cond.castable E name).before args s = true)
    (hcell : H[q]? = some ce) (hv : ce.vm = .none) (hcl : s.vm.findClass E = some ce.cls) (kk : W p l e R s m args below meth c H locs cells slots Q (F0 m x.handlerPc ls [.ref q])) : vx_W p l e R s m args below meth c H locs cells slots Q (F0 m pc ls rest) q := by
  intro T hT X
  have hpl : e.platform.magicAccessors = ({} : Platform).magicAccessors := by rw [X.admits.platform]
  obtain ⟨c3, cT, hc3, hc4, hasg⟩ := Cond.castable_spec hcast
  cases Option.some.inj (hc3.symm.trans hcl)
  obtain ⟨c5, hc5, hcl5⟩ := Cond.classLink_spec hown hlink e.platform hpl
  cases Option.some.inj (hc4.symm.trans hc5)
  obtain ⟨dk, _, _, kt, hd, _, _, _, _, hkt, _, hopen⟩ := hcl5.here
  have hlk := X.warmed.classLinks hcl5
  have hW' : s.WarmedH (T.vm.noted m.cls x.catchType (.cls cT)) := X.warmed.noted hd hopen (State.rightAt_cls hcl5)
  have hal := X.warmed.alike
  obtain ⟨kt', hkt', -⟩ := hal.2.2 _ _ hkt
  have hfit : T.vm.assignable ce.cls cT = true := by rw [hal.assignable]; exact hasg
  have hk1 := Vm.classAt_of_assignable hfit ⟨kt', hkt'⟩
  have X' := X.noted hW'
  obtain ⟨t, a1, b1⟩ := kk (T.setVm (T.vm.noted m.cls x.catchType (.cls cT))) hT X'
  refine ⟨t, ?_, b1⟩
  have hobj : ∀ k, ce.vm ≠ .statics k := fun k h => by rw [hv] at h; cases h
  have find : ∀ (QQ : Handler → Pre) (E : CtlPost) (d : Bool) (acts : List Action), wp (findHandler (F0 m pc ls rest) q) QQ E e d acts ((T.setTop (F0 m pc ls rest)).pushFrame (.throwing q)) ↔ QQ (.found x.handlerPc) d acts (((T.setTop (F0 m pc ls rest)).pushFrame (.throwing q)).setVm (T.vm.noted m.cls x.catchType (.cls cT))) := by
    intro QQ E d acts
    rw [W.findHandler_eq (meth := meth) (code := c) X.method' X.code, htab]
    exact ab_found (e := e) (f := F0 m pc ls rest) (a := q) (k := cT) (cell := ce) (S := (T.setTop (F0 m pc ls rest)).pushFrame (.throwing q)) hx h0 hlk (by show T.heap[q]? = some ce; rw [hT]; exact hcell) hobj hk1 ⟨kt', hkt'⟩ hfit QQ E d acts
  obtain ⟨hgo, hw⟩ := At.throwing (g := F0 m pc ls rest) X.here q
  refine Steps.head hgo hw ?_
  have hstep : (stepThrowing e ((T.setTop (F0 m pc ls rest)).pushFrame (.throwing q)) q (.java (F0 m pc ls rest) :: T.frames.tail)).Is ((((T.setTop (F0 m pc ls rest)).pushFrame (.throwing q)).setVm (T.vm.noted m.cls x.catchType (.cls cT))).setFrames (.java { F0 m pc ls rest with pc := x.handlerPc, stack := [.ref q] } :: T.frames.tail)) [] := by
    simp only [stepThrowing, searchFrame, vmDo]
    generalize hr : Sem.go _ e false [] _ = res
    obtain ⟨as, rfl, ha⟩ := Sem.eq_ok_of hr (a := Handler.found x.handlerPc) (s' := ((T.setTop (F0 m pc ls rest)).pushFrame (.throwing q)).setVm (T.vm.noted m.cls x.catchType (.cls cT))) (acts' := []) (by simp [find _ _ _ _])
    exact ⟨rfl, ha⟩
  rw [stepThread_throwing (frames_entered X.here.top _), hstep.1]
  obtain ⟨g₀, hg⟩ := Option.isSome_iff_exists.mp X.here.top
  obtain ⟨r, hr⟩ := State.topJava?_eq_some.mp hg
  have hr' : (T.setVm (T.vm.noted m.cls x.catchType (.cls cT))).frames = .java g₀ :: r := hr
  rw [State.setTop_of_frames _ hr'] at a1
  have e1 : ∀ (F G : List Frame) (vm' : Vm), ((T.setFrames F).setVm vm').setFrames G = (T.setVm vm').setFrames G := fun F G vm' => by
    rw [show (T.setFrames F).setVm vm' = (T.setVm vm').setFrames F from rfl, State.setFrames_setFrames]
  rw [hr, List.tail_cons, State.setTop_of_frames _ hr, State.pushFrame, State.setFrames_setFrames, e1]
  exact a1
end
-- 07xa.ctor.lean.txt
section
/-! ===== 'throw new NoSuchElementException("text")' of this JDK: its constructor's call is entry 13, not 7: after the library's law for entry 7 (Stand.ctorThrowS) ===== -/
def ab_NS : String := "java/util/NoSuchElementException"
def ab_RE : String := "java/lang/RuntimeException"
def ab_own (own : String) (ic : Nat) : List Cond :=
  Bundle.throwableAtoms ++ Bundle.throwableSAtoms ++ Bundle.passSAtoms ab_NS ab_RE 13 prog_28_method_4_code ++ Bundle.chainSAtoms ab_RE ["java/lang/Exception"] ++
  [.methodLink own ic (Bundle.initS ab_NS), .instantiable ab_NS 6, .castable ab_NS ab_NS, .selects ab_NS Bundle.tFill0 Bundle.tFill0, .selects ab_NS Bundle.tFill Bundle.tFill,
   .lays ab_NS Bundle.tN "cause" "Ljava/lang/Throwable;", .lays ab_NS Bundle.tN "stackTrace" Bundle.steD, .lays ab_NS Bundle.tN "suppressedExceptions" Bundle.listD, .lays ab_NS Bundle.tN "detailMessage" "Ljava/lang/String;",
   .isRef (.static Bundle.tN "UNASSIGNED_STACK" Bundle.steD), .isRef (.static Bundle.tN "SUPPRESSED_SENTINEL" Bundle.listD),
   .fieldLink Bundle.tN 198 Bundle.tN "backtrace" "Ljava/lang/Object;", .lays Bundle.tN Bundle.tN "backtrace" "Ljava/lang/Object;", .lays ab_NS Bundle.tN "backtrace" "Ljava/lang/Object;"]
set_option maxHeartbeats 4000000 in
theorem ab_ctor {p : Program} {l : Launch} {e : Env} {R : Room} {s : State} {m₀ : MethodId} {args : Array Value} {below : List Frame} {meth : Method} {c : Code} {W : State} {locs : List Loc} {cells slots : Nat} (X : Stand p l e R s m₀ args below meth c W locs cells slots) (hexec : p.tables.exec = Jvm.exec) (htr : e.platform.stackTraces = false) {own : String} {ic : Nat}
    (hown : s.vm.findClass own = some m₀.cls) (h : ∀ a ∈ ab_own own ic, a.before args s = true) (hlocs : ∀ x ∈ locs, ∀ cell, s.heap[x.base]? = some cell → cell.vm.isStatics = false)
    {a : Addr} {cX : ClassId} {kX : Class} (hfoundX : s.vm.findClass ab_NS = some cX) (hkX : s.vm.classes[cX]? = some kX) (hcell : W.heap[a]? = some (freshCell cX kX)) (hnew : s.heap.size ≤ a) {msg : Value} (hmsg : msg.isRef = true)
    {g : JFrame} (hg : g.method = m₀) (hsize : g.locals.size = c.maxLocals) (hlocked : g.locked = none) (hentered : g.entered = []) {rest : List Value} (hstack : g.stack = msg :: .ref a :: .ref a :: rest)
    (hd6 : decode c.code g.pc = .ok (.invokespecial ic, 3)) (hd9 : decode c.code (g.pc + 3) = .ok (.athrow, 1)) (hout : ∀ x ∈ c.exceptionTable.toList, covers x (g.pc + 3) = false)
    (hRframes : 5 < R.frames) (hRlocals : 2 * g.monitorRoom + ((Value.ref a :: rest).map fun v => v.category).sum + 81 ≤ R.locals) (hlocks : meth.locks = false) :
    ∃ U : State, Steps p.tables e below (W.setTop g) U ∧ U.status = .running ∧ Ended U below (.threw a) ∧ s.WarmedH U.vm ∧ s.sameButNew ({ U with vm := s.vm } : State) locs cells slots ∧ ∃ ce, U.heap[a]? = some ce ∧ ce.vm = .none ∧ s.vm.findClass ab_NS = some ce.cls := by
  have howns : e.platform.frameOwnsMonitors = true := by rw [X.admits.platform]
  have hfin : e.platform.finalization = false := by rw [X.admits.platform]
  have hpl : e.platform.magicAccessors = ({} : Platform).magicAccessors := by rw [X.admits.platform]
  have a' : ∀ x, x ∈ ab_own own ic → x.holds args s none s [] = true := fun x hx => h x hx
  obtain ⟨T, Z0, L, -, Y⟩ := ThrowableC.of_atoms (args := args) howns hfin hpl (fun x hx => h x (by simp [ab_own, hx]))
  obtain ⟨Z, M, LZ, LM, hnZ⟩ := Init0T.ofS_atoms (args := args) hpl L Y (fun x hx => h x (by simp [ab_own, hx]))
  obtain ⟨P2, Ps, hlen, L2, hL, hP2m, hlink1, hlink⟩ := Bundle.chainS (args := args) hpl hnZ ["java/lang/Exception"] ab_RE (by decide +kernel) (by decide +kernel) (fun x hx => h x (by simp [ab_own, hx]))
  obtain ⟨P1, L1, hP1m, hP1s⟩ := PassC.ofS_atoms (args := args) (s := s) hpl (X := ab_NS) (Y := ab_RE) (index := 13) (bytes := prog_28_method_4_code) (by decide +kernel) (by decide +kernel) (by decide +kernel) (by decide +kernel) (by decide +kernel) (by decide +kernel) (fun x hx => h x (by simp [ab_own, hx]))
  have hfound : s.vm.findClass ab_NS = some P1.m.cls := findClass_of_methodNamed hP1m
  cases Option.some.inj (hfoundX.symm.trans hfound)
  obtain ⟨c1, kX', hc1, hk, hord, -, -, hn6⟩ := Cond.instantiable_spec (a' (.instantiable ab_NS 6) (by simp [ab_own]))
  cases Option.some.inj (hc1.symm.trans hfound)
  cases Option.some.inj (hkX.symm.trans hk)
  have hsel0 : selectMethod e.platform s.vm P1.m.cls T.fill0 = .method T.fill0 := by
    obtain ⟨c2, r2, m2, q1, q2, q3, q4, -⟩ := Cond.selects_spec (a' (.selects ab_NS Bundle.tFill0 Bundle.tFill0) (by simp [ab_own]))
    cases Option.some.inj (q1.symm.trans hfound)
    cases Option.some.inj (q2.symm.trans (State.methodFound?_of_named Y.fill0 (by decide)))
    cases Option.some.inj (q3.symm.trans Y.fill0)
    rw [Launch.admits_selectMethod X.admits]; exact q4
  have hselF : selectMethod e.platform s.vm P1.m.cls T.fill = .method T.fill := by
    obtain ⟨c2, r2, m2, q1, q2, q3, q4, -⟩ := Cond.selects_spec (a' (.selects ab_NS Bundle.tFill Bundle.tFill) (by simp [ab_own]))
    cases Option.some.inj (q1.symm.trans hfound)
    cases Option.some.inj (q2.symm.trans (State.methodFound?_of_named Y.fill (by decide)))
    cases Option.some.inj (q3.symm.trans Y.fill)
    rw [Launch.admits_selectMethod X.admits]; exact q4
  obtain ⟨cellS0, hcS0, hiss⟩ := Y.statics
  obtain ⟨u0, hu0⟩ := Cond.staticRefV Y.unassigned L.unassignedStatic L.statics hcS0 hiss (a' (.isRef (.static Bundle.tN "UNASSIGNED_STACK" Bundle.steD)) (by simp [ab_own]))
  obtain ⟨sen, hsen⟩ := Cond.staticRefV Y.sentinel L.sentinelStatic L.statics hcS0 hiss (a' (.isRef (.static Bundle.tN "SUPPRESSED_SENTINEL" Bundle.listD)) (by simp [ab_own]))
  obtain ⟨ci198, i198, fB, hk198, hg198, ha198, hsB, -, hnB, htB, hffB⟩ := Cond.ownField (t := .object "java/lang/Object") Y.found L.cls (by decide +kernel) (a' (.fieldLink Bundle.tN 198 Bundle.tN "backtrace" "Ljava/lang/Object;") (by simp [ab_own])) (a' (.lays Bundle.tN Bundle.tN "backtrace" "Ljava/lang/Object;") (by simp [ab_own])) e.platform hpl
  obtain ⟨cellS, hcS', heS, -, hkeep⟩ := X.same.2.2.2.2.2 T.aS cellS0 hcS0
  have hcellS : W.heap[T.aS]? = some cellS := hcS'
  have hout' : ∀ i, (⟨T.aS, i⟩ : Loc) ∉ locs := fun i hmem => by
    have := hlocs _ hmem cellS0 hcS0
    rw [hiss] at this; cases this
  have hknownS : cellS.vm ≠ .unknown := by
    rw [heS]; intro hu
    rw [show cellS0.vm = .unknown from hu] at hiss
    cases hiss
  have hneS : T.aS ≠ a := Nat.ne_of_lt (Nat.lt_of_lt_of_le (Array.getElem?_eq_some_iff.mp hcS0).1 hnew)
  obtain ⟨iM, hffM⟩ := Y.msg
  obtain ⟨tyC, dC, hdC, hdnC⟩ := Cond.laysAt hfound hk Y.cause (a' (.lays ab_NS Bundle.tN "cause" "Ljava/lang/Throwable;") (by simp [ab_own]))
  obtain ⟨tyS, dS, hdS, hdnS⟩ := Cond.laysAt hfound hk Y.stack (a' (.lays ab_NS Bundle.tN "stackTrace" Bundle.steD) (by simp [ab_own]))
  obtain ⟨tyP, dP, hdP, hdnP⟩ := Cond.laysAt hfound hk Y.supp (a' (.lays ab_NS Bundle.tN "suppressedExceptions" Bundle.listD) (by simp [ab_own]))
  obtain ⟨tyM, dM, hdM, hdnM⟩ := Cond.laysAt hfound hk hffM (a' (.lays ab_NS Bundle.tN "detailMessage" "Ljava/lang/String;") (by simp [ab_own]))
  obtain ⟨tyB, dB, hdB, hdnB⟩ := Cond.laysAt hfound hk hffB (a' (.lays ab_NS Bundle.tN "backtrace" "Ljava/lang/Object;") (by simp [ab_own]))
  have bC := Cond.laysApart hdB hdC hdnB hdnC (by rw [hnB, Y.causeName]; decide)
  have bS := Cond.laysApart hdB hdS hdnB hdnS (by rw [hnB, Y.stackName]; decide)
  have bP := Cond.laysApart hdB hdP hdnB hdnP (by rw [hnB, Y.suppName]; decide)
  have hskip : SkipFacts T e.platform s (fun u => u) u0 ((preparedCellV T.toThrowableT (freshCell P1.m.cls kX) a u0 sen).withEntry W.cur) :=
    ⟨{ ci198 := ci198, i198 := i198, fBack := fB }, ⟨hk198, hg198, ha198, hsB⟩, by
      have := fresh_default (c := P1.m.cls) tyB
      rw [htB] at this
      simpa [preparedCellV, Cell.setSlot, Cell.withEntry, Array.getElem?_setIfInBounds, bC, bS, bP, bC.symm, bS.symm, bP.symm, defaultValue] using this, fun _ _ => rfl⟩
  obtain ⟨tm, methC, cdC, kC, vm₁, hnC, -, -, -, -, -, -, -, hW₁, st1⟩ := Steps.initColdS (tb := p.tables) (e := e) (below := below) (s := s) (U := W) X.here hexec X.warmed hpl hown (t := Bundle.initS ab_NS) rfl rfl (by decide +kernel)
    (a' (.methodLink own ic (Bundle.initS ab_NS)) (by simp [ab_own])) (h (.instanceMethod (Bundle.initS ab_NS)) (by simp [ab_own, Bundle.passSAtoms])) (bytes := prog_28_method_4_code) (maxL := 2) (h (.code (Bundle.initS ab_NS) prog_28_method_4_code 2 none) (by simp [ab_own, Bundle.passSAtoms]))
    (f := g) hg (a := a) (msg := msg) (rest := .ref a :: rest) hstack hd6
  cases Option.some.inj (hnC.symm.trans hP1m)
  have X₁ := X.noted hW₁
  obtain ⟨vm₂, X₂, st2⟩ := X₁.ctorMessageOffV hexec (g := { g with stack := .ref a :: rest }) hg hsize T L Z LZ M LM (P1 :: P2 :: Ps)
    (fun P hP => by rcases List.mem_cons.mp hP with rfl | hP; exact L1; rcases List.mem_cons.mp hP with rfl | hP; exact L2; exact hL P hP) ⟨Option.some.inj (hP1s.symm.trans hP2m), hlink1, hlink⟩ (u0 := u0) (sen := sen) (self := a) hmsg (cell := freshCell P1.m.cls kX) (cellS := cellS)
    hcell (fun _ => by simp) (by simp) rfl rfl hsel0 hselF hcellS hneS hknownS (by rw [hkeep _ (hout' _)]; exact hu0) (by rw [hkeep _ (hout' _)]; exact hsen)
    (Takes.of_laid hk hord tyC (by rw [Y.causeType]; rfl)) (Takes.of_laid hk hord tyS (by rw [Y.stackType]; exact fits_refV_array _ u0)) (Takes.of_laid hk hord tyP (by rw [Y.suppType]; exact fits_refV_object _ sen))
    (Takes.of_laid hk hord tyM (by rw [Y.msgType]; exact fits_refV_object _ ⟨msg, hmsg⟩)) Y.objLocals hskip htr [] hd6
    (by simp only [List.length_cons, hlen, List.length_nil]; omega) (by simp only [List.length_cons, hlen, List.length_nil]; omega)
  obtain ⟨hwalk, hrun, hended, hWU, hsame⟩ := X₂.athrowLeaves hexec (g := { g with stack := .ref a :: rest, pc := g.pc + 3 }) hg hlocked hentered hout (a := a) (rest := rest) rfl hd9
  have hlt : a < ((W.setVm vm₁).setVm vm₂).heap.size := (Array.getElem?_eq_some_iff.mp hcell).1
  have hU := heapAt_setCell_self (s := (W.setVm vm₁).setVm vm₂) (plainBareV T.toThrowableT (freshCell P1.m.cls kX) a u0 sen msg) hlt
  refine ⟨_, st1 _ (fun acts => ?_), hrun, hended, hWU, hsame.weaken (fun y hy hlt' => ?_) (Nat.le_refl _) (Nat.le_refl _), _, hU, rfl, hfound⟩
  · rw [doInvoke_state]
    exact st2 _ hwalk
  · rcases List.mem_append.mp hy with h1 | h1
    · exact h1
    · exfalso
      have hb : y.base = a := by
        simp only [List.mem_cons, List.not_mem_nil, or_false] at h1
        rcases h1 with rfl | rfl | rfl | rfl | rfl <;> rfl
      rw [hb] at hlt'
      exact Nat.not_lt.mpr hnew hlt'
end
-- 07xb.thr.lean.txt
section
/-! ===== the throw itself, with the cell that it makes ===== -/
def ab_at (own : String) (ic : Nat) : List Cond := (ab_own own ic).filter vx_no
section AB
variable {p : Program} {l : Launch} {e : Env} {R : Room} {s : State} {m : MethodId} {args : Array Value} {below : List Frame} {meth : Method} {c : Code} {H : Heap} {locs : List Loc} {cells slots : Nat} {Q : State → Prop}
variable {mc ms : Nat} {free : Addr → Prop} {A0 A1 : Nat → Prop} {H0 : Heap} {a : Array Value} {ls : Array Slot} {st0 rest : List Value}
variable {Qc : Array Value → State → Outcome → State → Prop} {XC : String → State → State → Prop}
theorem ab_throwS {cc : ByteArray} {pc : Nat} (hexec : p.tables.exec = Jvm.exec) (hb : c.code = cc) (hl : l.stackTraces = false) {own text : String} {ik is ic mc ms sa : Nat} {A : Nat → Prop}
    (hown : s.vm.findClass own = some m.cls) 
    (hk : (Cond.classLink own ik ab_NS).before args s = true) (hini : (Cond.initialized ab_NS).before args s = true) (hstr : vk_R own is text sa s) (hat : ∀ w ∈ ab_at own ic, w.before args s = true)
    (hgood : ∀ w ∈ Cond.classLink own ik ab_NS :: Cond.initialized ab_NS :: ab_at own ic, vx_ot w = true)
    (hU : vx_Zq Bundle.tN "UNASSIGNED_STACK" Bundle.steD A s s.heap) (hN : vx_Zq Bundle.tN "SUPPRESSED_SENTINEL" Bundle.listD A s s.heap) (hS : va_S A s.heap H locs) (hsize : ls.size = c.maxLocals)
    (d0 : decode cc pc = .ok (.new ik, 3)) (d3 : decode cc (pc + 3) = .ok (.dup, 1)) (d4 : decode cc (pc + 4) = .ok (.ldc is, 2)) (d6 : decode cc (pc + 6) = .ok (.invokespecial ic, 3)) (d9 : decode cc (pc + 9) = .ok (.athrow, 1))
    (hout : ∀ x ∈ c.exceptionTable.toList, covers x (pc + 9) = false)
    (hRframes : 5 < R.frames) (hRlocals : (rest.map fun v => v.category).sum + 82 ≤ R.locals) (hRcells : cells + 1 ≤ R.cells) (hRslots : slots + 6 ≤ R.slots) (hlocks : meth.locks = false)
    (hx : ∀ (t : State) (ce : Cell), s.vm.Alike t.vm → t.heap.size = H.size + 1 → (∀ q : Nat, q < H.size → t.heap[q]? = H[q]?) → t.heap[H.size]? = some ce → ce.vm = .none → s.vm.findClass ab_NS = some ce.cls → XC ab_NS s t)
    (hf : ∀ z ∈ locs, free z.base) (hc : cells + 1 ≤ mc) (hs : slots + 6 ≤ ms) :
    W p l e R s m args below meth c H locs cells slots (vx_MQ below Qc XC args s mc ms free) (F0 m pc ls rest) := by
  intro T hT X
  have htr : e.platform.stackTraces = false := (show e.platform.stackTraces = l.stackTraces by rw [X.admits.platform]).trans hl
  have Y := vx_rebase X (R' := { frames := R.frames, locals := R.locals, cells := 1, slots := 6 }) (Nat.le_refl _) (Nat.le_refl _) hRcells hRslots
  obtain ⟨s', hA⟩ : ∃ z, z = (T.setVm s.vm).setFrames (.invoking m args :: below) := ⟨_, rfl⟩
  rw [← hA] at Y
  have hvm : s'.vm = s.vm := by rw [hA]; rfl
  have hhp : s'.heap = H := by rw [hA]; exact hT
  have hW0 : s.WarmedH s'.vm := by rw [hvm]; exact State.WarmedH.refl s
  have hat' : ∀ w ∈ ab_at own ic, w.before args s' = true := fun w hw => vx_ot_at hW0 hvm.symm (hgood w (List.mem_cons_of_mem _ (List.mem_cons_of_mem _ hw))) (hat w hw)
  have hk' : (Cond.classLink own ik ab_NS).before args s' = true := vx_ot_at hW0 hvm.symm (hgood _ List.mem_cons_self) hk
  have hini' : (Cond.initialized ab_NS).before args s' = true := vx_ot_at hW0 hvm.symm (hgood _ (List.mem_cons_of_mem _ List.mem_cons_self)) hini
  have hU' : vx_Zq Bundle.tN "UNASSIGNED_STACK" Bundle.steD A s' s'.heap := by rw [hhp]; exact vx_Zq.moved hW0.alike (hU.kept hS.2.1)
  have hN' : vx_Zq Bundle.tN "SUPPRESSED_SENTINEL" Bundle.listD A s' s'.heap := by rw [hhp]; exact vx_Zq.moved hW0.alike (hN.kept hS.2.1)
  have h : ∀ w ∈ ab_own own ic, w.before args s' = true := vx_own hat' (vx_isRefq hU'.1) (vx_isRefq hN'.1) hU'.2.word hN'.2.word
  have hown' : s'.vm.findClass own = some m.cls := by rw [hvm]; exact hown
  have hins : (Cond.instantiable ab_NS 6).before args s' = true := h _ (by simp [ab_own])
  obtain ⟨vm₁, cX, kX, hfX, hkX, -, -, X₁, st1⟩ := Y.newCold hexec (own := own) (C := ab_NS) (index := ik) (n := 6) hown' hk' hins hini'
    (g := F0 m pc ls rest) rfl (by rw [hb]; exact d0) (Nat.le_refl _) (Nat.le_refl _)
  generalize hT1 : (T.setVm vm₁).pushCell { cls := cX, slots := kX.instanceTypes.map defaultValue, vm := .none } = T1 at X₁ st1
  have hcat : (Value.ref T.heap.size).category = 1 := rfl
  have hcellA : T1.heap[T.heap.size]? = some (freshCell cX kX) := by rw [← hT1]; exact State.heap_pushCell_size _ _
  have d3' : decode c.code (pc + 3) = .ok (.dup, 1) := by rw [hb]; exact d3
  have d4' : decode c.code (pc + 4) = .ok (.ldc is, 2) := by rw [hb]; exact d4
  have hstr' : vk_R own is text sa s' := vk_R.warm hW0 hstr
  obtain ⟨U, hsteps, hrun, hend, hW, hsame, ce, hce, hOv, hOc⟩ := ab_ctor X₁ hexec htr (own := own) (ic := ic) hown' h (fun x hx => nomatch hx) hfX hkX hcellA (by rw [hhp, hT]; exact Nat.le_refl _) (msg := .ref sa) rfl
    (g := { method := m, pc := pc + 6, locals := ls, stack := .ref sa :: .ref T.heap.size :: .ref T.heap.size :: rest, locked := none }) rfl hsize rfl rfl (rest := rest) rfl
    (by rw [hb]; exact d6) (by rw [hb]; exact d9) hout hRframes (by simp only [List.map_cons, List.sum_cons, hcat]; omega) hlocks
  obtain ⟨f1, f2⟩ := vx_frame hsame
  rw [hhp] at f1 f2
  have hWs : s.WarmedH U.vm := State.WarmedH.trans hW0 hW
  have hcl : s.vm.findClass ab_NS = some ce.cls := by
    have h9 := hOc
    rw [hvm] at h9
    exact h9
  have hsz : U.heap.size = H.size + 1 := by
    have z1 : U.heap.size ≤ s'.heap.size + (0 + 1) := hsame.2.2.1
    have z2 : T.heap.size < U.heap.size := (Array.getElem?_eq_some_iff.mp hce).1
    rw [hhp] at z1
    rw [hT] at z2
    omega
  have hall : s.sameButNew ({ U with vm := s.vm } : State) locs mc ms := by
    subst hA
    obtain ⟨e1, e2⟩ := hsame
    rw [State.setFrames_setFrames] at e1
    have h2 : (T.setVm s.vm).sameButNew ({ U with vm := s.vm } : State) [] (0 + 1) (0 + 6) := ⟨e1, e2⟩
    have h3 := X.same.trans h2
    rw [List.append_nil] at h3
    exact h3.mono hc hs
  refine ⟨U, ?_, .threw T.heap.size, hrun, hend, Or.inr ⟨T.heap.size, rfl, ab_NS, ce, locs, hx U ce hWs.alike hsz (fun q hq => f2 q hq (fun z hz => nomatch hz)) (by rw [← hT]; exact hce) hOv hcl, hce, hOv, hcl, hWs, hall, hf⟩⟩
  refine st1 _ ?_
  show Steps p.tables e below (T1.setTop { method := m, pc := pc + 3, locals := ls, stack := .ref T.heap.size :: rest, locked := none }) _
  jvm_step X₁.here [X₁.here.top, hexec, d3', Value.category]
  exact X₁.ldcString hexec (own := own) (text := text) (index := is) (a := sa) hown' hstr'.1 hstr'.2
    (g := { method := m, pc := pc + 4, locals := ls, stack := .ref T.heap.size :: .ref T.heap.size :: rest, locked := none }) rfl d4' _ hsteps
end AB
end
-- 07y.throw.lean.txt
section
/-! ===== a method that may throw, and one that catches ===== -/

/-- where the steps answer '.retAddr 99' the method has thrown; one cell more is there then -/
def ab_Qy (b : ab_B) (D : va_G) (cl : List vw_C) (cA : Nat → ClassId) (o : ab_O) : Array Value → State → Outcome → State → Prop := fun a st oc t => ab_Qx b D cl cA o a st oc t ∧ o.1 ≠ some (.retAddr 99)
def ab_Xc (b : ab_B) (D : va_G) (cl : List vw_C) (cA : Nat → ClassId) (o : ab_O) : String → State → State → Prop := fun E st t => E = ab_NS ∧ o.1 = some (.retAddr 99) ∧ t.heap.size = b.1 + (o.2.1 + 1) ∧ va_P D cl (ab_w b cA (ab_push o.2 (.inr (12, [])))) t.heap ∧ va_F (fun q => b.1 ≤ q) st t
def ab_thr : ab_A := fun s => match s.2.1 with
  | [] => cond (decide (s.2.2.1.1 = 0) && decide (s.2.2.1.2 = 0)) (some (.inr (some (.retAddr 99), s.2.2.2))) none
  | _ => none
/-- a call that may throw; thrown, it is caught at once and put into the local i, of which nothing is known then -/
def ab_callX (j hj i nA ci : Nat) (X : List Value → ab_H → Option ab_O) (mc ms MC MS : Nat) : ab_A := fun s =>
  cond (ab_rcv ci (s.2.1.take nA).reverse s.2.2.2 && decide (nA ≤ s.2.1.length) && decide (ab_cats (s.2.1.drop nA) ≤ 8) && decide (s.2.2.1.1 + mc ≤ MC) && decide (s.2.2.1.2 + ms ≤ MS) && ab_fr s.1 i)
    (match X (s.2.1.take nA).reverse s.2.2.2 with
    | none => none
    | some o => cond (decide (o.1 = some (.retAddr 99))) (some (.inl (hj, s.1.set i none, [], (s.2.2.1.1 + mc, s.2.2.1.2 + ms), ab_push o.2 (.inr (12, [])))))
        (some (.inl (j, s.1, o.1.toList ++ s.2.1.drop nA, (s.2.2.1.1 + mc, s.2.2.1.2 + ms), o.2)))) none
theorem ab_st0 {b : ab_B} {ls : Array Slot} {nL : Nat} {lo : List (Option Value)} {i : Nat} {w : Value} (hf : ab_fr lo i = true)
    (h : lv_has ls nL ((i, w) :: (ab_lp b 0 lo).filter (fun q => !(q.1 == i) && !(q.1 + 1 == i && q.2.category == 2)))) : lv_has ls nL (ab_lp b 0 (lo.set i none)) := by
  refine ⟨h.1, h.2.1, fun q hq => h.2.2 q ?_⟩
  obtain ⟨k, v, h1, rfl⟩ := (ab_lp_mem _ 0 q).mp hq
  rw [List.getElem?_set] at h1
  by_cases hk : i = k
  · subst hk
    rw [if_pos rfl] at h1
    split at h1 <;> cases h1
  · rw [if_neg hk] at h1
    refine List.mem_cons_of_mem _ (List.mem_filter.mpr ⟨(ab_lp_mem lo 0 _).mpr ⟨k, v, h1, rfl⟩, ?_⟩)
    have e1 : (0 + k == i) = false := by simp; omega
    have e2 : ((0 + k + 1 == i) && ((ab_v b v).category == 2)) = false := by
      rw [ab_vcat]
      by_cases hc : v.category = 2
      · have : ¬ (0 + k + 1 = i) := by
          intro he
          subst he
          rw [show 0 + k + 1 = k + 1 by omega] at hf
          simp only [ab_fr, h1] at hf
          rcases ab_cat2 hc with ⟨x, rfl⟩ | ⟨x, rfl⟩ <;> simp at hf
        have e3 : (0 + k + 1 == i) = false := by simpa using this
        rw [e3]; rfl
      · have e3 : (v.category == 2) = false := by simpa using hc
        rw [e3, Bool.and_false]
    show ((!(0 + k == i)) && !((0 + k + 1 == i) && ((ab_v b v).category == 2))) = true
    rw [e1, e2]; rfl
section AB
variable {p : Program} {l : Launch} {e : Env} {R : Room} {s : State} {m : MethodId} {args : Array Value} {below : List Frame} {meth : Method} {c : Code} {Q : State → Prop}
variable {b : ab_B} {D : va_G} {cl : List vw_C} {cA : Nat → ClassId} {nL : Nat} {cc : ByteArray} {P : Nat → Nat} {pc j t : Nat} {o : ab_O} {E : State → Prop}
variable {nA mc ms MC MS maxL index : Nat} {X : List Value → ab_H → Option ab_O} {y : MethodName} {bytes : ByteArray} {ret : Option FieldType} {Ts ws ws' : List Cond} {rm : Room} {own : String}
theorem ab_retx_ok (hx : p.tables.exec = Jvm.exec) (hb : c.code = cc) (hr : meth.sig.returnType = some .int) (hlocks : meth.locks = false) (hd : decode cc pc = .ok (.ireturn, 1)) : ab_ok p l e R s m args below meth c (vx_MQ below (ab_Qy b D cl cA o) (ab_Xc b D cl cA o) args s MC MS (fun q => b.1 ≤ q)) b D cl cA nL o P pc (ab_ret MC MS) := by
  intro σ
  obtain ⟨lo, st, u, hp⟩ := σ
  unfold ab_ret
  dsimp only
  refine ⟨fun j' σ' h1 h2 => ?_, fun h1 => ?_⟩
  · split at h1
    · obtain ⟨-, h1⟩ := ab_cond h1
      cases h1
    · cases h1
  · split at h1
    · rename_i x
      obtain ⟨h2, h1⟩ := ab_cond h1
      obtain rfl := Sum.inr.inj h1
      simp only [Bool.and_eq_true, decide_eq_true_eq] at h2
      intro H locs ls hP hz hS hl
      refine W.widen h2.1 h2.2 (vx_ret ?_)
      exact W.iret (v := x) hx hb hr (fun t ht hW => ⟨⟨⟨rfl, by rw [ht]; exact hz, by rw [ht]; exact hP⟩, hS.F ht⟩, fun h => by cases h⟩) hS.2.2 hd hlocks
    · cases h1
theorem ab_thr_ok {T : u_T} {text : String} {ik is ic : Nat} (hx : p.tables.exec = Jvm.exec) (hb : c.code = cc) (hml : c.maxLocals = nL) (hlocks : meth.locks = false) (htr : l.stackTraces = false) (hown : s.vm.findClass own = some m.cls) (hK : va_K D cl (ab_tys cA) s) (hc12 : cl[12]? = some (ab_NS, T, 0))
    (hk : (Cond.classLink own ik ab_NS).before args s = true) (hini : (Cond.initialized ab_NS).before args s = true) (hstr : vk_R own is text (b.2 t) s) (hat : ∀ w ∈ ab_at own ic, w.before args s = true)
    (hgood : ∀ w ∈ Cond.classLink own ik ab_NS :: Cond.initialized ab_NS :: ab_at own ic, vx_ot w = true)
    (hU : vx_Zq Bundle.tN "UNASSIGNED_STACK" Bundle.steD (fun q => b.1 ≤ q) s s.heap) (hN : vx_Zq Bundle.tN "SUPPRESSED_SENTINEL" Bundle.listD (fun q => b.1 ≤ q) s s.heap)
    (d0 : decode cc pc = .ok (.new ik, 3)) (d3 : decode cc (pc + 3) = .ok (.dup, 1)) (d4 : decode cc (pc + 4) = .ok (.ldc is, 2)) (d6 : decode cc (pc + 6) = .ok (.invokespecial ic, 3)) (d9 : decode cc (pc + 9) = .ok (.athrow, 1))
    (hout : ∀ x ∈ c.exceptionTable.toList, False) (hR : 5 < R.frames ∧ 82 ≤ R.locals ∧ 1 ≤ R.cells ∧ 6 ≤ R.slots) (hM : 1 ≤ MC ∧ 6 ≤ MS) : ab_ok p l e R s m args below meth c (vx_MQ below (ab_Qy b D cl cA o) (ab_Xc b D cl cA o) args s MC MS (fun q => b.1 ≤ q)) b D cl cA nL o P pc ab_thr := by
  intro σ
  obtain ⟨lo, st, u, hp⟩ := σ
  unfold ab_thr
  dsimp only
  refine ⟨fun j' σ' h1 h2 => ?_, fun h1 => ?_⟩
  · split at h1
    · obtain ⟨-, h1⟩ := ab_cond h1
      cases h1
    · cases h1
  · split at h1
    · obtain ⟨h2, h1⟩ := ab_cond h1
      obtain rfl := Sum.inr.inj h1
      simp only [Bool.and_eq_true, decide_eq_true_eq] at h2
      obtain ⟨u1, u2⟩ := u
      obtain ⟨rfl, rfl⟩ := h2
      intro H locs ls hP hz hS hl
      have hKn := (hK.1 12 _ hc12).2
      refine ab_throwS hx hb htr hown hk hini hstr hat hgood hU hN hS (by rw [hml]; exact hl.1) d0 d3 d4 d6 d9 (fun x hx => (hout x hx).elim) hR.1 (by show 0 + _ ≤ _; have := hR.2.1; omega) (by have := hR.2.2.1; omega) (by have := hR.2.2.2; omega) hlocks ?_ hS.2.2 (by have := hM.1; omega) (by have := hM.2; omega)
      intro t ce _ hsz hold hce hcv hcl
      have hcls : ce.cls = D.1 12 := Option.some.inj (hcl.symm.trans hKn.1)
      obtain ⟨a1, a2, a3⟩ := ab_pushed (s := s) (x := .inr (12, [])) (H1 := t.heap) hP hz hS rfl ⟨_, hc12, ⟨ce, by show t.heap[b.1 + hp.1]? = _; rw [← hz]; exact hce, hcls, hcv, fun k hk => by cases hk⟩⟩ hsz hold
      exact ⟨rfl, rfl, a2, a1, ⟨a3.1, a3.2.1⟩⟩
    · cases h1
theorem ab_callX_ok {C : String} {T : u_T} {N ci n i hj : Nat} {x : ExceptionTableEntry} (hx : p.tables.exec = Jvm.exec) (hb : c.code = cc) (hml : c.maxLocals = nL) (hts : ∀ w ∈ Ts, w.before args s = true) (hown : s.vm.findClass own = some m.cls) (hK : va_K D cl (ab_tys cA) s) (hR : R.cells = MC ∧ R.slots = MS) (hE : E s) (hEk : ab_Ek b E) (hEb : ab_Eb E)
    (hM : ∀ (as : List Value) (hp : ab_H) (o : ab_O), X as hp = some o → vx_Met l y ws rm (ab_Px b D cl cA E as hp) (ab_Qy b D cl cA o) (ab_Xc b D cl cA o) rm.cells rm.slots (fun q => b.1 ≤ q)) (hm : rm.cells = mc ∧ rm.slots = ms) (hc : cl[ci]? = some (C, T, N)) (hG : GoodIn Ts ws) (hw : ws = Cond.code y bytes maxL ret :: ws') (hlink : Cond.methodLink own index y ∈ Ts) (hinst : Cond.instanceMethod y ∈ Ts) (hsel : Cond.selects C y y ∈ Ts) (hini : Cond.initialized y.cls ∈ Ts)
    (hn : nA = n + 1) (hds : y.cls ≠ "java/lang/invoke/MethodHandle" ∧ y.cls ≠ "java/lang/invoke/VarHandle" ∧ (parseMethodDescriptor y.desc).map (fun d => d.parameters.length) = some n) (hrm : rm.frames + 1 ≤ R.frames ∧ 8 + (maxL + 11) + rm.locals ≤ R.locals)
    (htab : c.exceptionTable.toList = [x]) (hcov : covers x pc = true) (h0 : x.catchType ≠ 0) (hcl : (Cond.classLink own x.catchType ab_NS).before args s = true) (hcast : (Cond.castable ab_NS ab_NS).before args s = true) (hi : i < nL) (hd2 : decode cc x.handlerPc = .ok (.astore i, 2)) (hhj : P hj = x.handlerPc + 2)
    (hd : decode cc pc = .ok (.invokevirtual index, 3)) (hjj : P j = pc + 3) : ab_ok p l e R s m args below meth c Q b D cl cA nL o P pc (ab_callX j hj i nA ci X mc ms MC MS) := by
  intro σ
  obtain ⟨lo, st, u, hp⟩ := σ
  unfold ab_callX
  dsimp only
  refine ⟨fun j' σ' h kk => ?_, fun h => ?_⟩
  · obtain ⟨h1, h⟩ := ab_condN h
    simp only [Bool.and_eq_true, decide_eq_true_eq] at h1
    obtain ⟨⟨⟨⟨⟨hr0, h1⟩, h2⟩, h3⟩, h4⟩, hfr⟩ := h1
    split at h
    · cases h
    · rename_i o2 hX
      intro H locs ls hP hz hS hl
      obtain ⟨a, As, fs, has, ha, hq⟩ := ab_rcv_ok hr0
      have hlen : As.length = n := by
        have h9 : ((st.take nA).reverse).length = nA := by rw [List.length_reverse, List.length_take]; omega
        rw [has] at h9
        simp at h9
        omega
      have hst := ab_split (b := b) has
      rw [has] at hX
      have hstk : st.map (ab_v b) = (As.map (ab_v b)).reverse ++ .ref (b.1 + a) :: (st.drop nA).map (ab_v b) := by
        rw [hst]
        simp [ab_v]
      have he : (ab_w b cA hp)[a]? = some (b.1 + a, .inr (ci, fs.map (ab_v b))) := by rw [ab_w_at ha, hq]; rfl
      have hrun : vx_Run p l e R s m args below meth c H locs u.1 u.2 mc ms (F0 m pc ls (st.map (ab_v b))) ((st.drop nA).map (ab_v b)) (ab_Qy b D cl cA o2 (Value.ref (b.1 + a) :: As.map (ab_v b)).toArray) (ab_Xc b D cl cA o2) (fun q => b.1 ≤ q) := by
        have hM2 := hM _ hp o2 hX
        rw [hm.1, hm.2] at hM2
        exact vx_runV (C := C) (b := b.1 + a) (As := As.map (ab_v b)) (n := n) ⟨hx, hb, hml, hown, hts⟩ hM2 ⟨callB_of n hts hG hw hm.1 hm.2 (hts _ hini) (hts _ hlink) hds hrm, hts _ hinst, hts _ hsel⟩ ⟨ab_blind hEb _ _, va_recv hK hP hc he, fun U hU hW => ⟨rfl, by rw [hU]; exact hz, by rw [hU]; exact hP, va_K.moved hW.alike hK, hEk s U hW (fun q h1 h2 => by rw [hU]; exact hS.2.1 q h1 h2) hE⟩⟩ rfl (by simpa using hlen) hl.1 hstk (lv_room (by rw [ab_cats_v]; exact h2)) hd (by rw [hR.1, hR.2]; exact ⟨h3, h4⟩)
      intro TT hT XX
      rcases hrun TT hT XX with ⟨v, st₀, t', T', L, g0, X', hL, e1, e2, ⟨⟨⟨hv, hz1, hP1⟩, hF⟩, hne⟩, stp⟩ | ⟨q, st₀, t', T', L, E', ce, g0, X', hL, e1, e2, ⟨rfl, hth, hz1, hP1, hF⟩, hce, hcv, hcl2, stp⟩
      · rw [decide_eq_false hne] at h
        have h' := Option.some.inj h
        simp only [cond_false, Sum.inl.injEq, Prod.mk.injEq] at h'
        obtain ⟨rfl, rfl⟩ := h'
        cases hv
        rw [hjj] at kk
        have hk := kk T'.heap (locs ++ L) ls (by rw [e1]; exact hP1) (by rw [e1]; exact hz1) ⟨Nat.le_trans hS.1 (by rw [e1]; have := hF.1; rw [g0] at this; exact this), fun q h1 h2 => by
            have := hF.2 q (by rw [g0]; exact Nat.lt_of_lt_of_le h1 hS.1) h2
            rw [e1, this, g0]; exact hS.2.1 q h1 h2, fun q hq => by
            rcases List.mem_append.mp hq with h | h
            · exact hS.2.2 q h
            · exact hL q h⟩ hl
        have e3 : (o2.1.toList ++ st.drop nA).map (ab_v b) = (o2.1.map (ab_v b)).toList ++ (st.drop nA).map (ab_v b) := by
          rw [List.map_append]
          cases o2.1 <;> rfl
        simp only [e3] at hk
        obtain ⟨t2, a1, b1⟩ := hk T' rfl X'
        exact ⟨t2, stp t2 a1, b1⟩
      · rw [decide_eq_true hth] at h
        have h' := Option.some.inj h
        simp only [cond_true, Sum.inl.injEq, Prod.mk.injEq] at h'
        obtain ⟨rfl, rfl⟩ := h'
        rw [hhj] at kk
        have hW : vx_W p l e R s m args below meth c T'.heap (locs ++ L) (u.1 + mc) (u.2 + ms) Q (F0 m pc ls ((st.drop nA).map (ab_v b))) q := by
          refine ab_caught hown htab hcov h0 hcl hcast (by rw [e1]; exact hce) hcv hcl2 ?_
          refine lv_astore hx hb hd2 hl hi rfl fun ls' hl' => ?_
          exact kk T'.heap (locs ++ L) ls' (by rw [e1]; exact hP1) (by rw [e1]; exact hz1) ⟨Nat.le_trans hS.1 (by rw [e1]; have := hF.1; rw [g0] at this; exact this), fun q h1 h2 => by
            have := hF.2 q (by rw [g0]; exact Nat.lt_of_lt_of_le h1 hS.1) h2
            rw [e1, this, g0]; exact hS.2.1 q h1 h2, fun q hq => by
            rcases List.mem_append.mp hq with h | h
            · exact hS.2.2 q h
            · exact hL q h⟩ (ab_st0 hfr hl')
        obtain ⟨t2, a1, b1⟩ := hW T' rfl X'
        exact ⟨t2, stp.trans a1, b1⟩
  · obtain ⟨-, h⟩ := ab_condN h
    split at h
    · cases h
    · rename_i o2 hX
      cases hd9 : decide (o2.1 = some (.retAddr 99)) <;> rw [hd9] at h <;> cases h
end AB
theorem ab_methx {l : Launch} {b : ab_B} {D : va_G} {cl : List vw_C} {cA : Nat → ClassId} {E : State → Prop} {y : MethodName} {ws ws' : List Cond} {rm : Room} {cc : ByteArray} {nL : Nat} {ret : Option FieldType} (L : List (Nat × ab_A)) (hy : plainName y.cls = true) (hw : ws = Cond.code y cc nL ret :: ws')
    (hT : ∀ (p : Program) (e : Env) (R : Room) (s : State) (m : MethodId) (args : Array Value) (below : List Frame) (meth : Method) (c : Code) (o : ab_O), ab_cx p l e R s m args below meth c D cl cA E y cc nL ret ws rm → (∀ x ∈ c.exceptionTable.toList, False) → ∀ q ∈ L, ab_ok p l e R s m args below meth c (vx_MQ below (ab_Qy b D cl cA o) (ab_Xc b D cl cA o) args s rm.cells rm.slots (fun q => b.1 ≤ q)) b D cl cA nL o (fun i => i) q.1 q.2) :
    ∀ (as : List Value) (hp : ab_H) (o : ab_O), ab_X (ab_T L) nL as hp = some o → vx_Met l y ws rm (ab_Px b D cl cA E as hp) (ab_Qy b D cl cA o) (ab_Xc b D cl cA o) rm.cells rm.slots (fun q => b.1 ≤ q) := by
  intro as hp o hX
  obtain ⟨hlen, f, hrun⟩ := ab_X_run hX
  refine vx_ofW (cc := cc) (maxL := nL) (ret := ret) hy hw ?_
  intro p e s m args below meth c s₁ B hml htab hv
  obtain ⟨rfl, hz, hPw, hK, hE⟩ := hv
  have C : ab_cx p l e (headSpec ws rm).room s m (as.map (ab_v b)).toArray below meth c D cl cA E y cc nL ret ws rm := ⟨B.exec, B.bytes, hml, B.returns, B.notSynchronized, atoms_spec (ws := ws) B.pre, findClass_of_methodNamed B.named, hK, hE, (name_of_methodNamed B.named B.method).1, rfl⟩
  have hl := lv_entry (as.map (ab_v b)) (n := nL) (by rw [ab_ent_len]; exact hlen)
  rw [lg_entry_eq]
  generalize (lg_sl (as.map (ab_v b)) ++ List.replicate (nL - (lg_sl (as.map (ab_v b))).length) Slot.unset).toArray = ls at hl ⊢
  have hW := ab_run_ok (p := p) (l := l) (e := e) (R := (headSpec ws rm).room) (s := s) (m := m) (args := (as.map (ab_v b)).toArray) (below := below) (meth := meth) (c := c) (Q := vx_MQ below (ab_Qy b D cl cA o) (ab_Xc b D cl cA o) (as.map (ab_v b)).toArray s rm.cells rm.slots (fun q => b.1 ≤ q)) (b := b) (D := D) (cl := cl) (cA := cA) (nL := nL) (P := fun i => i) (o := o) (T := ab_T L) (fun i a ha => hT p e _ s m _ below meth c o C htab (i, a) (ab_T_mem L i a ha)) f 0 _ hrun
  exact hW s.heap [] ls hPw hz va_S.rf (ab_en_has hl)
theorem ab_methW {l : Launch} {b : ab_B} {D : va_G} {cl : List vw_C} {cA : Nat → ClassId} {E : State → Prop} {y : MethodName} {ws ws' : List Cond} {rm : Room} {cc : ByteArray} {nL : Nat} {ret : Option FieldType} {hh : List (Nat × Nat × Nat × Nat)} (L : List (Nat × ab_A)) (hy : plainName y.cls = true) (hw : ws = Cond.codeWith y cc nL ret hh :: ws')
    (hT : ∀ (p : Program) (e : Env) (R : Room) (s : State) (m : MethodId) (args : Array Value) (below : List Frame) (meth : Method) (c : Code) (o : ab_O), ab_cx p l e R s m args below meth c D cl cA E y cc nL ret ws rm → c.exceptionTable.toList = tableOf hh → ∀ q ∈ L, ab_ok p l e R s m args below meth c (MQ below (ab_Qx b D cl cA o) args s rm.cells rm.slots (fun q => b.1 ≤ q)) b D cl cA nL o (fun i => i) q.1 q.2) :
    ab_M l b D cl cA E y ws rm (ab_X (ab_T L) nL) := by
  intro as hp o hX
  obtain ⟨hlen, f, hrun⟩ := ab_X_run hX
  refine va_MetW (cc := cc) (maxL := nL) (ret := ret) hy hw ?_
  intro p e s m args below meth c s₁ B hml hv
  obtain ⟨rfl, hz, hPw, hK, hE⟩ := hv
  have hts := atoms_spec (ws := ws) B.pre
  have htab : c.exceptionTable.toList = tableOf hh := vx_table (l := l) (x := y) B (hts _ (by rw [hw]; exact List.mem_cons_self))
  have C : ab_cx p l e (headSpec ws rm).room s m (as.map (ab_v b)).toArray below meth c D cl cA E y cc nL ret ws rm := ⟨B.exec, B.bytes, hml, B.returns, B.notSynchronized, hts, findClass_of_methodNamed B.named, hK, hE, (name_of_methodNamed B.named B.method).1, rfl⟩
  have hl := lv_entry (as.map (ab_v b)) (n := nL) (by rw [ab_ent_len]; exact hlen)
  rw [lg_entry_eq]
  generalize (lg_sl (as.map (ab_v b)) ++ List.replicate (nL - (lg_sl (as.map (ab_v b))).length) Slot.unset).toArray = ls at hl ⊢
  have hW := ab_run_ok (p := p) (l := l) (e := e) (R := (headSpec ws rm).room) (s := s) (m := m) (args := (as.map (ab_v b)).toArray) (below := below) (meth := meth) (c := c) (Q := MQ below (ab_Qx b D cl cA o) (as.map (ab_v b)).toArray s rm.cells rm.slots (fun q => b.1 ≤ q)) (b := b) (D := D) (cl := cl) (cA := cA) (nL := nL) (P := fun i => i) (o := o) (T := ab_T L) (fun i a ha => hT p e _ s m _ below meth c o C htab (i, a) (ab_T_mem L i a ha)) f 0 _ hrun
  exact hW s.heap [] ls hPw hz va_S.rf (ab_en_has hl)
end
-- 07z.str.lean.txt
section
/-! ===== things that were there before the law: a String constant, its bytes, static fields ===== -/
def ab_sgf (i : Nat) (v : Value) : ab_S → Option ab_S := fun s => match s.2.1 with
  | .retAddr k :: st => cond (k == i) (some (s.1, v :: st, s.2.2)) none
  | _ => none
def ab_sbl (i n : Nat) (f : Nat → Int32) : ab_S → Option ab_S := fun s => match s.2.1 with
  | .int x :: .retAddr k :: st => cond (k == i && ab_in x n) (some (s.1, .int (f x.toNatClampNeg) :: st, s.2.2)) none
  | _ => none
def ab_rcR (i : Nat) (as : List Value) : Bool := match as with
  | .retAddr k :: _ => k == i
  | _ => false
def ab_callR (nA i : Nat) (X : List Value → ab_H → Option ab_O) (mc ms MC MS : Nat) : ab_S → Option ab_S := fun s =>
  cond (ab_rcR i (s.2.1.take nA).reverse) (ab_call nA X mc ms MC MS s) none
def ab_cret (MC MS : Nat) : ab_A := fun s => match s.2.1 with
  | [.int x] => cond (decide (s.2.2.1.1 ≤ MC) && decide (s.2.2.1.2 ≤ MS) && decide ((x.toUInt32 % 65536).toInt32 = x)) (some (.inr (some (.int x), s.2.2.2))) none
  | _ => none
/-- a check of an index that is right: a static field's thing, a call, a pop -/
def ab_chk (MC MS : Nat) : ab_S → Option ab_S := fun s => match s.2.1 with
  | .int n :: .int i :: st => cond (!(decide (i < 0)) && decide (i < n) && decide (ab_cats st ≤ 8) && decide (s.2.2.1.1 ≤ MC) && decide (s.2.2.1.2 ≤ MS)) (some (s.1, st, s.2.2)) none
  | _ => none
section AB
variable {p : Program} {l : Launch} {e : Env} {R : Room} {s : State} {m : MethodId} {args : Array Value} {below : List Frame} {meth : Method} {c : Code} {Q : State → Prop}
variable {b : ab_B} {D : va_G} {cl : List vw_C} {cA : Nat → ClassId} {nL : Nat} {cc : ByteArray} {P : Nat → Nat} {pc j t : Nat} {o : ab_O} {E : State → Prop}
theorem ab_sgf_ok {i d : Nat} {v : Value} (hj : P j = pc + d) (row : ∀ (H : Heap) (locs : List Loc) (cells slots : Nat) (ls : Array Slot) (rest : List Value), va_S (fun q => b.1 ≤ q) s.heap H locs → W p l e R s m args below meth c H locs cells slots Q (F0 m (pc + d) ls (ab_v b v :: rest)) → W p l e R s m args below meth c H locs cells slots Q (F0 m pc ls (.ref (b.2 i) :: rest))) : ab_ok p l e R s m args below meth c Q b D cl cA nL o P pc (ab_nx j (ab_sgf i v)) := by
  refine ab_nx_ok (pc + d) hj fun σ σ' h k => ?_
  obtain ⟨lo, st, r⟩ := σ
  unfold ab_sgf at h
  dsimp only at h
  split at h
  · rename_i q st'
    obtain ⟨h1, rfl⟩ := ab_cond h
    have hq : q = i := by simpa using h1
    subst hq
    intro H locs ls hP hz hS hl
    exact row _ _ _ _ _ _ hS (k H locs ls hP hz hS hl)
  · cases h
theorem ab_lits_ok {v : Value} {d : Nat} (hj : P j = pc + d) (row : ∀ (H : Heap) (locs : List Loc) (cells slots : Nat) (ls : Array Slot) (rest : List Value), va_S (fun q => b.1 ≤ q) s.heap H locs → W p l e R s m args below meth c H locs cells slots Q (F0 m (pc + d) ls (ab_v b v :: rest)) → W p l e R s m args below meth c H locs cells slots Q (F0 m pc ls rest)) : ab_ok p l e R s m args below meth c Q b D cl cA nL o P pc (ab_nx j (ab_lit v)) := by
  refine ab_nx_ok (pc + d) hj fun σ σ' h k => ?_
  obtain rfl := Option.some.inj h
  intro H locs ls hP hz hS hl
  exact row _ _ _ _ _ _ hS (k H locs ls hP hz hS hl)
theorem ab_sbl_ok {i n : Nat} {f : Nat → Int32} (hj : P j = pc + 1) (row : ∀ (H : Heap) (locs : List Loc) (cells slots : Nat) (ls : Array Slot) (rest : List Value) (x : Int32), vp_in x n → va_S (fun q => b.1 ≤ q) s.heap H locs → W p l e R s m args below meth c H locs cells slots Q (F0 m (pc + 1) ls (.int (f x.toNatClampNeg) :: rest)) → W p l e R s m args below meth c H locs cells slots Q (F0 m pc ls (.int x :: .ref (b.2 i) :: rest))) : ab_ok p l e R s m args below meth c Q b D cl cA nL o P pc (ab_nx j (ab_sbl i n f)) := by
  refine ab_nx_ok (pc + 1) hj fun σ σ' h k => ?_
  obtain ⟨lo, st, r⟩ := σ
  unfold ab_sbl at h
  dsimp only at h
  split at h
  · rename_i x q st'
    obtain ⟨h1, rfl⟩ := ab_cond h
    rw [Bool.and_eq_true] at h1
    have hq : q = i := by simpa using h1.1
    subst hq
    intro H locs ls hP hz hS hl
    exact row _ _ _ _ _ _ x (ab_in_ok h1.2) hS (k H locs ls hP hz hS hl)
  · cases h
theorem ab_rcR_ok {i : Nat} {as : List Value} (h : ab_rcR i as = true) : ∃ As : List Value, as = .retAddr i :: As := by
  unfold ab_rcR at h
  split at h
  · rename_i k As
    have hk : k = i := by simpa using h
    exact ⟨As, by rw [hk]⟩
  · cases h
theorem ab_zretT_ok {ty : FieldType} {MC MS : Nat} (hx : p.tables.exec = Jvm.exec) (hb : c.code = cc) (hr : meth.sig.returnType = some ty) (h0 : narrow ty (.int 0) = .int 0) (h1' : narrow ty (.int 1) = .int 1) (hlocks : meth.locks = false) (hd : decode cc pc = .ok (.ireturn, 1)) : ab_ok p l e R s m args below meth c (MQ below (ab_Qx b D cl cA o) args s MC MS (fun q => b.1 ≤ q)) b D cl cA nL o P pc (ab_zret MC MS) := by
  intro σ
  obtain ⟨lo, st, u, hp⟩ := σ
  unfold ab_zret
  dsimp only
  refine ⟨fun j' σ' h1 h2 => ?_, fun h1 => ?_⟩
  · split at h1
    · obtain ⟨-, h1⟩ := ab_cond h1
      cases h1
    · cases h1
  · split at h1
    · rename_i x
      obtain ⟨h2, h1⟩ := ab_cond h1
      obtain rfl := Sum.inr.inj h1
      simp only [Bool.and_eq_true, Bool.or_eq_true, decide_eq_true_eq] at h2
      intro H locs ls hP hz hS hl
      refine W.widen h2.1.1 h2.1.2 ?_
      exact W.zret (v := x) hx hb hr (by rcases h2.2 with rfl | rfl; exact h0; exact h1') (fun t ht hW => ⟨⟨rfl, by rw [ht]; exact hz, by rw [ht]; exact hP⟩, hS.F ht⟩) hS.2.2 hd hlocks
    · cases h1
theorem ab_cret_ok {MC MS : Nat} (hx : p.tables.exec = Jvm.exec) (hb : c.code = cc) (hr : meth.sig.returnType = some .char) (hlocks : meth.locks = false) (hd : decode cc pc = .ok (.ireturn, 1)) : ab_ok p l e R s m args below meth c (MQ below (ab_Qx b D cl cA o) args s MC MS (fun q => b.1 ≤ q)) b D cl cA nL o P pc (ab_cret MC MS) := by
  intro σ
  obtain ⟨lo, st, u, hp⟩ := σ
  unfold ab_cret
  dsimp only
  refine ⟨fun j' σ' h1 h2 => ?_, fun h1 => ?_⟩
  · split at h1
    · obtain ⟨-, h1⟩ := ab_cond h1
      cases h1
    · cases h1
  · split at h1
    · rename_i x
      obtain ⟨h2, h1⟩ := ab_cond h1
      obtain rfl := Sum.inr.inj h1
      simp only [Bool.and_eq_true, decide_eq_true_eq] at h2
      intro H locs ls hP hz hS hl
      refine W.widen h2.1.1 h2.1.2 ?_
      exact W.zret (v := x) hx hb hr (by show Value.int (x.toUInt32 % 65536).toInt32 = .int x; rw [h2.2]) (fun t ht hW => ⟨⟨rfl, by rw [ht]; exact hz, by rw [ht]; exact hP⟩, hS.F ht⟩) hS.2.2 hd hlocks
    · cases h1
variable {nA mc ms MC MS maxL index : Nat} {X : List Value → ab_H → Option ab_O} {y : MethodName} {bytes : ByteArray} {ret : Option FieldType} {Ts ws ws' : List Cond} {rm : Room} {own : String}
theorem ab_callR_ok {C : String} {i n : Nat} (hx : p.tables.exec = Jvm.exec) (hb : c.code = cc) (hml : c.maxLocals = nL) (hts : ∀ w ∈ Ts, w.before args s = true) (hown : s.vm.findClass own = some m.cls) (hK : va_K D cl (ab_tys cA) s) (hR : R.cells = MC ∧ R.slots = MS) (hE : E s) (hEk : ab_Ek b E) (hEb : ab_Eb E)
    (hM : ab_M l b D cl cA E y ws rm X) (hm : rm.cells = mc ∧ rm.slots = ms) (hrc : ∀ (H : Heap) (locs : List Loc), va_S (fun q => b.1 ≤ q) s.heap H locs → ∃ cell : Cell, H[b.2 i]? = some cell ∧ cell.vm.isStatics = false ∧ s.vm.findClass C = some cell.cls) (hG : GoodIn Ts ws) (hw : ws = Cond.code y bytes maxL ret :: ws') (hlink : Cond.methodLink own index y ∈ Ts) (hinst : Cond.instanceMethod y ∈ Ts) (hsel : Cond.selects C y y ∈ Ts) (hini : Cond.initialized y.cls ∈ Ts)
    (hn : nA = n + 1) (hds : y.cls ≠ "java/lang/invoke/MethodHandle" ∧ y.cls ≠ "java/lang/invoke/VarHandle" ∧ (parseMethodDescriptor y.desc).map (fun d => d.parameters.length) = some n) (hrm : rm.frames + 1 ≤ R.frames ∧ 8 + (maxL + 11) + rm.locals ≤ R.locals)
    (hd : decode cc pc = .ok (.invokevirtual index, 3)) (hj : P j = pc + 3) : ab_ok p l e R s m args below meth c Q b D cl cA nL o P pc (ab_nx j (ab_callR nA i X mc ms MC MS)) := by
  have base : ∀ σ σ' : ab_S, ab_callR nA i X mc ms MC MS σ = some σ' → ab_W p l e R s m args below meth c Q b D cl cA nL (pc + 3) σ' → ab_W p l e R s m args below meth c Q b D cl cA nL pc σ := by
    intro σ σ' h kk
    unfold ab_callR at h
    obtain ⟨hr0, h⟩ := ab_condN h
    obtain ⟨lo, st, u, hp⟩ := σ
    unfold ab_call at h
    dsimp only at h hr0
    obtain ⟨h1, h⟩ := ab_condN h
    simp only [Bool.and_eq_true, decide_eq_true_eq] at h1
    obtain ⟨⟨⟨h1, h2⟩, h3⟩, h4⟩ := h1
    split at h
    · rename_i o2 hX
      obtain rfl := Option.some.inj h
      intro H locs ls hP hz hS hl
      obtain ⟨As, has⟩ := ab_rcR_ok hr0
      have hlen : As.length = n := by
        have h9 : ((st.take nA).reverse).length = nA := by rw [List.length_reverse, List.length_take]; omega
        rw [has] at h9
        simp at h9
        omega
      have hst := ab_split (b := b) has
      rw [has] at hX
      have hstk : st.map (ab_v b) = (As.map (ab_v b)).reverse ++ .ref (b.2 i) :: (st.drop nA).map (ab_v b) := by
        rw [hst]
        simp [ab_v]
      have hrun : va_Run p l e R s m args below meth c H locs u.1 u.2 mc ms (F0 m pc ls (st.map (ab_v b))) ((st.drop nA).map (ab_v b)) (ab_Qx b D cl cA o2 (Value.ref (b.2 i) :: As.map (ab_v b)).toArray) (fun q => b.1 ≤ q) := by
        have hM2 := hM _ hp o2 hX
        rw [hm.1, hm.2] at hM2
        refine va_runV (C := C) (b := b.2 i) (As := As.map (ab_v b)) (n := n) ⟨hx, hb, hml, hown, hts⟩ hM2 ⟨callB_of n hts hG hw hm.1 hm.2 (hts _ hini) (hts _ hlink) hds hrm, hts _ hinst, hts _ hsel⟩ ⟨ab_blind hEb _ _, hrc H locs hS, fun U hU hW => ⟨rfl, by rw [hU]; exact hz, by rw [hU]; exact hP, va_K.moved hW.alike hK, hEk s U hW (fun q h1 h2 => by rw [hU]; exact hS.2.1 q h1 h2) hE⟩⟩ rfl (by simpa using hlen) hl.1 hstk (lv_room (by rw [ab_cats_v]; exact h2)) hd (by rw [hR.1, hR.2]; exact ⟨h3, h4⟩)
      refine ab_callW (hp := hp) hrun hS fun H1 locs1 g1 g2 g3 => ?_
      have hk := kk H1 locs1 ls g1 g2 g3 hl
      have e1 : (o2.1.toList ++ st.drop nA).map (ab_v b) = (o2.1.map (ab_v b)).toList ++ (st.drop nA).map (ab_v b) := by
        rw [List.map_append]
        cases o2.1 <;> rfl
      rw [← e1]
      exact hk
    · cases h
  exact ab_nx_ok (pc + 3) hj base
theorem ab_chk_ok {i6 ig : Nat} {C n0 d0 : String} (hx : p.tables.exec = Jvm.exec) (hb : c.code = cc) (hml : c.maxLocals = nL) (hts : ∀ w ∈ Ts, w.before args s = true) (hown : s.vm.findClass own = some m.cls) (hK : va_K D cl (ab_tys cA) s) (hR : R.cells = MC ∧ R.slots = MS) (hE : E s) (hEk : ab_Ek b E) (hEb : ab_Eb E)
    (hM : ab_M l b D cl cA E y ws rm X) (hm : rm.cells = 0 ∧ rm.slots = 0) (hX : ∀ (i n : Int32) (w : Value) (hp : ab_H), (w = .null ∨ w = .retAddr i6) → ¬ i < 0 → i < n → X [.int i, .int n, w] hp = some (some (.int i), hp))
    (hZ : va_Z C n0 d0 .null (fun q => b.1 ≤ q) s s.heap ∨ va_Z C n0 d0 (.ref (b.2 i6)) (fun q => b.1 ≤ q) s s.heap) (hfl : Cond.fieldLink own ig C n0 d0 ∈ Ts)
    (hG : GoodIn Ts ws) (hw : ws = Cond.code y bytes maxL ret :: ws') (hlink : Cond.methodLink own index y ∈ Ts) (hstat : Cond.static y ∈ Ts) (hini : Cond.initialized y.cls ∈ Ts)
    (hds : y.cls ≠ "java/lang/invoke/MethodHandle" ∧ y.cls ≠ "java/lang/invoke/VarHandle" ∧ (parseMethodDescriptor y.desc).map (fun d => d.parameters.length) = some 3) (hrm : rm.frames + 1 ≤ R.frames ∧ 8 + (maxL + 11) + rm.locals ≤ R.locals)
    (hd1 : decode cc pc = .ok (.getstatic ig, 3)) (hd2 : decode cc (pc + 3) = .ok (.invokestatic index, 3)) (hd3 : decode cc (pc + 3 + 3) = .ok (.pop, 1)) (hj : P j = pc + 3 + 3 + 1) : ab_ok p l e R s m args below meth c Q b D cl cA nL o P pc (ab_nx j (ab_chk MC MS)) := by
  refine ab_nx_ok (pc + 3 + 3 + 1) hj fun σ σ' h kk => ?_
  obtain ⟨lo, st, u, hp⟩ := σ
  unfold ab_chk at h
  dsimp only at h
  split at h
  · rename_i n i st'
    obtain ⟨h1, rfl⟩ := ab_cond h
    simp only [Bool.and_eq_true, Bool.not_eq_true', decide_eq_false_iff_not, decide_eq_true_eq] at h1
    obtain ⟨⟨⟨⟨g1, g2⟩, g3⟩, g4⟩, g5⟩ := h1
    intro H locs ls hP hz hS hl
    have core : ∀ w : Value, (w = .null ∨ w = .retAddr i6) → W p l e R s m args below meth c H locs u.1 u.2 Q (F0 m (pc + 3) ls (ab_v b w :: .int n :: .int i :: st'.map (ab_v b))) := by
      intro w hw'
      have hM2 := hM _ hp _ (hX i n w hp hw' g1 g2)
      rw [hm.1, hm.2] at hM2
      have hr : va_Run p l e R s m args below meth c H locs u.1 u.2 0 0 (F0 m (pc + 3) ls (ab_v b w :: .int n :: .int i :: st'.map (ab_v b))) (st'.map (ab_v b)) (ab_Qx b D cl cA (some (.int i), hp) (([.int i, .int n, w] : List Value).map (ab_v b)).toArray) (fun q => b.1 ≤ q) :=
        va_runS (As := ([.int i, .int n, w] : List Value).map (ab_v b)) (n := 3) ⟨hx, hb, hml, hown, hts⟩ hM2 ⟨callB_of 3 hts hG hw hm.1 hm.2 (hts _ hini) (hts _ hlink) hds hrm, hts _ hstat⟩ ⟨ab_blind hEb _ _, fun U hU hW => ⟨rfl, by rw [hU]; exact hz, by rw [hU]; exact hP, va_K.moved hW.alike hK, hEk s U hW (fun q h1 h2 => by rw [hU]; exact hS.2.1 q h1 h2) hE⟩⟩ rfl rfl hl.1 rfl (lv_room (by rw [ab_cats_v]; exact g3)) hd2 (by rw [hR.1, hR.2]; exact ⟨g4, g5⟩)
      refine ab_callW (hp := hp) hr hS fun H1 locs1 k1 k2 k3 => ?_
      exact lv_pop hx hb hd3 rfl (kk H1 locs1 ls k1 k2 k3 hl)
    rcases hZ with hZ | hZ
    · exact va_gets hx hb hZ hS hown (hts _ hfl) (fun _ h => h) hd1 (core .null (Or.inl rfl))
    · exact va_gets hx hb hZ hS hown (hts _ hfl) (fun _ h => h) hd1 (core (.retAddr i6) (Or.inr rfl))
  · cases h
end AB
end
-- 08.tbl.lean.txt
section
theorem tb_in1 {w : Cond} (h : w ∈ tables_1_1) : w ∈ tables_1 := by
  show w ∈ tables_1_1 ++ (tables_1_2 ++ (tables_1_3 ++ (tables_1_4 ++ (tables_1_5 ++ (tables_1_6 ++ (tables_1_7 ++ tables_1_8))))))
  exact List.mem_append_left _ h
theorem tb_in2 {w : Cond} (h : w ∈ tables_1_2) : w ∈ tables_1 := by
  show w ∈ tables_1_1 ++ (tables_1_2 ++ (tables_1_3 ++ (tables_1_4 ++ (tables_1_5 ++ (tables_1_6 ++ (tables_1_7 ++ tables_1_8))))))
  exact List.mem_append_right _ (List.mem_append_left _ h)
theorem tb_in3 {w : Cond} (h : w ∈ tables_1_3) : w ∈ tables_1 := by
  show w ∈ tables_1_1 ++ (tables_1_2 ++ (tables_1_3 ++ (tables_1_4 ++ (tables_1_5 ++ (tables_1_6 ++ (tables_1_7 ++ tables_1_8))))))
  exact List.mem_append_right _ (List.mem_append_right _ (List.mem_append_left _ h))
theorem tb_in4 {w : Cond} (h : w ∈ tables_1_4) : w ∈ tables_1 := by
  show w ∈ tables_1_1 ++ (tables_1_2 ++ (tables_1_3 ++ (tables_1_4 ++ (tables_1_5 ++ (tables_1_6 ++ (tables_1_7 ++ tables_1_8))))))
  exact List.mem_append_right _ (List.mem_append_right _ (List.mem_append_right _ (List.mem_append_left _ h)))
theorem tb_in5 {w : Cond} (h : w ∈ tables_1_5) : w ∈ tables_1 := by
  show w ∈ tables_1_1 ++ (tables_1_2 ++ (tables_1_3 ++ (tables_1_4 ++ (tables_1_5 ++ (tables_1_6 ++ (tables_1_7 ++ tables_1_8))))))
  exact List.mem_append_right _ (List.mem_append_right _ (List.mem_append_right _ (List.mem_append_right _ (List.mem_append_left _ h))))
theorem tb_in6 {w : Cond} (h : w ∈ tables_1_6) : w ∈ tables_1 := by
  show w ∈ tables_1_1 ++ (tables_1_2 ++ (tables_1_3 ++ (tables_1_4 ++ (tables_1_5 ++ (tables_1_6 ++ (tables_1_7 ++ tables_1_8))))))
  exact List.mem_append_right _ (List.mem_append_right _ (List.mem_append_right _ (List.mem_append_right _ (List.mem_append_right _ (List.mem_append_left _ h)))))
theorem tb_in7 {w : Cond} (h : w ∈ tables_1_7) : w ∈ tables_1 := by
  show w ∈ tables_1_1 ++ (tables_1_2 ++ (tables_1_3 ++ (tables_1_4 ++ (tables_1_5 ++ (tables_1_6 ++ (tables_1_7 ++ tables_1_8))))))
  exact List.mem_append_right _ (List.mem_append_right _ (List.mem_append_right _ (List.mem_append_right _ (List.mem_append_right _ (List.mem_append_right _ (List.mem_append_left _ h))))))
theorem tb_in8 {w : Cond} (h : w ∈ tables_1_8) : w ∈ tables_1 := by
  show w ∈ tables_1_1 ++ (tables_1_2 ++ (tables_1_3 ++ (tables_1_4 ++ (tables_1_5 ++ (tables_1_6 ++ (tables_1_7 ++ tables_1_8))))))
  exact List.mem_append_right _ (List.mem_append_right _ (List.mem_append_right _ (List.mem_append_right _ (List.mem_append_right _ (List.mem_append_right _ (List.mem_append_right _ (h)))))))
-- ===== PART A: goes FIRST, ahead of the names: the tables' words, and 'selects' of the private methods out of them =====
/-- a private method of a class that the tables say can be made, by its rows of tables_1 -/
def lw_okq (q : MethodName × Nat) : Prop := (q.1.cls ≠ "java/lang/invoke/MethodHandle" ∧ q.1.cls ≠ "java/lang/invoke/VarHandle") ∧ Cond.instantiable q.1.cls q.2 ∈ tables_1 ∧ Cond.privateMethod q.1 ∈ tables_1 ∧ Cond.instanceMethod q.1 ∈ tables_1
set_option maxRecDepth 100000 in
theorem lw_p0 : lw_okq (⟨"LackFerry$Tape", "skipBlanks", "()V"⟩, 3) := ⟨⟨by decide +kernel, by decide +kernel⟩, tb_in1 (List.mem_of_getElem? (i := 33) rfl), tb_in2 (List.mem_of_getElem? (i := 158) rfl), tb_in2 (List.mem_of_getElem? (i := 159) rfl)⟩
set_option maxRecDepth 100000 in
theorem lw_p1 : lw_okq (⟨"LackFerry$Tape", "cutToken", "(LLackFerry$Tokens;)I"⟩, 3) := ⟨⟨by decide +kernel, by decide +kernel⟩, tb_in1 (List.mem_of_getElem? (i := 33) rfl), tb_in2 (List.mem_of_getElem? (i := 166) rfl), tb_in2 (List.mem_of_getElem? (i := 167) rfl)⟩
set_option maxRecDepth 100000 in
theorem lw_p2 : lw_okq (⟨"LackFerry$Tape", "cutRun", "(LLackFerry$Tokens;)I"⟩, 3) := ⟨⟨by decide +kernel, by decide +kernel⟩, tb_in1 (List.mem_of_getElem? (i := 33) rfl), tb_in2 (List.mem_of_getElem? (i := 176) rfl), tb_in2 (List.mem_of_getElem? (i := 177) rfl)⟩
set_option maxRecDepth 100000 in
theorem lw_p3 : lw_okq (⟨"LackFerry$Tape", "kindOfWord", "(II)I"⟩, 3) := ⟨⟨by decide +kernel, by decide +kernel⟩, tb_in1 (List.mem_of_getElem? (i := 33) rfl), tb_in2 (List.mem_of_getElem? (i := 182) rfl), tb_in2 (List.mem_of_getElem? (i := 183) rfl)⟩
set_option maxRecDepth 100000 in
theorem lw_p4 : lw_okq (⟨"LackFerry$Tape", "isToldWord", "(III)Z"⟩, 3) := ⟨⟨by decide +kernel, by decide +kernel⟩, tb_in1 (List.mem_of_getElem? (i := 33) rfl), tb_in2 (List.mem_of_getElem? (i := 186) rfl), tb_in2 (List.mem_of_getElem? (i := 187) rfl)⟩
set_option maxRecDepth 100000 in
theorem lw_p5 : lw_okq (⟨"LackFerry$Strait", "clear", "()V"⟩, 13) := ⟨⟨by decide +kernel, by decide +kernel⟩, tb_in1 (List.mem_of_getElem? (i := 229) rfl), tb_in3 (List.mem_of_getElem? (i := 13) rfl), tb_in3 (List.mem_of_getElem? (i := 14) rfl)⟩
set_option maxRecDepth 100000 in
theorem lw_p6 : lw_okq (⟨"LackFerry$Strait", "readLine", "(LLackFerry$Tokens;)Z"⟩, 13) := ⟨⟨by decide +kernel, by decide +kernel⟩, tb_in1 (List.mem_of_getElem? (i := 229) rfl), tb_in3 (List.mem_of_getElem? (i := 21) rfl), tb_in3 (List.mem_of_getElem? (i := 22) rfl)⟩
set_option maxRecDepth 100000 in
theorem lw_p7 : lw_okq (⟨"LackFerry$Strait", "readAmount", "(LLackFerry$Tokens;I)Z"⟩, 13) := ⟨⟨by decide +kernel, by decide +kernel⟩, tb_in1 (List.mem_of_getElem? (i := 229) rfl), tb_in3 (List.mem_of_getElem? (i := 25) rfl), tb_in3 (List.mem_of_getElem? (i := 26) rfl)⟩
set_option maxRecDepth 100000 in
theorem lw_p8 : lw_okq (⟨"LackFerry$Strait", "readLoad", "(LLackFerry$Tokens;)Z"⟩, 13) := ⟨⟨by decide +kernel, by decide +kernel⟩, tb_in1 (List.mem_of_getElem? (i := 229) rfl), tb_in3 (List.mem_of_getElem? (i := 54) rfl), tb_in3 (List.mem_of_getElem? (i := 55) rfl)⟩
set_option maxRecDepth 100000 in
theorem lw_p9 : lw_okq (⟨"LackFerry$Strait", "readGood", "(LLackFerry$Tokens;)Z"⟩, 13) := ⟨⟨by decide +kernel, by decide +kernel⟩, tb_in1 (List.mem_of_getElem? (i := 229) rfl), tb_in3 (List.mem_of_getElem? (i := 58) rfl), tb_in3 (List.mem_of_getElem? (i := 59) rfl)⟩
set_option maxRecDepth 100000 in
theorem lw_p10 : lw_okq (⟨"LackFerry$Strait", "takeNewName", "(LLackFerry$Tokens;)Z"⟩, 13) := ⟨⟨by decide +kernel, by decide +kernel⟩, tb_in1 (List.mem_of_getElem? (i := 229) rfl), tb_in3 (List.mem_of_getElem? (i := 62) rfl), tb_in3 (List.mem_of_getElem? (i := 63) rfl)⟩
set_option maxRecDepth 100000 in
theorem lw_p11 : lw_okq (⟨"LackFerry$Strait", "readMan", "(LLackFerry$Tokens;)Z"⟩, 13) := ⟨⟨by decide +kernel, by decide +kernel⟩, tb_in1 (List.mem_of_getElem? (i := 229) rfl), tb_in3 (List.mem_of_getElem? (i := 70) rfl), tb_in3 (List.mem_of_getElem? (i := 71) rfl)⟩
set_option maxRecDepth 100000 in
theorem lw_p12 : lw_okq (⟨"LackFerry$Strait", "readMisses", "(LLackFerry$Tokens;)Z"⟩, 13) := ⟨⟨by decide +kernel, by decide +kernel⟩, tb_in1 (List.mem_of_getElem? (i := 229) rfl), tb_in3 (List.mem_of_getElem? (i := 74) rfl), tb_in3 (List.mem_of_getElem? (i := 75) rfl)⟩
set_option maxRecDepth 100000 in
theorem lw_p13 : lw_okq (⟨"LackFerry$Strait", "takeMan", "(LLackFerry$Tokens;)I"⟩, 13) := ⟨⟨by decide +kernel, by decide +kernel⟩, tb_in1 (List.mem_of_getElem? (i := 229) rfl), tb_in3 (List.mem_of_getElem? (i := 78) rfl), tb_in3 (List.mem_of_getElem? (i := 79) rfl)⟩
set_option maxRecDepth 100000 in
theorem lw_p14 : lw_okq (⟨"LackFerry$Strait", "isMissTold", "(II)Z"⟩, 13) := ⟨⟨by decide +kernel, by decide +kernel⟩, tb_in1 (List.mem_of_getElem? (i := 229) rfl), tb_in3 (List.mem_of_getElem? (i := 82) rfl), tb_in3 (List.mem_of_getElem? (i := 83) rfl)⟩
set_option maxRecDepth 100000 in
theorem lw_p15 : lw_okq (⟨"LackFerry", "isSlot", "(II)Z"⟩, 19) := ⟨⟨by decide +kernel, by decide +kernel⟩, tb_in1 (List.mem_of_getElem? (i := 25) rfl), tb_in3 (List.mem_of_getElem? (i := 110) rfl), tb_in3 (List.mem_of_getElem? (i := 111) rfl)⟩
def lw_privs_1 : List (MethodName × Nat) := [(⟨"LackFerry$Tape", "skipBlanks", "()V"⟩, 3), (⟨"LackFerry$Tape", "cutToken", "(LLackFerry$Tokens;)I"⟩, 3), (⟨"LackFerry$Tape", "cutRun", "(LLackFerry$Tokens;)I"⟩, 3), (⟨"LackFerry$Tape", "kindOfWord", "(II)I"⟩, 3), (⟨"LackFerry$Tape", "isToldWord", "(III)Z"⟩, 3), (⟨"LackFerry$Strait", "clear", "()V"⟩, 13), (⟨"LackFerry$Strait", "readLine", "(LLackFerry$Tokens;)Z"⟩, 13), (⟨"LackFerry$Strait", "readAmount", "(LLackFerry$Tokens;I)Z"⟩, 13), (⟨"LackFerry$Strait", "readLoad", "(LLackFerry$Tokens;)Z"⟩, 13), (⟨"LackFerry$Strait", "readGood", "(LLackFerry$Tokens;)Z"⟩, 13), (⟨"LackFerry$Strait", "takeNewName", "(LLackFerry$Tokens;)Z"⟩, 13), (⟨"LackFerry$Strait", "readMan", "(LLackFerry$Tokens;)Z"⟩, 13), (⟨"LackFerry$Strait", "readMisses", "(LLackFerry$Tokens;)Z"⟩, 13), (⟨"LackFerry$Strait", "takeMan", "(LLackFerry$Tokens;)I"⟩, 13), (⟨"LackFerry$Strait", "isMissTold", "(II)Z"⟩, 13), (⟨"LackFerry", "isSlot", "(II)Z"⟩, 19)]
theorem lw_r1 : ∀ q ∈ lw_privs_1, lw_okq q := List.forall_mem_cons.mpr ⟨lw_p0, List.forall_mem_cons.mpr ⟨lw_p1, List.forall_mem_cons.mpr ⟨lw_p2, List.forall_mem_cons.mpr ⟨lw_p3, List.forall_mem_cons.mpr ⟨lw_p4, List.forall_mem_cons.mpr ⟨lw_p5, List.forall_mem_cons.mpr ⟨lw_p6, List.forall_mem_cons.mpr ⟨lw_p7, List.forall_mem_cons.mpr ⟨lw_p8, List.forall_mem_cons.mpr ⟨lw_p9, List.forall_mem_cons.mpr ⟨lw_p10, List.forall_mem_cons.mpr ⟨lw_p11, List.forall_mem_cons.mpr ⟨lw_p12, List.forall_mem_cons.mpr ⟨lw_p13, List.forall_mem_cons.mpr ⟨lw_p14, List.forall_mem_cons.mpr ⟨lw_p15, fun _ h => absurd h List.not_mem_nil⟩⟩⟩⟩⟩⟩⟩⟩⟩⟩⟩⟩⟩⟩⟩⟩
set_option maxRecDepth 100000 in
theorem lw_p16 : lw_okq (⟨"LackFerry", "isGood", "(I)Z"⟩, 19) := ⟨⟨by decide +kernel, by decide +kernel⟩, tb_in1 (List.mem_of_getElem? (i := 25) rfl), tb_in3 (List.mem_of_getElem? (i := 114) rfl), tb_in3 (List.mem_of_getElem? (i := 115) rfl)⟩
set_option maxRecDepth 100000 in
theorem lw_p17 : lw_okq (⟨"LackFerry", "areLivingTwo", "(II)Z"⟩, 19) := ⟨⟨by decide +kernel, by decide +kernel⟩, tb_in1 (List.mem_of_getElem? (i := 25) rfl), tb_in3 (List.mem_of_getElem? (i := 142) rfl), tb_in3 (List.mem_of_getElem? (i := 143) rfl)⟩
set_option maxRecDepth 100000 in
theorem lw_p18 : lw_okq (⟨"LackFerry", "isMan", "(I)Z"⟩, 19) := ⟨⟨by decide +kernel, by decide +kernel⟩, tb_in1 (List.mem_of_getElem? (i := 25) rfl), tb_in3 (List.mem_of_getElem? (i := 146) rfl), tb_in3 (List.mem_of_getElem? (i := 147) rfl)⟩
set_option maxRecDepth 100000 in
theorem lw_p19 : lw_okq (⟨"LackFerry$Shores", "isFelt", "(LLackFerry$Strait;I)Z"⟩, 10) := ⟨⟨by decide +kernel, by decide +kernel⟩, tb_in1 (List.mem_of_getElem? (i := 137) rfl), tb_in3 (List.mem_of_getElem? (i := 190) rfl), tb_in3 (List.mem_of_getElem? (i := 191) rfl)⟩
set_option maxRecDepth 100000 in
theorem lw_p20 : lw_okq (⟨"LackFerry", "act", "(IIII)I"⟩, 19) := ⟨⟨by decide +kernel, by decide +kernel⟩, tb_in1 (List.mem_of_getElem? (i := 25) rfl), tb_in3 (List.mem_of_getElem? (i := 222) rfl), tb_in3 (List.mem_of_getElem? (i := 223) rfl)⟩
set_option maxRecDepth 100000 in
theorem lw_p21 : lw_okq (⟨"LackFerry$History", "dropOldest", "()V"⟩, 2) := ⟨⟨by decide +kernel, by decide +kernel⟩, tb_in1 (List.mem_of_getElem? (i := 122) rfl), tb_in3 (List.mem_of_getElem? (i := 237) rfl), tb_in3 (List.mem_of_getElem? (i := 238) rfl)⟩
set_option maxRecDepth 100000 in
theorem lw_p22 : lw_okq (⟨"LackFerry$Ferry", "carry", "(LLackFerry$Strait;LLackFerry$Shores;)V"⟩, 4) := ⟨⟨by decide +kernel, by decide +kernel⟩, tb_in1 (List.mem_of_getElem? (i := 100) rfl), tb_in4 (List.mem_of_getElem? (i := 49) rfl), tb_in4 (List.mem_of_getElem? (i := 50) rfl)⟩
set_option maxRecDepth 100000 in
theorem lw_p23 : lw_okq (⟨"LackFerry", "foreseeRoom", "(II)I"⟩, 19) := ⟨⟨by decide +kernel, by decide +kernel⟩, tb_in1 (List.mem_of_getElem? (i := 25) rfl), tb_in4 (List.mem_of_getElem? (i := 96) rfl), tb_in4 (List.mem_of_getElem? (i := 97) rfl)⟩
set_option maxRecDepth 100000 in
theorem lw_p24 : lw_okq (⟨"LackFerry", "roomTowards", "(II)I"⟩, 19) := ⟨⟨by decide +kernel, by decide +kernel⟩, tb_in1 (List.mem_of_getElem? (i := 25) rfl), tb_in4 (List.mem_of_getElem? (i := 100) rfl), tb_in4 (List.mem_of_getElem? (i := 101) rfl)⟩
set_option maxRecDepth 100000 in
theorem lw_p25 : lw_okq (⟨"LackFerry", "wouldCome", "(IIII)I"⟩, 19) := ⟨⟨by decide +kernel, by decide +kernel⟩, tb_in1 (List.mem_of_getElem? (i := 25) rfl), tb_in4 (List.mem_of_getElem? (i := 104) rfl), tb_in4 (List.mem_of_getElem? (i := 105) rfl)⟩
set_option maxRecDepth 100000 in
theorem lw_p26 : lw_okq (⟨"LackFerry", "couldGoSo", "(II)Z"⟩, 19) := ⟨⟨by decide +kernel, by decide +kernel⟩, tb_in1 (List.mem_of_getElem? (i := 25) rfl), tb_in4 (List.mem_of_getElem? (i := 140) rfl), tb_in4 (List.mem_of_getElem? (i := 141) rfl)⟩
set_option maxRecDepth 100000 in
theorem lw_p27 : lw_okq (⟨"LackFerry", "movePrices", "()Z"⟩, 19) := ⟨⟨by decide +kernel, by decide +kernel⟩, tb_in1 (List.mem_of_getElem? (i := 25) rfl), tb_in4 (List.mem_of_getElem? (i := 148) rfl), tb_in4 (List.mem_of_getElem? (i := 149) rfl)⟩
set_option maxRecDepth 100000 in
theorem lw_p28 : lw_okq (⟨"LackFerry", "drawDays", "(LLackFerry$Shores;II)I"⟩, 19) := ⟨⟨by decide +kernel, by decide +kernel⟩, tb_in1 (List.mem_of_getElem? (i := 25) rfl), tb_in4 (List.mem_of_getElem? (i := 160) rfl), tb_in4 (List.mem_of_getElem? (i := 161) rfl)⟩
set_option maxRecDepth 100000 in
theorem lw_p29 : lw_okq (⟨"LackFerry", "drawDeed", "(LLackFerry$Shores;)V"⟩, 19) := ⟨⟨by decide +kernel, by decide +kernel⟩, tb_in1 (List.mem_of_getElem? (i := 25) rfl), tb_in4 (List.mem_of_getElem? (i := 164) rfl), tb_in4 (List.mem_of_getElem? (i := 165) rfl)⟩
set_option maxRecDepth 100000 in
theorem lw_p30 : lw_okq (⟨"LackFerry", "drawDeath", "(LLackFerry$Shores;)V"⟩, 19) := ⟨⟨by decide +kernel, by decide +kernel⟩, tb_in1 (List.mem_of_getElem? (i := 25) rfl), tb_in4 (List.mem_of_getElem? (i := 179) rfl), tb_in4 (List.mem_of_getElem? (i := 180) rfl)⟩
set_option maxRecDepth 100000 in
theorem lw_p31 : lw_okq (⟨"LackFerry$LogText", "readLine", "(LLackFerry$Tokens;LLackFerry$Strait;)Z"⟩, 4) := ⟨⟨by decide +kernel, by decide +kernel⟩, tb_in1 (List.mem_of_getElem? (i := 193) rfl), tb_in4 (List.mem_of_getElem? (i := 196) rfl), tb_in4 (List.mem_of_getElem? (i := 197) rfl)⟩
def lw_privs_2 : List (MethodName × Nat) := [(⟨"LackFerry", "isGood", "(I)Z"⟩, 19), (⟨"LackFerry", "areLivingTwo", "(II)Z"⟩, 19), (⟨"LackFerry", "isMan", "(I)Z"⟩, 19), (⟨"LackFerry$Shores", "isFelt", "(LLackFerry$Strait;I)Z"⟩, 10), (⟨"LackFerry", "act", "(IIII)I"⟩, 19), (⟨"LackFerry$History", "dropOldest", "()V"⟩, 2), (⟨"LackFerry$Ferry", "carry", "(LLackFerry$Strait;LLackFerry$Shores;)V"⟩, 4), (⟨"LackFerry", "foreseeRoom", "(II)I"⟩, 19), (⟨"LackFerry", "roomTowards", "(II)I"⟩, 19), (⟨"LackFerry", "wouldCome", "(IIII)I"⟩, 19), (⟨"LackFerry", "couldGoSo", "(II)Z"⟩, 19), (⟨"LackFerry", "movePrices", "()Z"⟩, 19), (⟨"LackFerry", "drawDays", "(LLackFerry$Shores;II)I"⟩, 19), (⟨"LackFerry", "drawDeed", "(LLackFerry$Shores;)V"⟩, 19), (⟨"LackFerry", "drawDeath", "(LLackFerry$Shores;)V"⟩, 19), (⟨"LackFerry$LogText", "readLine", "(LLackFerry$Tokens;LLackFerry$Strait;)Z"⟩, 4)]
theorem lw_r2 : ∀ q ∈ lw_privs_2, lw_okq q := List.forall_mem_cons.mpr ⟨lw_p16, List.forall_mem_cons.mpr ⟨lw_p17, List.forall_mem_cons.mpr ⟨lw_p18, List.forall_mem_cons.mpr ⟨lw_p19, List.forall_mem_cons.mpr ⟨lw_p20, List.forall_mem_cons.mpr ⟨lw_p21, List.forall_mem_cons.mpr ⟨lw_p22, List.forall_mem_cons.mpr ⟨lw_p23, List.forall_mem_cons.mpr ⟨lw_p24, List.forall_mem_cons.mpr ⟨lw_p25, List.forall_mem_cons.mpr ⟨lw_p26, List.forall_mem_cons.mpr ⟨lw_p27, List.forall_mem_cons.mpr ⟨lw_p28, List.forall_mem_cons.mpr ⟨lw_p29, List.forall_mem_cons.mpr ⟨lw_p30, List.forall_mem_cons.mpr ⟨lw_p31, fun _ h => absurd h List.not_mem_nil⟩⟩⟩⟩⟩⟩⟩⟩⟩⟩⟩⟩⟩⟩⟩⟩
set_option maxRecDepth 100000 in
theorem lw_p32 : lw_okq (⟨"LackFerry$LogText", "readDeed", "(LLackFerry$Tokens;LLackFerry$Strait;I)Z"⟩, 4) := ⟨⟨by decide +kernel, by decide +kernel⟩, tb_in1 (List.mem_of_getElem? (i := 193) rfl), tb_in4 (List.mem_of_getElem? (i := 202) rfl), tb_in4 (List.mem_of_getElem? (i := 203) rfl)⟩
set_option maxRecDepth 100000 in
theorem lw_p33 : lw_okq (⟨"LackFerry$LogText", "addLine", "(III)Z"⟩, 4) := ⟨⟨by decide +kernel, by decide +kernel⟩, tb_in1 (List.mem_of_getElem? (i := 193) rfl), tb_in4 (List.mem_of_getElem? (i := 209) rfl), tb_in4 (List.mem_of_getElem? (i := 210) rfl)⟩
set_option maxRecDepth 100000 in
theorem lw_p34 : lw_okq (⟨"LackFerry$LogText", "readDays", "(LLackFerry$Tokens;)Z"⟩, 4) := ⟨⟨by decide +kernel, by decide +kernel⟩, tb_in1 (List.mem_of_getElem? (i := 193) rfl), tb_in4 (List.mem_of_getElem? (i := 213) rfl), tb_in4 (List.mem_of_getElem? (i := 214) rfl)⟩
set_option maxRecDepth 100000 in
theorem lw_p35 : lw_okq (⟨"LackFerry$LogText", "readDeath", "(LLackFerry$Tokens;I)Z"⟩, 4) := ⟨⟨by decide +kernel, by decide +kernel⟩, tb_in1 (List.mem_of_getElem? (i := 193) rfl), tb_in4 (List.mem_of_getElem? (i := 217) rfl), tb_in4 (List.mem_of_getElem? (i := 218) rfl)⟩
set_option maxRecDepth 100000 in
theorem lw_p36 : lw_okq (⟨"LackFerry", "judgeLog", "()I"⟩, 19) := ⟨⟨by decide +kernel, by decide +kernel⟩, tb_in1 (List.mem_of_getElem? (i := 25) rfl), tb_in4 (List.mem_of_getElem? (i := 222) rfl), tb_in4 (List.mem_of_getElem? (i := 223) rfl)⟩
set_option maxRecDepth 100000 in
theorem lw_p37 : lw_okq (⟨"LackFerry", "liveLine", "(III)I"⟩, 19) := ⟨⟨by decide +kernel, by decide +kernel⟩, tb_in1 (List.mem_of_getElem? (i := 25) rfl), tb_in4 (List.mem_of_getElem? (i := 226) rfl), tb_in4 (List.mem_of_getElem? (i := 227) rfl)⟩
set_option maxRecDepth 100000 in
theorem lw_p38 : lw_okq (⟨"LackFerry$Sentence", "readCond", "(LLackFerry$Tokens;I)Z"⟩, 6) := ⟨⟨by decide +kernel, by decide +kernel⟩, tb_in2 (List.mem_of_getElem? (i := 49) rfl), tb_in5 (List.mem_of_getElem? (i := 3) rfl), tb_in5 (List.mem_of_getElem? (i := 4) rfl)⟩
set_option maxRecDepth 100000 in
theorem lw_p39 : lw_okq (⟨"LackFerry$Sentence", "readAll", "(LLackFerry$Tokens;I)Z"⟩, 6) := ⟨⟨by decide +kernel, by decide +kernel⟩, tb_in2 (List.mem_of_getElem? (i := 49) rfl), tb_in5 (List.mem_of_getElem? (i := 7) rfl), tb_in5 (List.mem_of_getElem? (i := 8) rfl)⟩
set_option maxRecDepth 100000 in
theorem lw_p40 : lw_okq (⟨"LackFerry$Sentence", "readOne", "(LLackFerry$Tokens;I)Z"⟩, 6) := ⟨⟨by decide +kernel, by decide +kernel⟩, tb_in2 (List.mem_of_getElem? (i := 49) rfl), tb_in5 (List.mem_of_getElem? (i := 11) rfl), tb_in5 (List.mem_of_getElem? (i := 12) rfl)⟩
set_option maxRecDepth 100000 in
theorem lw_p41 : lw_okq (⟨"LackFerry$Sentence", "readBracket", "(LLackFerry$Tokens;I)Z"⟩, 6) := ⟨⟨by decide +kernel, by decide +kernel⟩, tb_in2 (List.mem_of_getElem? (i := 49) rfl), tb_in5 (List.mem_of_getElem? (i := 16) rfl), tb_in5 (List.mem_of_getElem? (i := 17) rfl)⟩
set_option maxRecDepth 100000 in
theorem lw_p42 : lw_okq (⟨"LackFerry$Sentence", "addOp", "(III)Z"⟩, 6) := ⟨⟨by decide +kernel, by decide +kernel⟩, tb_in2 (List.mem_of_getElem? (i := 49) rfl), tb_in5 (List.mem_of_getElem? (i := 20) rfl), tb_in5 (List.mem_of_getElem? (i := 21) rfl)⟩
set_option maxRecDepth 100000 in
theorem lw_p43 : lw_okq (⟨"LackFerry$Sentence", "readOnShore", "(LLackFerry$Tokens;I)Z"⟩, 6) := ⟨⟨by decide +kernel, by decide +kernel⟩, tb_in2 (List.mem_of_getElem? (i := 49) rfl), tb_in5 (List.mem_of_getElem? (i := 24) rfl), tb_in5 (List.mem_of_getElem? (i := 25) rfl)⟩
set_option maxRecDepth 100000 in
theorem lw_p44 : lw_okq (⟨"LackFerry$Sentence", "readCompared", "(LLackFerry$Tokens;I)Z"⟩, 6) := ⟨⟨by decide +kernel, by decide +kernel⟩, tb_in2 (List.mem_of_getElem? (i := 49) rfl), tb_in5 (List.mem_of_getElem? (i := 29) rfl), tb_in5 (List.mem_of_getElem? (i := 30) rfl)⟩
set_option maxRecDepth 100000 in
theorem lw_p45 : lw_okq (⟨"LackFerry$Sentence", "isSo", "(IILLackFerry$Strait;LLackFerry$Shores;)Z"⟩, 6) := ⟨⟨by decide +kernel, by decide +kernel⟩, tb_in2 (List.mem_of_getElem? (i := 49) rfl), tb_in5 (List.mem_of_getElem? (i := 41) rfl), tb_in5 (List.mem_of_getElem? (i := 42) rfl)⟩
set_option maxRecDepth 100000 in
theorem lw_p46 : lw_okq (⟨"java/lang/Throwable", "fillInStackTrace", "(I)Ljava/lang/Throwable;"⟩, 6) := ⟨⟨by decide +kernel, by decide +kernel⟩, tb_in5 (List.mem_of_getElem? (i := 144) rfl), tb_in5 (List.mem_of_getElem? (i := 142) rfl), tb_in5 (List.mem_of_getElem? (i := 143) rfl)⟩
set_option maxRecDepth 100000 in
theorem lw_p47 : lw_okq (⟨"LackFerryModel", "four", "(I)V"⟩, 43) := ⟨⟨by decide +kernel, by decide +kernel⟩, tb_in5 (List.mem_of_getElem? (i := 184) rfl), tb_in5 (List.mem_of_getElem? (i := 182) rfl), tb_in5 (List.mem_of_getElem? (i := 183) rfl)⟩
def lw_privs_3 : List (MethodName × Nat) := [(⟨"LackFerry$LogText", "readDeed", "(LLackFerry$Tokens;LLackFerry$Strait;I)Z"⟩, 4), (⟨"LackFerry$LogText", "addLine", "(III)Z"⟩, 4), (⟨"LackFerry$LogText", "readDays", "(LLackFerry$Tokens;)Z"⟩, 4), (⟨"LackFerry$LogText", "readDeath", "(LLackFerry$Tokens;I)Z"⟩, 4), (⟨"LackFerry", "judgeLog", "()I"⟩, 19), (⟨"LackFerry", "liveLine", "(III)I"⟩, 19), (⟨"LackFerry$Sentence", "readCond", "(LLackFerry$Tokens;I)Z"⟩, 6), (⟨"LackFerry$Sentence", "readAll", "(LLackFerry$Tokens;I)Z"⟩, 6), (⟨"LackFerry$Sentence", "readOne", "(LLackFerry$Tokens;I)Z"⟩, 6), (⟨"LackFerry$Sentence", "readBracket", "(LLackFerry$Tokens;I)Z"⟩, 6), (⟨"LackFerry$Sentence", "addOp", "(III)Z"⟩, 6), (⟨"LackFerry$Sentence", "readOnShore", "(LLackFerry$Tokens;I)Z"⟩, 6), (⟨"LackFerry$Sentence", "readCompared", "(LLackFerry$Tokens;I)Z"⟩, 6), (⟨"LackFerry$Sentence", "isSo", "(IILLackFerry$Strait;LLackFerry$Shores;)Z"⟩, 6), (⟨"java/lang/Throwable", "fillInStackTrace", "(I)Ljava/lang/Throwable;"⟩, 6), (⟨"LackFerryModel", "four", "(I)V"⟩, 43)]
theorem lw_r3 : ∀ q ∈ lw_privs_3, lw_okq q := List.forall_mem_cons.mpr ⟨lw_p32, List.forall_mem_cons.mpr ⟨lw_p33, List.forall_mem_cons.mpr ⟨lw_p34, List.forall_mem_cons.mpr ⟨lw_p35, List.forall_mem_cons.mpr ⟨lw_p36, List.forall_mem_cons.mpr ⟨lw_p37, List.forall_mem_cons.mpr ⟨lw_p38, List.forall_mem_cons.mpr ⟨lw_p39, List.forall_mem_cons.mpr ⟨lw_p40, List.forall_mem_cons.mpr ⟨lw_p41, List.forall_mem_cons.mpr ⟨lw_p42, List.forall_mem_cons.mpr ⟨lw_p43, List.forall_mem_cons.mpr ⟨lw_p44, List.forall_mem_cons.mpr ⟨lw_p45, List.forall_mem_cons.mpr ⟨lw_p46, List.forall_mem_cons.mpr ⟨lw_p47, fun _ h => absurd h List.not_mem_nil⟩⟩⟩⟩⟩⟩⟩⟩⟩⟩⟩⟩⟩⟩⟩⟩
set_option maxRecDepth 100000 in
theorem lw_p48 : lw_okq (⟨"LackFerryModel", "taken", "(I)V"⟩, 43) := ⟨⟨by decide +kernel, by decide +kernel⟩, tb_in5 (List.mem_of_getElem? (i := 184) rfl), tb_in6 (List.mem_of_getElem? (i := 116) rfl), tb_in6 (List.mem_of_getElem? (i := 117) rfl)⟩
set_option maxRecDepth 100000 in
theorem lw_p49 : lw_okq (⟨"LackFerryModel", "next", "()V"⟩, 43) := ⟨⟨by decide +kernel, by decide +kernel⟩, tb_in5 (List.mem_of_getElem? (i := 184) rfl), tb_in6 (List.mem_of_getElem? (i := 120) rfl), tb_in6 (List.mem_of_getElem? (i := 121) rfl)⟩
set_option maxRecDepth 100000 in
theorem lw_p50 : lw_okq (⟨"LackFerryModel", "peek", "()I"⟩, 43) := ⟨⟨by decide +kernel, by decide +kernel⟩, tb_in5 (List.mem_of_getElem? (i := 184) rfl), tb_in6 (List.mem_of_getElem? (i := 124) rfl), tb_in6 (List.mem_of_getElem? (i := 125) rfl)⟩
set_option maxRecDepth 100000 in
theorem lw_p51 : lw_okq (⟨"LackFerryModel", "line", "()Z"⟩, 43) := ⟨⟨by decide +kernel, by decide +kernel⟩, tb_in5 (List.mem_of_getElem? (i := 184) rfl), tb_in6 (List.mem_of_getElem? (i := 134) rfl), tb_in6 (List.mem_of_getElem? (i := 135) rfl)⟩
set_option maxRecDepth 100000 in
theorem lw_p52 : lw_okq (⟨"LackFerryModel", "isWord", "(J)Z"⟩, 43) := ⟨⟨by decide +kernel, by decide +kernel⟩, tb_in5 (List.mem_of_getElem? (i := 184) rfl), tb_in6 (List.mem_of_getElem? (i := 138) rfl), tb_in6 (List.mem_of_getElem? (i := 139) rfl)⟩
set_option maxRecDepth 100000 in
theorem lw_p53 : lw_okq (⟨"LackFerryModel", "bad", "(I)Z"⟩, 43) := ⟨⟨by decide +kernel, by decide +kernel⟩, tb_in5 (List.mem_of_getElem? (i := 184) rfl), tb_in6 (List.mem_of_getElem? (i := 142) rfl), tb_in6 (List.mem_of_getElem? (i := 143) rfl)⟩
set_option maxRecDepth 100000 in
theorem lw_p54 : lw_okq (⟨"LackFerryModel", "puts", "(III)Z"⟩, 43) := ⟨⟨by decide +kernel, by decide +kernel⟩, tb_in5 (List.mem_of_getElem? (i := 184) rfl), tb_in6 (List.mem_of_getElem? (i := 146) rfl), tb_in6 (List.mem_of_getElem? (i := 147) rfl)⟩
set_option maxRecDepth 100000 in
theorem lw_p55 : lw_okq (⟨"LackFerryModel", "takes", "(II)Z"⟩, 43) := ⟨⟨by decide +kernel, by decide +kernel⟩, tb_in5 (List.mem_of_getElem? (i := 184) rfl), tb_in6 (List.mem_of_getElem? (i := 150) rfl), tb_in6 (List.mem_of_getElem? (i := 151) rfl)⟩
set_option maxRecDepth 100000 in
theorem lw_p56 : lw_okq (⟨"LackFerryModel", "fresh", "(I)Z"⟩, 43) := ⟨⟨by decide +kernel, by decide +kernel⟩, tb_in5 (List.mem_of_getElem? (i := 184) rfl), tb_in6 (List.mem_of_getElem? (i := 157) rfl), tb_in6 (List.mem_of_getElem? (i := 158) rfl)⟩
set_option maxRecDepth 100000 in
theorem lw_p57 : lw_okq (⟨"LackFerryModel", "isName", "()Z"⟩, 43) := ⟨⟨by decide +kernel, by decide +kernel⟩, tb_in5 (List.mem_of_getElem? (i := 184) rfl), tb_in6 (List.mem_of_getElem? (i := 161) rfl), tb_in6 (List.mem_of_getElem? (i := 162) rfl)⟩
set_option maxRecDepth 100000 in
theorem lw_p58 : lw_okq (⟨"LackFerryModel", "find", "(II)I"⟩, 43) := ⟨⟨by decide +kernel, by decide +kernel⟩, tb_in5 (List.mem_of_getElem? (i := 184) rfl), tb_in6 (List.mem_of_getElem? (i := 165) rfl), tb_in6 (List.mem_of_getElem? (i := 166) rfl)⟩
set_option maxRecDepth 100000 in
theorem lw_p59 : lw_okq (⟨"LackFerryModel", "readMisses", "()Z"⟩, 43) := ⟨⟨by decide +kernel, by decide +kernel⟩, tb_in5 (List.mem_of_getElem? (i := 184) rfl), tb_in6 (List.mem_of_getElem? (i := 169) rfl), tb_in6 (List.mem_of_getElem? (i := 170) rfl)⟩
set_option maxRecDepth 100000 in
theorem lw_p60 : lw_okq (⟨"LackFerryModel", "takesName", "(II)Z"⟩, 43) := ⟨⟨by decide +kernel, by decide +kernel⟩, tb_in5 (List.mem_of_getElem? (i := 184) rfl), tb_in6 (List.mem_of_getElem? (i := 173) rfl), tb_in6 (List.mem_of_getElem? (i := 174) rfl)⟩
set_option maxRecDepth 100000 in
theorem lw_p61 : lw_okq (⟨"LackFerryModel", "looksAt", "(II)Z"⟩, 43) := ⟨⟨by decide +kernel, by decide +kernel⟩, tb_in5 (List.mem_of_getElem? (i := 184) rfl), tb_in6 (List.mem_of_getElem? (i := 177) rfl), tb_in6 (List.mem_of_getElem? (i := 178) rfl)⟩
set_option maxRecDepth 100000 in
theorem lw_p62 : lw_okq (⟨"LackFerryModel", "sign", "(I)Z"⟩, 43) := ⟨⟨by decide +kernel, by decide +kernel⟩, tb_in5 (List.mem_of_getElem? (i := 184) rfl), tb_in6 (List.mem_of_getElem? (i := 184) rfl), tb_in6 (List.mem_of_getElem? (i := 185) rfl)⟩
set_option maxRecDepth 100000 in
theorem lw_p63 : lw_okq (⟨"LackFerryModel", "isSign", "(I)Z"⟩, 43) := ⟨⟨by decide +kernel, by decide +kernel⟩, tb_in5 (List.mem_of_getElem? (i := 184) rfl), tb_in6 (List.mem_of_getElem? (i := 188) rfl), tb_in6 (List.mem_of_getElem? (i := 189) rfl)⟩
def lw_privs_4 : List (MethodName × Nat) := [(⟨"LackFerryModel", "taken", "(I)V"⟩, 43), (⟨"LackFerryModel", "next", "()V"⟩, 43), (⟨"LackFerryModel", "peek", "()I"⟩, 43), (⟨"LackFerryModel", "line", "()Z"⟩, 43), (⟨"LackFerryModel", "isWord", "(J)Z"⟩, 43), (⟨"LackFerryModel", "bad", "(I)Z"⟩, 43), (⟨"LackFerryModel", "puts", "(III)Z"⟩, 43), (⟨"LackFerryModel", "takes", "(II)Z"⟩, 43), (⟨"LackFerryModel", "fresh", "(I)Z"⟩, 43), (⟨"LackFerryModel", "isName", "()Z"⟩, 43), (⟨"LackFerryModel", "find", "(II)I"⟩, 43), (⟨"LackFerryModel", "readMisses", "()Z"⟩, 43), (⟨"LackFerryModel", "takesName", "(II)Z"⟩, 43), (⟨"LackFerryModel", "looksAt", "(II)Z"⟩, 43), (⟨"LackFerryModel", "sign", "(I)Z"⟩, 43), (⟨"LackFerryModel", "isSign", "(I)Z"⟩, 43)]
theorem lw_r4 : ∀ q ∈ lw_privs_4, lw_okq q := List.forall_mem_cons.mpr ⟨lw_p48, List.forall_mem_cons.mpr ⟨lw_p49, List.forall_mem_cons.mpr ⟨lw_p50, List.forall_mem_cons.mpr ⟨lw_p51, List.forall_mem_cons.mpr ⟨lw_p52, List.forall_mem_cons.mpr ⟨lw_p53, List.forall_mem_cons.mpr ⟨lw_p54, List.forall_mem_cons.mpr ⟨lw_p55, List.forall_mem_cons.mpr ⟨lw_p56, List.forall_mem_cons.mpr ⟨lw_p57, List.forall_mem_cons.mpr ⟨lw_p58, List.forall_mem_cons.mpr ⟨lw_p59, List.forall_mem_cons.mpr ⟨lw_p60, List.forall_mem_cons.mpr ⟨lw_p61, List.forall_mem_cons.mpr ⟨lw_p62, List.forall_mem_cons.mpr ⟨lw_p63, fun _ h => absurd h List.not_mem_nil⟩⟩⟩⟩⟩⟩⟩⟩⟩⟩⟩⟩⟩⟩⟩⟩
set_option maxRecDepth 100000 in
theorem lw_p64 : lw_okq (⟨"LackFerryModel", "isPlace", "(II)Z"⟩, 43) := ⟨⟨by decide +kernel, by decide +kernel⟩, tb_in5 (List.mem_of_getElem? (i := 184) rfl), tb_in6 (List.mem_of_getElem? (i := 200) rfl), tb_in6 (List.mem_of_getElem? (i := 201) rfl)⟩
set_option maxRecDepth 100000 in
theorem lw_p65 : lw_okq (⟨"LackFerryModel", "isGood", "(I)Z"⟩, 43) := ⟨⟨by decide +kernel, by decide +kernel⟩, tb_in5 (List.mem_of_getElem? (i := 184) rfl), tb_in6 (List.mem_of_getElem? (i := 204) rfl), tb_in6 (List.mem_of_getElem? (i := 205) rfl)⟩
set_option maxRecDepth 100000 in
theorem lw_p66 : lw_okq (⟨"LackFerryModel", "isShore", "(I)Z"⟩, 43) := ⟨⟨by decide +kernel, by decide +kernel⟩, tb_in5 (List.mem_of_getElem? (i := 184) rfl), tb_in6 (List.mem_of_getElem? (i := 208) rfl), tb_in6 (List.mem_of_getElem? (i := 209) rfl)⟩
set_option maxRecDepth 100000 in
theorem lw_p67 : lw_okq (⟨"LackFerryModel", "lackOf", "(II)I"⟩, 43) := ⟨⟨by decide +kernel, by decide +kernel⟩, tb_in5 (List.mem_of_getElem? (i := 184) rfl), tb_in6 (List.mem_of_getElem? (i := 215) rfl), tb_in6 (List.mem_of_getElem? (i := 216) rfl)⟩
set_option maxRecDepth 100000 in
theorem lw_p68 : lw_okq (⟨"LackFerryModel", "isFalse", "(II)Z"⟩, 43) := ⟨⟨by decide +kernel, by decide +kernel⟩, tb_in5 (List.mem_of_getElem? (i := 184) rfl), tb_in6 (List.mem_of_getElem? (i := 219) rfl), tb_in6 (List.mem_of_getElem? (i := 220) rfl)⟩
set_option maxRecDepth 100000 in
theorem lw_p69 : lw_okq (⟨"LackFerryModel", "isMan", "(I)Z"⟩, 43) := ⟨⟨by decide +kernel, by decide +kernel⟩, tb_in5 (List.mem_of_getElem? (i := 184) rfl), tb_in6 (List.mem_of_getElem? (i := 231) rfl), tb_in6 (List.mem_of_getElem? (i := 232) rfl)⟩
set_option maxRecDepth 100000 in
theorem lw_p70 : lw_okq (⟨"LackFerryModel", "throwsIf", "(Z)Z"⟩, 43) := ⟨⟨by decide +kernel, by decide +kernel⟩, tb_in5 (List.mem_of_getElem? (i := 184) rfl), tb_in6 (List.mem_of_getElem? (i := 235) rfl), tb_in6 (List.mem_of_getElem? (i := 236) rfl)⟩
set_option maxRecDepth 100000 in
theorem lw_p71 : lw_okq (⟨"LackFerryModel", "isDead", "(I)Z"⟩, 43) := ⟨⟨by decide +kernel, by decide +kernel⟩, tb_in5 (List.mem_of_getElem? (i := 184) rfl), tb_in6 (List.mem_of_getElem? (i := 239) rfl), tb_in7 (List.mem_of_getElem? (i := 0) rfl)⟩
set_option maxRecDepth 100000 in
theorem lw_p72 : lw_okq (⟨"LackFerryModel", "missedBy", "(I)I"⟩, 43) := ⟨⟨by decide +kernel, by decide +kernel⟩, tb_in5 (List.mem_of_getElem? (i := 184) rfl), tb_in7 (List.mem_of_getElem? (i := 3) rfl), tb_in7 (List.mem_of_getElem? (i := 4) rfl)⟩
set_option maxRecDepth 100000 in
theorem lw_p73 : lw_okq (⟨"LackFerryModel", "doesMiss", "(II)Z"⟩, 43) := ⟨⟨by decide +kernel, by decide +kernel⟩, tb_in5 (List.mem_of_getElem? (i := 184) rfl), tb_in7 (List.mem_of_getElem? (i := 7) rfl), tb_in7 (List.mem_of_getElem? (i := 8) rfl)⟩
set_option maxRecDepth 100000 in
theorem lw_p74 : lw_okq (⟨"LackFerryModel", "areUnlike", "(II)Z"⟩, 43) := ⟨⟨by decide +kernel, by decide +kernel⟩, tb_in5 (List.mem_of_getElem? (i := 184) rfl), tb_in7 (List.mem_of_getElem? (i := 11) rfl), tb_in7 (List.mem_of_getElem? (i := 12) rfl)⟩
set_option maxRecDepth 100000 in
theorem lw_p75 : lw_okq (⟨"LackFerryModel", "missesOf", "(I)I"⟩, 43) := ⟨⟨by decide +kernel, by decide +kernel⟩, tb_in5 (List.mem_of_getElem? (i := 184) rfl), tb_in7 (List.mem_of_getElem? (i := 15) rfl), tb_in7 (List.mem_of_getElem? (i := 16) rfl)⟩
set_option maxRecDepth 100000 in
theorem lw_p76 : lw_okq (⟨"LackFerryModel", "menOn", "(I)I"⟩, 43) := ⟨⟨by decide +kernel, by decide +kernel⟩, tb_in5 (List.mem_of_getElem? (i := 184) rfl), tb_in7 (List.mem_of_getElem? (i := 27) rfl), tb_in7 (List.mem_of_getElem? (i := 28) rfl)⟩
set_option maxRecDepth 100000 in
theorem lw_p77 : lw_okq (⟨"LackFerryModel", "whyHoard", "(II)I"⟩, 43) := ⟨⟨by decide +kernel, by decide +kernel⟩, tb_in5 (List.mem_of_getElem? (i := 184) rfl), tb_in7 (List.mem_of_getElem? (i := 35) rfl), tb_in7 (List.mem_of_getElem? (i := 36) rfl)⟩
set_option maxRecDepth 100000 in
theorem lw_p78 : lw_okq (⟨"LackFerryModel", "keep", "()V"⟩, 43) := ⟨⟨by decide +kernel, by decide +kernel⟩, tb_in5 (List.mem_of_getElem? (i := 184) rfl), tb_in7 (List.mem_of_getElem? (i := 39) rfl), tb_in7 (List.mem_of_getElem? (i := 40) rfl)⟩
set_option maxRecDepth 100000 in
theorem lw_p79 : lw_okq (⟨"LackFerryModel", "hoards", "(II)V"⟩, 43) := ⟨⟨by decide +kernel, by decide +kernel⟩, tb_in5 (List.mem_of_getElem? (i := 184) rfl), tb_in7 (List.mem_of_getElem? (i := 43) rfl), tb_in7 (List.mem_of_getElem? (i := 44) rfl)⟩
def lw_privs_5 : List (MethodName × Nat) := [(⟨"LackFerryModel", "isPlace", "(II)Z"⟩, 43), (⟨"LackFerryModel", "isGood", "(I)Z"⟩, 43), (⟨"LackFerryModel", "isShore", "(I)Z"⟩, 43), (⟨"LackFerryModel", "lackOf", "(II)I"⟩, 43), (⟨"LackFerryModel", "isFalse", "(II)Z"⟩, 43), (⟨"LackFerryModel", "isMan", "(I)Z"⟩, 43), (⟨"LackFerryModel", "throwsIf", "(Z)Z"⟩, 43), (⟨"LackFerryModel", "isDead", "(I)Z"⟩, 43), (⟨"LackFerryModel", "missedBy", "(I)I"⟩, 43), (⟨"LackFerryModel", "doesMiss", "(II)Z"⟩, 43), (⟨"LackFerryModel", "areUnlike", "(II)Z"⟩, 43), (⟨"LackFerryModel", "missesOf", "(I)I"⟩, 43), (⟨"LackFerryModel", "menOn", "(I)I"⟩, 43), (⟨"LackFerryModel", "whyHoard", "(II)I"⟩, 43), (⟨"LackFerryModel", "keep", "()V"⟩, 43), (⟨"LackFerryModel", "hoards", "(II)V"⟩, 43)]
theorem lw_r5 : ∀ q ∈ lw_privs_5, lw_okq q := List.forall_mem_cons.mpr ⟨lw_p64, List.forall_mem_cons.mpr ⟨lw_p65, List.forall_mem_cons.mpr ⟨lw_p66, List.forall_mem_cons.mpr ⟨lw_p67, List.forall_mem_cons.mpr ⟨lw_p68, List.forall_mem_cons.mpr ⟨lw_p69, List.forall_mem_cons.mpr ⟨lw_p70, List.forall_mem_cons.mpr ⟨lw_p71, List.forall_mem_cons.mpr ⟨lw_p72, List.forall_mem_cons.mpr ⟨lw_p73, List.forall_mem_cons.mpr ⟨lw_p74, List.forall_mem_cons.mpr ⟨lw_p75, List.forall_mem_cons.mpr ⟨lw_p76, List.forall_mem_cons.mpr ⟨lw_p77, List.forall_mem_cons.mpr ⟨lw_p78, List.forall_mem_cons.mpr ⟨lw_p79, fun _ h => absurd h List.not_mem_nil⟩⟩⟩⟩⟩⟩⟩⟩⟩⟩⟩⟩⟩⟩⟩⟩
set_option maxRecDepth 100000 in
theorem lw_p80 : lw_okq (⟨"LackFerryModel", "whyBare", "(II)I"⟩, 43) := ⟨⟨by decide +kernel, by decide +kernel⟩, tb_in5 (List.mem_of_getElem? (i := 184) rfl), tb_in7 (List.mem_of_getElem? (i := 51) rfl), tb_in7 (List.mem_of_getElem? (i := 52) rfl)⟩
set_option maxRecDepth 100000 in
theorem lw_p81 : lw_okq (⟨"LackFerryModel", "goesOn", "(I)I"⟩, 43) := ⟨⟨by decide +kernel, by decide +kernel⟩, tb_in5 (List.mem_of_getElem? (i := 184) rfl), tb_in7 (List.mem_of_getElem? (i := 67) rfl), tb_in7 (List.mem_of_getElem? (i := 68) rfl)⟩
set_option maxRecDepth 100000 in
theorem lw_p82 : lw_okq (⟨"LackFerryModel", "day", "()V"⟩, 43) := ⟨⟨by decide +kernel, by decide +kernel⟩, tb_in5 (List.mem_of_getElem? (i := 184) rfl), tb_in7 (List.mem_of_getElem? (i := 71) rfl), tb_in7 (List.mem_of_getElem? (i := 72) rfl)⟩
set_option maxRecDepth 100000 in
theorem lw_p83 : lw_okq (⟨"LackFerryModel", "goingSet", "()I"⟩, 43) := ⟨⟨by decide +kernel, by decide +kernel⟩, tb_in5 (List.mem_of_getElem? (i := 184) rfl), tb_in7 (List.mem_of_getElem? (i := 75) rfl), tb_in7 (List.mem_of_getElem? (i := 76) rfl)⟩
set_option maxRecDepth 100000 in
theorem lw_p84 : lw_okq (⟨"LackFerryModel", "goesOf", "(I)I"⟩, 43) := ⟨⟨by decide +kernel, by decide +kernel⟩, tb_in5 (List.mem_of_getElem? (i := 184) rfl), tb_in7 (List.mem_of_getElem? (i := 79) rfl), tb_in7 (List.mem_of_getElem? (i := 80) rfl)⟩
set_option maxRecDepth 100000 in
theorem lw_p85 : lw_okq (⟨"LackFerryModel", "eats", "(I)V"⟩, 43) := ⟨⟨by decide +kernel, by decide +kernel⟩, tb_in5 (List.mem_of_getElem? (i := 184) rfl), tb_in7 (List.mem_of_getElem? (i := 86) rfl), tb_in7 (List.mem_of_getElem? (i := 87) rfl)⟩
set_option maxRecDepth 100000 in
theorem lw_p86 : lw_okq (⟨"LackFerryModel", "tries", "()V"⟩, 43) := ⟨⟨by decide +kernel, by decide +kernel⟩, tb_in5 (List.mem_of_getElem? (i := 184) rfl), tb_in7 (List.mem_of_getElem? (i := 114) rfl), tb_in7 (List.mem_of_getElem? (i := 115) rfl)⟩
set_option maxRecDepth 100000 in
theorem lw_p87 : lw_okq (⟨"LackFerryModel", "back", "()V"⟩, 43) := ⟨⟨by decide +kernel, by decide +kernel⟩, tb_in5 (List.mem_of_getElem? (i := 184) rfl), tb_in7 (List.mem_of_getElem? (i := 118) rfl), tb_in7 (List.mem_of_getElem? (i := 119) rfl)⟩
set_option maxRecDepth 100000 in
theorem lw_p88 : lw_okq (⟨"LackFerryModel", "octet", "(I)I"⟩, 43) := ⟨⟨by decide +kernel, by decide +kernel⟩, tb_in5 (List.mem_of_getElem? (i := 184) rfl), tb_in7 (List.mem_of_getElem? (i := 142) rfl), tb_in7 (List.mem_of_getElem? (i := 143) rfl)⟩
set_option maxRecDepth 100000 in
theorem lw_p89 : lw_okq (⟨"LackFerryModel", "lays", "(I)V"⟩, 43) := ⟨⟨by decide +kernel, by decide +kernel⟩, tb_in5 (List.mem_of_getElem? (i := 184) rfl), tb_in7 (List.mem_of_getElem? (i := 150) rfl), tb_in7 (List.mem_of_getElem? (i := 151) rfl)⟩
set_option maxRecDepth 100000 in
theorem lw_p90 : lw_okq (⟨"LackFerryModel", "areAlike", "(II)Z"⟩, 43) := ⟨⟨by decide +kernel, by decide +kernel⟩, tb_in5 (List.mem_of_getElem? (i := 184) rfl), tb_in7 (List.mem_of_getElem? (i := 154) rfl), tb_in7 (List.mem_of_getElem? (i := 155) rfl)⟩
set_option maxRecDepth 100000 in
theorem lw_p91 : lw_okq (⟨"LackFerryModel", "draws", "(II)I"⟩, 43) := ⟨⟨by decide +kernel, by decide +kernel⟩, tb_in5 (List.mem_of_getElem? (i := 184) rfl), tb_in7 (List.mem_of_getElem? (i := 189) rfl), tb_in7 (List.mem_of_getElem? (i := 190) rfl)⟩
set_option maxRecDepth 100000 in
theorem lw_p92 : lw_okq (⟨"LackFerryModel", "drawsDay", "()V"⟩, 43) := ⟨⟨by decide +kernel, by decide +kernel⟩, tb_in5 (List.mem_of_getElem? (i := 184) rfl), tb_in7 (List.mem_of_getElem? (i := 193) rfl), tb_in7 (List.mem_of_getElem? (i := 194) rfl)⟩
set_option maxRecDepth 100000 in
theorem lw_p93 : lw_okq (⟨"LackFerryModel", "draw", "(I)I"⟩, 43) := ⟨⟨by decide +kernel, by decide +kernel⟩, tb_in5 (List.mem_of_getElem? (i := 184) rfl), tb_in7 (List.mem_of_getElem? (i := 197) rfl), tb_in7 (List.mem_of_getElem? (i := 198) rfl)⟩
set_option maxRecDepth 100000 in
theorem lw_p94 : lw_okq (⟨"LackFerryModel", "logLine", "()Z"⟩, 43) := ⟨⟨by decide +kernel, by decide +kernel⟩, tb_in5 (List.mem_of_getElem? (i := 184) rfl), tb_in7 (List.mem_of_getElem? (i := 210) rfl), tb_in7 (List.mem_of_getElem? (i := 211) rfl)⟩
set_option maxRecDepth 100000 in
theorem lw_p95 : lw_okq (⟨"LackFerryModel", "does", "(IIII)I"⟩, 43) := ⟨⟨by decide +kernel, by decide +kernel⟩, tb_in5 (List.mem_of_getElem? (i := 184) rfl), tb_in7 (List.mem_of_getElem? (i := 214) rfl), tb_in7 (List.mem_of_getElem? (i := 215) rfl)⟩
def lw_privs_6 : List (MethodName × Nat) := [(⟨"LackFerryModel", "whyBare", "(II)I"⟩, 43), (⟨"LackFerryModel", "goesOn", "(I)I"⟩, 43), (⟨"LackFerryModel", "day", "()V"⟩, 43), (⟨"LackFerryModel", "goingSet", "()I"⟩, 43), (⟨"LackFerryModel", "goesOf", "(I)I"⟩, 43), (⟨"LackFerryModel", "eats", "(I)V"⟩, 43), (⟨"LackFerryModel", "tries", "()V"⟩, 43), (⟨"LackFerryModel", "back", "()V"⟩, 43), (⟨"LackFerryModel", "octet", "(I)I"⟩, 43), (⟨"LackFerryModel", "lays", "(I)V"⟩, 43), (⟨"LackFerryModel", "areAlike", "(II)Z"⟩, 43), (⟨"LackFerryModel", "draws", "(II)I"⟩, 43), (⟨"LackFerryModel", "drawsDay", "()V"⟩, 43), (⟨"LackFerryModel", "draw", "(I)I"⟩, 43), (⟨"LackFerryModel", "logLine", "()Z"⟩, 43), (⟨"LackFerryModel", "does", "(IIII)I"⟩, 43)]
theorem lw_r6 : ∀ q ∈ lw_privs_6, lw_okq q := List.forall_mem_cons.mpr ⟨lw_p80, List.forall_mem_cons.mpr ⟨lw_p81, List.forall_mem_cons.mpr ⟨lw_p82, List.forall_mem_cons.mpr ⟨lw_p83, List.forall_mem_cons.mpr ⟨lw_p84, List.forall_mem_cons.mpr ⟨lw_p85, List.forall_mem_cons.mpr ⟨lw_p86, List.forall_mem_cons.mpr ⟨lw_p87, List.forall_mem_cons.mpr ⟨lw_p88, List.forall_mem_cons.mpr ⟨lw_p89, List.forall_mem_cons.mpr ⟨lw_p90, List.forall_mem_cons.mpr ⟨lw_p91, List.forall_mem_cons.mpr ⟨lw_p92, List.forall_mem_cons.mpr ⟨lw_p93, List.forall_mem_cons.mpr ⟨lw_p94, List.forall_mem_cons.mpr ⟨lw_p95, fun _ h => absurd h List.not_mem_nil⟩⟩⟩⟩⟩⟩⟩⟩⟩⟩⟩⟩⟩⟩⟩⟩
set_option maxRecDepth 100000 in
theorem lw_p96 : lw_okq (⟨"LackFerryModel", "nots", "()V"⟩, 43) := ⟨⟨by decide +kernel, by decide +kernel⟩, tb_in5 (List.mem_of_getElem? (i := 184) rfl), tb_in7 (List.mem_of_getElem? (i := 226) rfl), tb_in7 (List.mem_of_getElem? (i := 227) rfl)⟩
set_option maxRecDepth 100000 in
theorem lw_p97 : lw_okq (⟨"LackFerryModel", "code", "(III)V"⟩, 43) := ⟨⟨by decide +kernel, by decide +kernel⟩, tb_in5 (List.mem_of_getElem? (i := 184) rfl), tb_in7 (List.mem_of_getElem? (i := 230) rfl), tb_in7 (List.mem_of_getElem? (i := 231) rfl)⟩
set_option maxRecDepth 100000 in
theorem lw_p98 : lw_okq (⟨"LackFerryModel", "joins", "(I)V"⟩, 43) := ⟨⟨by decide +kernel, by decide +kernel⟩, tb_in5 (List.mem_of_getElem? (i := 184) rfl), tb_in7 (List.mem_of_getElem? (i := 234) rfl), tb_in7 (List.mem_of_getElem? (i := 235) rfl)⟩
set_option maxRecDepth 100000 in
theorem lw_p99 : lw_okq (⟨"LackFerryModel", "behind", "()Z"⟩, 43) := ⟨⟨by decide +kernel, by decide +kernel⟩, tb_in5 (List.mem_of_getElem? (i := 184) rfl), tb_in7 (List.mem_of_getElem? (i := 238) rfl), tb_in7 (List.mem_of_getElem? (i := 239) rfl)⟩
set_option maxRecDepth 100000 in
theorem lw_p100 : lw_okq (⟨"LackFerryModel", "operand", "()Z"⟩, 43) := ⟨⟨by decide +kernel, by decide +kernel⟩, tb_in5 (List.mem_of_getElem? (i := 184) rfl), tb_in8 (List.mem_of_getElem? (i := 2) rfl), tb_in8 (List.mem_of_getElem? (i := 3) rfl)⟩
set_option maxRecDepth 100000 in
theorem lw_p101 : lw_okq (⟨"LackFerryModel", "leafOf", "()I"⟩, 43) := ⟨⟨by decide +kernel, by decide +kernel⟩, tb_in5 (List.mem_of_getElem? (i := 184) rfl), tb_in8 (List.mem_of_getElem? (i := 6) rfl), tb_in8 (List.mem_of_getElem? (i := 7) rfl)⟩
set_option maxRecDepth 100000 in
theorem lw_p102 : lw_okq (⟨"LackFerryModel", "isSaid", "(I)Z"⟩, 43) := ⟨⟨by decide +kernel, by decide +kernel⟩, tb_in5 (List.mem_of_getElem? (i := 184) rfl), tb_in8 (List.mem_of_getElem? (i := 14) rfl), tb_in8 (List.mem_of_getElem? (i := 15) rfl)⟩
set_option maxRecDepth 100000 in
theorem lw_p103 : lw_okq (⟨"LackFerryModel", "isLeaf", "(IIII)Z"⟩, 43) := ⟨⟨by decide +kernel, by decide +kernel⟩, tb_in5 (List.mem_of_getElem? (i := 184) rfl), tb_in8 (List.mem_of_getElem? (i := 18) rfl), tb_in8 (List.mem_of_getElem? (i := 19) rfl)⟩
def lw_privs_7 : List (MethodName × Nat) := [(⟨"LackFerryModel", "nots", "()V"⟩, 43), (⟨"LackFerryModel", "code", "(III)V"⟩, 43), (⟨"LackFerryModel", "joins", "(I)V"⟩, 43), (⟨"LackFerryModel", "behind", "()Z"⟩, 43), (⟨"LackFerryModel", "operand", "()Z"⟩, 43), (⟨"LackFerryModel", "leafOf", "()I"⟩, 43), (⟨"LackFerryModel", "isSaid", "(I)Z"⟩, 43), (⟨"LackFerryModel", "isLeaf", "(IIII)Z"⟩, 43)]
theorem lw_r7 : ∀ q ∈ lw_privs_7, lw_okq q := List.forall_mem_cons.mpr ⟨lw_p96, List.forall_mem_cons.mpr ⟨lw_p97, List.forall_mem_cons.mpr ⟨lw_p98, List.forall_mem_cons.mpr ⟨lw_p99, List.forall_mem_cons.mpr ⟨lw_p100, List.forall_mem_cons.mpr ⟨lw_p101, List.forall_mem_cons.mpr ⟨lw_p102, List.forall_mem_cons.mpr ⟨lw_p103, fun _ h => absurd h List.not_mem_nil⟩⟩⟩⟩⟩⟩⟩⟩
def lw_privs : List (MethodName × Nat) := lw_privs_1 ++ (lw_privs_2 ++ (lw_privs_3 ++ (lw_privs_4 ++ (lw_privs_5 ++ (lw_privs_6 ++ (lw_privs_7))))))
def lw_tbl : List Cond := k2_sels lw_privs ++ tables_1
theorem lw_privs_ok : ∀ q ∈ lw_privs, lw_okq q := by
  show ∀ q ∈ lw_privs_1 ++ (lw_privs_2 ++ (lw_privs_3 ++ (lw_privs_4 ++ (lw_privs_5 ++ (lw_privs_6 ++ (lw_privs_7)))))), lw_okq q
  exact List.forall_mem_append.mpr ⟨lw_r1, List.forall_mem_append.mpr ⟨lw_r2, List.forall_mem_append.mpr ⟨lw_r3, List.forall_mem_append.mpr ⟨lw_r4, List.forall_mem_append.mpr ⟨lw_r5, List.forall_mem_append.mpr ⟨lw_r6, lw_r7⟩⟩⟩⟩⟩⟩

/-- the words that may be handed on -/
def ab_G : List Cond := lw_tbl.filter goodWord
theorem ab_gm {w : Cond} (h : w ∈ tables_1) (hg : goodWord w = true) : w ∈ ab_G := List.mem_filter.mpr ⟨List.mem_append_right _ h, hg⟩
theorem ab_gp {q : MethodName × Nat} (i : Nat) (h : lw_privs[i]? = some q) : Cond.selects q.1.cls q.1 q.1 ∈ ab_G := List.mem_filter.mpr ⟨List.mem_append_left _ (List.mem_map.mpr ⟨q, List.mem_of_getElem? h, rfl⟩), rfl⟩
theorem ab_good {cd w : Cond} (h : w ∈ ab_G) : GoodIn (cd :: ab_G) (w :: ab_G) := fun x hx => by
  have hx2 : x ∈ ab_G := (List.mem_cons.mp hx).elim (fun e => e ▸ h) id
  exact ⟨List.mem_cons_of_mem _ hx2, good_of_word (List.mem_filter.mp hx2).2⟩
theorem gm {cd w : Cond} (h : w ∈ ab_G) : w ∈ cd :: ab_G := List.mem_cons_of_mem _ h
/-- the instruction at a place, out of a list that was checked at once -/
theorem dk_at {c : ByteArray} {L : List (Nat × Instr × Nat)} (h : L.all (fun q => decide (decode c q.1 = .ok q.2)) = true) {i pc n : Nat} {x : Instr} (hq : L[i]? = some (pc, x, n)) : decode c pc = .ok (x, n) := by
  have e := List.all_eq_true.mp h (pc, x, n) (List.mem_of_getElem? hq)
  dsimp only at e
  exact of_decide_eq_true e
end
-- 09.names.lean.txt
section
def RX0 : String := "LackFerry$Draws"
def TX0 : u_T := fun k => match k with
  | _ => ("LackFerry$Draws", "x", "I", false)
def tyX0 : Nat → FieldType := fun k => match k with
  | _ => .int
theorem nmX0 : ∀ a, a < 1 → ∀ b, b < 1 → a ≠ b → (TX0 a).2.1 ≠ (TX0 b).2.1 := by decide +kernel
theorem tyX0_ok : ∀ k, k < 1 → parseFieldDescriptor (TX0 k).2.2.1 = some (tyX0 k) := by decide +kernel
abbrev cX0_init : ByteArray := prog_2_method_1_code
def yX0_init : MethodName := ⟨RX0, "<init>", "()V"⟩
abbrev cX0_drawOf : ByteArray := prog_2_method_2_code
def yX0_drawOf : MethodName := ⟨RX0, "drawOf", "(I)I"⟩
def RX1 : String := "LackFerry$Ferry"
def TX1 : u_T := fun k => match k with
  | 0 => ("LackFerry$Ferry", "freight", "[I", true)
  | 1 => ("LackFerry$Ferry", "roomFor", "[I", true)
  | 2 => ("LackFerry$Ferry", "boarders", "I", false)
  | _ => ("LackFerry$Ferry", "used", "I", false)
def tyX1 : Nat → FieldType := fun k => match k with
  | 0 => .array .int
  | 1 => .array .int
  | 2 => .int
  | _ => .int
theorem nmX1 : ∀ a, a < 4 → ∀ b, b < 4 → a ≠ b → (TX1 a).2.1 ≠ (TX1 b).2.1 := by decide +kernel
theorem tyX1_ok : ∀ k, k < 4 → parseFieldDescriptor (TX1 k).2.2.1 = some (tyX1 k) := by decide +kernel
abbrev cX1_init : ByteArray := prog_3_method_1_code
def yX1_init : MethodName := ⟨RX1, "<init>", "()V"⟩
abbrev cX1_amountMoved : ByteArray := prog_3_method_2_code
def yX1_amountMoved : MethodName := ⟨RX1, "amountMoved", "(III)I"⟩
abbrev cX1_plan : ByteArray := prog_3_method_3_code
def yX1_plan : MethodName := ⟨RX1, "plan", "(LLackFerry$Strait;LLackFerry$Shores;)V"⟩
abbrev cX1_passDays : ByteArray := prog_3_method_4_code
def yX1_passDays : MethodName := ⟨RX1, "passDays", "(LLackFerry$Strait;LLackFerry$Shores;I)I"⟩
abbrev cX1_carry : ByteArray := prog_3_method_5_code
def yX1_carry : MethodName := ⟨RX1, "carry", "(LLackFerry$Strait;LLackFerry$Shores;)V"⟩
def RX2 : String := "LackFerry$History"
def TX2 : u_T := fun k => match k with
  | 0 => ("LackFerry$History", "kept", "[LLackFerry$Shores;", true)
  | _ => ("LackFerry$History", "size", "I", false)
def tyX2 : Nat → FieldType := fun k => match k with
  | 0 => .array (.object "LackFerry$Shores")
  | _ => .int
theorem nmX2 : ∀ a, a < 2 → ∀ b, b < 2 → a ≠ b → (TX2 a).2.1 ≠ (TX2 b).2.1 := by decide +kernel
theorem tyX2_ok : ∀ k, k < 2 → parseFieldDescriptor (TX2 k).2.2.1 = some (tyX2 k) := by decide +kernel
abbrev cX2_init : ByteArray := prog_4_method_1_code
def yX2_init : MethodName := ⟨RX2, "<init>", "()V"⟩
abbrev cX2_forget : ByteArray := prog_4_method_2_code
def yX2_forget : MethodName := ⟨RX2, "forget", "()V"⟩
abbrev cX2_keep : ByteArray := prog_4_method_3_code
def yX2_keep : MethodName := ⟨RX2, "keep", "(LLackFerry$Shores;)V"⟩
abbrev cX2_dropOldest : ByteArray := prog_4_method_4_code
def yX2_dropOldest : MethodName := ⟨RX2, "dropOldest", "()V"⟩
abbrev cX2_takeBack : ByteArray := prog_4_method_5_code
def yX2_takeBack : MethodName := ⟨RX2, "takeBack", "(LLackFerry$Shores;)I"⟩
def RX3 : String := "LackFerry$Image"
def TX3 : u_T := fun k => match k with
  | 0 => ("LackFerry$Image", "strait", "LLackFerry$Strait;", true)
  | 1 => ("LackFerry$Image", "shores", "LLackFerry$Shores;", true)
  | _ => ("LackFerry$Image", "sentence", "LLackFerry$Sentence;", true)
def tyX3 : Nat → FieldType := fun k => match k with
  | 0 => .object "LackFerry$Strait"
  | 1 => .object "LackFerry$Shores"
  | _ => .object "LackFerry$Sentence"
theorem nmX3 : ∀ a, a < 3 → ∀ b, b < 3 → a ≠ b → (TX3 a).2.1 ≠ (TX3 b).2.1 := by decide +kernel
theorem tyX3_ok : ∀ k, k < 3 → parseFieldDescriptor (TX3 k).2.2.1 = some (tyX3 k) := by decide +kernel
abbrev cX3_init : ByteArray := prog_5_method_1_code
def yX3_init : MethodName := ⟨RX3, "<init>", "()V"⟩
def RX4 : String := "LackFerry$LogText"
def TX4 : u_T := fun k => match k with
  | 0 => ("LackFerry$LogText", "deeds", "[I", true)
  | 1 => ("LackFerry$LogText", "whom", "[I", true)
  | 2 => ("LackFerry$LogText", "amounts", "[I", true)
  | _ => ("LackFerry$LogText", "lines", "I", false)
def tyX4 : Nat → FieldType := fun k => match k with
  | 0 => .array .int
  | 1 => .array .int
  | 2 => .array .int
  | _ => .int
theorem nmX4 : ∀ a, a < 4 → ∀ b, b < 4 → a ≠ b → (TX4 a).2.1 ≠ (TX4 b).2.1 := by decide +kernel
theorem tyX4_ok : ∀ k, k < 4 → parseFieldDescriptor (TX4 k).2.2.1 = some (tyX4 k) := by decide +kernel
abbrev cX4_init : ByteArray := prog_6_method_1_code
def yX4_init : MethodName := ⟨RX4, "<init>", "()V"⟩
abbrev cX4_readText : ByteArray := prog_6_method_2_code
def yX4_readText : MethodName := ⟨RX4, "readText", "(LLackFerry$Tokens;LLackFerry$Strait;)V"⟩
abbrev cX4_readLine : ByteArray := prog_6_method_3_code
def yX4_readLine : MethodName := ⟨RX4, "readLine", "(LLackFerry$Tokens;LLackFerry$Strait;)Z"⟩
abbrev cX4_readDeed : ByteArray := prog_6_method_4_code
def yX4_readDeed : MethodName := ⟨RX4, "readDeed", "(LLackFerry$Tokens;LLackFerry$Strait;I)Z"⟩
abbrev cX4_readDays : ByteArray := prog_6_method_5_code
def yX4_readDays : MethodName := ⟨RX4, "readDays", "(LLackFerry$Tokens;)Z"⟩
abbrev cX4_readDeath : ByteArray := prog_6_method_6_code
def yX4_readDeath : MethodName := ⟨RX4, "readDeath", "(LLackFerry$Tokens;I)Z"⟩
abbrev cX4_addLine : ByteArray := prog_6_method_7_code
def yX4_addLine : MethodName := ⟨RX4, "addLine", "(III)Z"⟩
def RX5 : String := "LackFerry$Sentence"
def TX5 : u_T := fun k => match k with
  | 0 => ("LackFerry$Sentence", "ops", "[I", true)
  | 1 => ("LackFerry$Sentence", "firsts", "[I", true)
  | 2 => ("LackFerry$Sentence", "numbers", "[I", true)
  | 3 => ("LackFerry$Sentence", "size", "I", false)
  | 4 => ("LackFerry$Sentence", "ones", "I", false)
  | _ => ("LackFerry$Sentence", "isSaid", "Z", false)
def tyX5 : Nat → FieldType := fun k => match k with
  | 0 => .array .int
  | 1 => .array .int
  | 2 => .array .int
  | 3 => .int
  | 4 => .int
  | _ => .boolean
theorem nmX5 : ∀ a, a < 6 → ∀ b, b < 6 → a ≠ b → (TX5 a).2.1 ≠ (TX5 b).2.1 := by decide +kernel
theorem tyX5_ok : ∀ k, k < 6 → parseFieldDescriptor (TX5 k).2.2.1 = some (tyX5 k) := by decide +kernel
abbrev cX5_init : ByteArray := prog_7_method_1_code
def yX5_init : MethodName := ⟨RX5, "<init>", "()V"⟩
abbrev cX5_copyFrom : ByteArray := prog_7_method_2_code
def yX5_copyFrom : MethodName := ⟨RX5, "copyFrom", "(LLackFerry$Sentence;)V"⟩
abbrev cX5_readText : ByteArray := prog_7_method_3_code
def yX5_readText : MethodName := ⟨RX5, "readText", "(LLackFerry$Tokens;)V"⟩
abbrev cX5_readCond : ByteArray := prog_7_method_4_code
def yX5_readCond : MethodName := ⟨RX5, "readCond", "(LLackFerry$Tokens;I)Z"⟩
abbrev cX5_readAll : ByteArray := prog_7_method_5_code
def yX5_readAll : MethodName := ⟨RX5, "readAll", "(LLackFerry$Tokens;I)Z"⟩
abbrev cX5_readOne : ByteArray := prog_7_method_6_code
def yX5_readOne : MethodName := ⟨RX5, "readOne", "(LLackFerry$Tokens;I)Z"⟩
abbrev cX5_readBracket : ByteArray := prog_7_method_7_code
def yX5_readBracket : MethodName := ⟨RX5, "readBracket", "(LLackFerry$Tokens;I)Z"⟩
abbrev cX5_readOnShore : ByteArray := prog_7_method_8_code
def yX5_readOnShore : MethodName := ⟨RX5, "readOnShore", "(LLackFerry$Tokens;I)Z"⟩
abbrev cX5_readCompared : ByteArray := prog_7_method_9_code
def yX5_readCompared : MethodName := ⟨RX5, "readCompared", "(LLackFerry$Tokens;I)Z"⟩
abbrev cX5_addOp : ByteArray := prog_7_method_10_code
def yX5_addOp : MethodName := ⟨RX5, "addOp", "(III)Z"⟩
abbrev cX5_holdsOf : ByteArray := prog_7_method_11_code
def yX5_holdsOf : MethodName := ⟨RX5, "holdsOf", "(ILLackFerry$Strait;LLackFerry$Shores;)Z"⟩
abbrev cX5_isSo : ByteArray := prog_7_method_12_code
def yX5_isSo : MethodName := ⟨RX5, "isSo", "(IILLackFerry$Strait;LLackFerry$Shores;)Z"⟩
abbrev cX5_isSoThere : ByteArray := prog_7_method_13_code
def yX5_isSoThere : MethodName := ⟨RX5, "isSoThere", "(IILLackFerry$Strait;LLackFerry$Shores;)Z"⟩
abbrev cX5_valueOf : ByteArray := prog_7_method_14_code
def yX5_valueOf : MethodName := ⟨RX5, "valueOf", "(IILLackFerry$Shores;)I"⟩
abbrev cX5_isSoCompared : ByteArray := prog_7_method_15_code
def yX5_isSoCompared : MethodName := ⟨RX5, "isSoCompared", "(III)Z"⟩
def RX6 : String := "LackFerry$Shores"
def TX6 : u_T := fun k => match k with
  | 0 => ("LackFerry$Shores", "stocks", "[I", true)
  | 1 => ("LackFerry$Shores", "hoards", "[I", true)
  | 2 => ("LackFerry$Shores", "hungers", "[I", true)
  | 3 => ("LackFerry$Shores", "broughtTo", "[I", true)
  | 4 => ("LackFerry$Shores", "shoreOf", "[I", true)
  | 5 => ("LackFerry$Shores", "trips", "[I", true)
  | 6 => ("LackFerry$Shores", "daysApart", "[I", true)
  | 7 => ("LackFerry$Shores", "day", "I", false)
  | 8 => ("LackFerry$Shores", "emptyTrips", "I", false)
  | _ => ("LackFerry$Shores", "roomUsed", "I", false)
def tyX6 : Nat → FieldType := fun k => match k with
  | 0 => .array .int
  | 1 => .array .int
  | 2 => .array .int
  | 3 => .array .int
  | 4 => .array .int
  | 5 => .array .int
  | 6 => .array .int
  | 7 => .int
  | 8 => .int
  | _ => .int
theorem nmX6 : ∀ a, a < 10 → ∀ b, b < 10 → a ≠ b → (TX6 a).2.1 ≠ (TX6 b).2.1 := by decide +kernel
theorem tyX6_ok : ∀ k, k < 10 → parseFieldDescriptor (TX6 k).2.2.1 = some (tyX6 k) := by decide +kernel
abbrev cX6_init : ByteArray := prog_8_method_1_code
def yX6_init : MethodName := ⟨RX6, "<init>", "()V"⟩
abbrev cX6_beginAs : ByteArray := prog_8_method_2_code
def yX6_beginAs : MethodName := ⟨RX6, "beginAs", "(LLackFerry$Strait;)V"⟩
abbrev cX6_copyFrom : ByteArray := prog_8_method_3_code
def yX6_copyFrom : MethodName := ⟨RX6, "copyFrom", "(LLackFerry$Shores;)V"⟩
abbrev cX6_looksLike : ByteArray := prog_8_method_4_code
def yX6_looksLike : MethodName := ⟨RX6, "looksLike", "(LLackFerry$Shores;)Z"⟩
abbrev cX6_ferryShore : ByteArray := prog_8_method_5_code
def yX6_ferryShore : MethodName := ⟨RX6, "ferryShore", "()I"⟩
abbrev cX6_lackAt : ByteArray := prog_8_method_6_code
def yX6_lackAt : MethodName := ⟨RX6, "lackAt", "(LLackFerry$Strait;I)I"⟩
abbrev cX6_isFalse : ByteArray := prog_8_method_7_code
def yX6_isFalse : MethodName := ⟨RX6, "isFalse", "(LLackFerry$Strait;I)Z"⟩
abbrev cX6_hungerInAll : ByteArray := prog_8_method_8_code
def yX6_hungerInAll : MethodName := ⟨RX6, "hungerInAll", "()I"⟩
abbrev cX6_isAlive : ByteArray := prog_8_method_9_code
def yX6_isAlive : MethodName := ⟨RX6, "isAlive", "(I)Z"⟩
abbrev cX6_menOn : ByteArray := prog_8_method_10_code
def yX6_menOn : MethodName := ⟨RX6, "menOn", "(LLackFerry$Strait;I)I"⟩
abbrev cX6_apartOf : ByteArray := prog_8_method_11_code
def yX6_apartOf : MethodName := ⟨RX6, "apartOf", "(II)I"⟩
abbrev cX6_isFelt : ByteArray := prog_8_method_12_code
def yX6_isFelt : MethodName := ⟨RX6, "isFelt", "(LLackFerry$Strait;I)Z"⟩
abbrev cX6_allMissed : ByteArray := prog_8_method_13_code
def yX6_allMissed : MethodName := ⟨RX6, "allMissed", "(LLackFerry$Strait;)I"⟩
abbrev cX6_missersOf : ByteArray := prog_8_method_14_code
def yX6_missersOf : MethodName := ⟨RX6, "missersOf", "(LLackFerry$Strait;I)I"⟩
abbrev cX6_missedBy : ByteArray := prog_8_method_15_code
def yX6_missedBy : MethodName := ⟨RX6, "missedBy", "(LLackFerry$Strait;I)I"⟩
abbrev cX6_couldBeMissed : ByteArray := prog_8_method_16_code
def yX6_couldBeMissed : MethodName := ⟨RX6, "couldBeMissed", "(LLackFerry$Strait;I)Z"⟩
abbrev cX6_whyNot : ByteArray := prog_8_method_17_code
def yX6_whyNot : MethodName := ⟨RX6, "whyNot", "(III)I"⟩
abbrev cX6_perform : ByteArray := prog_8_method_18_code
def yX6_perform : MethodName := ⟨RX6, "perform", "(III)V"⟩
abbrev cX6_attempt : ByteArray := prog_8_method_19_code
def yX6_attempt : MethodName := ⟨RX6, "attempt", "(III)I"⟩
abbrev cX6_makeAndEat : ByteArray := prog_8_method_20_code
def yX6_makeAndEat : MethodName := ⟨RX6, "makeAndEat", "(LLackFerry$Strait;)V"⟩
abbrev cX6_countApart : ByteArray := prog_8_method_21_code
def yX6_countApart : MethodName := ⟨RX6, "countApart", "(LLackFerry$Strait;)V"⟩
def RX7 : String := "LackFerry$Strait"
def TX7 : u_T := fun k => match k with
  | 0 => ("LackFerry$Strait", "goodNames", "[J", true)
  | 1 => ("LackFerry$Strait", "manNames", "[J", true)
  | 2 => ("LackFerry$Strait", "firstShores", "[I", true)
  | 3 => ("LackFerry$Strait", "amounts", "[I", true)
  | 4 => ("LackFerry$Strait", "missers", "[I", true)
  | 5 => ("LackFerry$Strait", "missed", "[I", true)
  | 6 => ("LackFerry$Strait", "missDays", "[I", true)
  | 7 => ("LackFerry$Strait", "load", "I", false)
  | 8 => ("LackFerry$Strait", "goods", "I", false)
  | 9 => ("LackFerry$Strait", "men", "I", false)
  | 10 => ("LackFerry$Strait", "missings", "I", false)
  | 11 => ("LackFerry$Strait", "isLoadTold", "Z", false)
  | _ => ("LackFerry$Strait", "amountsTold", "J", false)
def tyX7 : Nat → FieldType := fun k => match k with
  | 0 => .array .long
  | 1 => .array .long
  | 2 => .array .int
  | 3 => .array .int
  | 4 => .array .int
  | 5 => .array .int
  | 6 => .array .int
  | 7 => .int
  | 8 => .int
  | 9 => .int
  | 10 => .int
  | 11 => .boolean
  | _ => .long
theorem nmX7 : ∀ a, a < 13 → ∀ b, b < 13 → a ≠ b → (TX7 a).2.1 ≠ (TX7 b).2.1 := by decide +kernel
theorem tyX7_ok : ∀ k, k < 13 → parseFieldDescriptor (TX7 k).2.2.1 = some (tyX7 k) := by decide +kernel
abbrev cX7_init : ByteArray := prog_9_method_1_code
def yX7_init : MethodName := ⟨RX7, "<init>", "()V"⟩
abbrev cX7_amountOf : ByteArray := prog_9_method_2_code
def yX7_amountOf : MethodName := ⟨RX7, "amountOf", "(II)I"⟩
abbrev cX7_leftAfter : ByteArray := prog_9_method_3_code
def yX7_leftAfter : MethodName := ⟨RX7, "leftAfter", "(II)I"⟩
abbrev cX7_stockAfter : ByteArray := prog_9_method_4_code
def yX7_stockAfter : MethodName := ⟨RX7, "stockAfter", "(II)I"⟩
abbrev cX7_copyFrom : ByteArray := prog_9_method_5_code
def yX7_copyFrom : MethodName := ⟨RX7, "copyFrom", "(LLackFerry$Strait;)V"⟩
abbrev cX7_clear : ByteArray := prog_9_method_6_code
def yX7_clear : MethodName := ⟨RX7, "clear", "()V"⟩
abbrev cX7_goodNamed : ByteArray := prog_9_method_7_code
def yX7_goodNamed : MethodName := ⟨RX7, "goodNamed", "(J)I"⟩
abbrev cX7_manNamed : ByteArray := prog_9_method_8_code
def yX7_manNamed : MethodName := ⟨RX7, "manNamed", "(J)I"⟩
abbrev cX7_readText : ByteArray := prog_9_method_9_code
def yX7_readText : MethodName := ⟨RX7, "readText", "(LLackFerry$Tokens;)I"⟩
abbrev cX7_readLine : ByteArray := prog_9_method_10_code
def yX7_readLine : MethodName := ⟨RX7, "readLine", "(LLackFerry$Tokens;)Z"⟩
abbrev cX7_readLoad : ByteArray := prog_9_method_11_code
def yX7_readLoad : MethodName := ⟨RX7, "readLoad", "(LLackFerry$Tokens;)Z"⟩
abbrev cX7_takeNewName : ByteArray := prog_9_method_12_code
def yX7_takeNewName : MethodName := ⟨RX7, "takeNewName", "(LLackFerry$Tokens;)Z"⟩
abbrev cX7_readGood : ByteArray := prog_9_method_13_code
def yX7_readGood : MethodName := ⟨RX7, "readGood", "(LLackFerry$Tokens;)Z"⟩
abbrev cX7_readMan : ByteArray := prog_9_method_14_code
def yX7_readMan : MethodName := ⟨RX7, "readMan", "(LLackFerry$Tokens;)Z"⟩
abbrev cX7_takeGood : ByteArray := prog_9_method_15_code
def yX7_takeGood : MethodName := ⟨RX7, "takeGood", "(LLackFerry$Tokens;)I"⟩
abbrev cX7_takeMan : ByteArray := prog_9_method_16_code
def yX7_takeMan : MethodName := ⟨RX7, "takeMan", "(LLackFerry$Tokens;)I"⟩
abbrev cX7_readAmount : ByteArray := prog_9_method_17_code
def yX7_readAmount : MethodName := ⟨RX7, "readAmount", "(LLackFerry$Tokens;I)Z"⟩
abbrev cX7_readMisses : ByteArray := prog_9_method_18_code
def yX7_readMisses : MethodName := ⟨RX7, "readMisses", "(LLackFerry$Tokens;)Z"⟩
abbrev cX7_isMissTold : ByteArray := prog_9_method_19_code
def yX7_isMissTold : MethodName := ⟨RX7, "isMissTold", "(II)Z"⟩
def RX8 : String := "LackFerry$Tape"
def TX8 : u_T := fun k => match k with
  | 0 => ("LackFerry$Tape", "bytes", "[B", true)
  | 1 => ("LackFerry$Tape", "size", "I", false)
  | _ => ("LackFerry$Tape", "at", "I", false)
def tyX8 : Nat → FieldType := fun k => match k with
  | 0 => .array .byte
  | 1 => .int
  | _ => .int
theorem nmX8 : ∀ a, a < 3 → ∀ b, b < 3 → a ≠ b → (TX8 a).2.1 ≠ (TX8 b).2.1 := by decide +kernel
theorem tyX8_ok : ∀ k, k < 3 → parseFieldDescriptor (TX8 k).2.2.1 = some (tyX8 k) := by decide +kernel
abbrev cX8_init : ByteArray := prog_10_method_1_code
def yX8_init : MethodName := ⟨RX8, "<init>", "()V"⟩
abbrev cX8_put : ByteArray := prog_10_method_2_code
def yX8_put : MethodName := ⟨RX8, "put", "(I)V"⟩
abbrev cX8_valueAt : ByteArray := prog_10_method_3_code
def yX8_valueAt : MethodName := ⟨RX8, "valueAt", "(I)I"⟩
abbrev cX8_moveInto : ByteArray := prog_10_method_4_code
def yX8_moveInto : MethodName := ⟨RX8, "moveInto", "(LLackFerry$Tokens;I)V"⟩
abbrev cX8_skipBlanks : ByteArray := prog_10_method_5_code
def yX8_skipBlanks : MethodName := ⟨RX8, "skipBlanks", "()V"⟩
abbrev cX8_cutToken : ByteArray := prog_10_method_6_code
def yX8_cutToken : MethodName := ⟨RX8, "cutToken", "(LLackFerry$Tokens;)I"⟩
abbrev cX8_cutRun : ByteArray := prog_10_method_7_code
def yX8_cutRun : MethodName := ⟨RX8, "cutRun", "(LLackFerry$Tokens;)I"⟩
abbrev cX8_kindOfWord : ByteArray := prog_10_method_8_code
def yX8_kindOfWord : MethodName := ⟨RX8, "kindOfWord", "(II)I"⟩
abbrev cX8_isToldWord : ByteArray := prog_10_method_9_code
def yX8_isToldWord : MethodName := ⟨RX8, "isToldWord", "(III)Z"⟩
abbrev cX8_isLetter : ByteArray := prog_10_method_10_code
def yX8_isLetter : MethodName := ⟨RX8, "isLetter", "(I)Z"⟩
abbrev cX8_isDigit : ByteArray := prog_10_method_11_code
def yX8_isDigit : MethodName := ⟨RX8, "isDigit", "(I)Z"⟩
abbrev cX8_isSign : ByteArray := prog_10_method_12_code
def yX8_isSign : MethodName := ⟨RX8, "isSign", "(I)Z"⟩
def RX9 : String := "LackFerry$Tokens"
def TX9 : u_T := fun k => match k with
  | 0 => ("LackFerry$Tokens", "kinds", "[I", true)
  | 1 => ("LackFerry$Tokens", "places", "[I", true)
  | 2 => ("LackFerry$Tokens", "values", "[J", true)
  | 3 => ("LackFerry$Tokens", "size", "I", false)
  | 4 => ("LackFerry$Tokens", "next", "I", false)
  | 5 => ("LackFerry$Tokens", "kind", "I", false)
  | 6 => ("LackFerry$Tokens", "place", "I", false)
  | 7 => ("LackFerry$Tokens", "number", "I", false)
  | 8 => ("LackFerry$Tokens", "name", "J", false)
  | _ => ("LackFerry$Tokens", "faultKind", "I", false)
def tyX9 : Nat → FieldType := fun k => match k with
  | 0 => .array .int
  | 1 => .array .int
  | 2 => .array .long
  | 3 => .int
  | 4 => .int
  | 5 => .int
  | 6 => .int
  | 7 => .int
  | 8 => .long
  | _ => .int
theorem nmX9 : ∀ a, a < 10 → ∀ b, b < 10 → a ≠ b → (TX9 a).2.1 ≠ (TX9 b).2.1 := by decide +kernel
theorem tyX9_ok : ∀ k, k < 10 → parseFieldDescriptor (TX9 k).2.2.1 = some (tyX9 k) := by decide +kernel
abbrev cX9_init : ByteArray := prog_11_method_1_code
def yX9_init : MethodName := ⟨RX9, "<init>", "()V"⟩
abbrev cX9_clear : ByteArray := prog_11_method_2_code
def yX9_clear : MethodName := ⟨RX9, "clear", "()V"⟩
abbrev cX9_add : ByteArray := prog_11_method_3_code
def yX9_add : MethodName := ⟨RX9, "add", "(IIJ)V"⟩
abbrev cX9_fail : ByteArray := prog_11_method_4_code
def yX9_fail : MethodName := ⟨RX9, "fail", "(I)Z"⟩
abbrev cX9_step : ByteArray := prog_11_method_5_code
def yX9_step : MethodName := ⟨RX9, "step", "()V"⟩
abbrev cX9_takeSign : ByteArray := prog_11_method_6_code
def yX9_takeSign : MethodName := ⟨RX9, "takeSign", "(I)Z"⟩
abbrev cX9_takeNumber : ByteArray := prog_11_method_7_code
def yX9_takeNumber : MethodName := ⟨RX9, "takeNumber", "(II)Z"⟩
abbrev cX9_takeName : ByteArray := prog_11_method_8_code
def yX9_takeName : MethodName := ⟨RX9, "takeName", "()Z"⟩
def RX10 : String := "LackFerry"
def TX10 : u_T := fun k => match k with
  | 0 => ("LackFerry", "tape", "LLackFerry$Tape;", true)
  | 1 => ("LackFerry", "tokens", "LLackFerry$Tokens;", true)
  | 2 => ("LackFerry", "ferry", "LLackFerry$Ferry;", true)
  | 3 => ("LackFerry", "history", "LLackFerry$History;", true)
  | 4 => ("LackFerry", "present", "LLackFerry$Shores;", true)
  | 5 => ("LackFerry", "ahead", "LLackFerry$Shores;", true)
  | 6 => ("LackFerry", "behind", "LLackFerry$Shores;", true)
  | 7 => ("LackFerry", "logText", "LLackFerry$LogText;", true)
  | 8 => ("LackFerry", "draws", "LLackFerry$Draws;", true)
  | 9 => ("LackFerry", "images", "[LLackFerry$Image;", true)
  | 10 => ("LackFerry", "priceAt", "[I", true)
  | 11 => ("LackFerry", "roomOnDay", "[I", true)
  | 12 => ("LackFerry", "logFacts", "[I", true)
  | 13 => ("LackFerry", "told", "LLackFerry$Strait;", false)
  | 14 => ("LackFerry", "straitDraft", "LLackFerry$Strait;", false)
  | 15 => ("LackFerry", "spoken", "LLackFerry$Sentence;", false)
  | 16 => ("LackFerry", "sentenceDraft", "LLackFerry$Sentence;", false)
  | 17 => ("LackFerry", "pricedGoods", "I", false)
  | _ => ("LackFerry", "latestFault", "I", false)
def tyX10 : Nat → FieldType := fun k => match k with
  | 0 => .object "LackFerry$Tape"
  | 1 => .object "LackFerry$Tokens"
  | 2 => .object "LackFerry$Ferry"
  | 3 => .object "LackFerry$History"
  | 4 => .object "LackFerry$Shores"
  | 5 => .object "LackFerry$Shores"
  | 6 => .object "LackFerry$Shores"
  | 7 => .object "LackFerry$LogText"
  | 8 => .object "LackFerry$Draws"
  | 9 => .array (.object "LackFerry$Image")
  | 10 => .array .int
  | 11 => .array .int
  | 12 => .array .int
  | 13 => .object "LackFerry$Strait"
  | 14 => .object "LackFerry$Strait"
  | 15 => .object "LackFerry$Sentence"
  | 16 => .object "LackFerry$Sentence"
  | 17 => .int
  | _ => .int
theorem nmX10 : ∀ a, a < 19 → ∀ b, b < 19 → a ≠ b → (TX10 a).2.1 ≠ (TX10 b).2.1 := by decide +kernel
theorem tyX10_ok : ∀ k, k < 19 → parseFieldDescriptor (TX10 k).2.2.1 = some (tyX10 k) := by decide +kernel
abbrev cX10_init : ByteArray := prog_1_method_1_code
def yX10_init : MethodName := ⟨RX10, "<init>", "()V"⟩
abbrev cX10_feed : ByteArray := prog_1_method_2_code
def yX10_feed : MethodName := ⟨RX10, "feed", "(IIIII)I"⟩
abbrev cX10_end : ByteArray := prog_1_method_3_code
def yX10_end : MethodName := ⟨RX10, "end", "(I)Z"⟩
abbrev cX10_strait : ByteArray := prog_1_method_4_code
def yX10_strait : MethodName := ⟨RX10, "strait", "()I"⟩
abbrev cX10_fault : ByteArray := prog_1_method_5_code
def yX10_fault : MethodName := ⟨RX10, "fault", "()I"⟩
abbrev cX10_isGood : ByteArray := prog_1_method_6_code
def yX10_isGood : MethodName := ⟨RX10, "isGood", "(I)Z"⟩
abbrev cX10_isShore : ByteArray := prog_1_method_7_code
def yX10_isShore : MethodName := ⟨RX10, "isShore", "(I)Z"⟩
abbrev cX10_isSlot : ByteArray := prog_1_method_8_code
def yX10_isSlot : MethodName := ⟨RX10, "isSlot", "(II)Z"⟩
abbrev cX10_isMan : ByteArray := prog_1_method_9_code
def yX10_isMan : MethodName := ⟨RX10, "isMan", "(I)Z"⟩
abbrev cX10_areLivingTwo : ByteArray := prog_1_method_10_code
def yX10_areLivingTwo : MethodName := ⟨RX10, "areLivingTwo", "(II)Z"⟩
abbrev cX10_isWithin : ByteArray := prog_1_method_11_code
def yX10_isWithin : MethodName := ⟨RX10, "isWithin", "(II)Z"⟩
abbrev cX10_slotOf : ByteArray := prog_1_method_12_code
def yX10_slotOf : MethodName := ⟨RX10, "slotOf", "(II)I"⟩
abbrev cX10_good : ByteArray := prog_1_method_13_code
def yX10_good : MethodName := ⟨RX10, "good", "(III)I"⟩
abbrev cX10_crossed : ByteArray := prog_1_method_14_code
def yX10_crossed : MethodName := ⟨RX10, "crossed", "(II)I"⟩
abbrev cX10_man : ByteArray := prog_1_method_15_code
def yX10_man : MethodName := ⟨RX10, "man", "(II)I"⟩
abbrev cX10_apart : ByteArray := prog_1_method_16_code
def yX10_apart : MethodName := ⟨RX10, "apart", "(II)I"⟩
abbrev cX10_now : ByteArray := prog_1_method_17_code
def yX10_now : MethodName := ⟨RX10, "now", "(I)I"⟩
abbrev cX10_lacks : ByteArray := prog_1_method_18_code
def yX10_lacks : MethodName := ⟨RX10, "lacks", "(I)I"⟩
abbrev cX10_falses : ByteArray := prog_1_method_19_code
def yX10_falses : MethodName := ⟨RX10, "falses", "(I)I"⟩
abbrev cX10_dearest : ByteArray := prog_1_method_20_code
def yX10_dearest : MethodName := ⟨RX10, "dearest", "()I"⟩
abbrev cX10_rats : ByteArray := prog_1_method_21_code
def yX10_rats : MethodName := ⟨RX10, "rats", "()I"⟩
abbrev cX10_hoarded : ByteArray := prog_1_method_22_code
def yX10_hoarded : MethodName := ⟨RX10, "hoarded", "(I)I"⟩
abbrev cX10_count : ByteArray := prog_1_method_23_code
def yX10_count : MethodName := ⟨RX10, "count", "(I)I"⟩
abbrev cX10_hoard : ByteArray := prog_1_method_24_code
def yX10_hoard : MethodName := ⟨RX10, "hoard", "(III)I"⟩
abbrev cX10_bare : ByteArray := prog_1_method_25_code
def yX10_bare : MethodName := ⟨RX10, "bare", "(III)I"⟩
abbrev cX10_waste : ByteArray := prog_1_method_26_code
def yX10_waste : MethodName := ⟨RX10, "waste", "(III)I"⟩
abbrev cX10_act : ByteArray := prog_1_method_27_code
def yX10_act : MethodName := ⟨RX10, "act", "(IIII)I"⟩
abbrev cX10_die : ByteArray := prog_1_method_28_code
def yX10_die : MethodName := ⟨RX10, "die", "(I)I"⟩
abbrev cX10_days : ByteArray := prog_1_method_29_code
def yX10_days : MethodName := ⟨RX10, "days", "(I)I"⟩
abbrev cX10_undo : ByteArray := prog_1_method_30_code
def yX10_undo : MethodName := ⟨RX10, "undo", "()I"⟩
abbrev cX10_going : ByteArray := prog_1_method_31_code
def yX10_going : MethodName := ⟨RX10, "going", "()I"⟩
abbrev cX10_goes : ByteArray := prog_1_method_32_code
def yX10_goes : MethodName := ⟨RX10, "goes", "(I)I"⟩
abbrev cX10_crosses : ByteArray := prog_1_method_33_code
def yX10_crosses : MethodName := ⟨RX10, "crosses", "(I)I"⟩
abbrev cX10_comes : ByteArray := prog_1_method_34_code
def yX10_comes : MethodName := ⟨RX10, "comes", "(II)I"⟩
abbrev cX10_without : ByteArray := prog_1_method_35_code
def yX10_without : MethodName := ⟨RX10, "without", "(IIII)I"⟩
abbrev cX10_foreseeRoom : ByteArray := prog_1_method_36_code
def yX10_foreseeRoom : MethodName := ⟨RX10, "foreseeRoom", "(II)I"⟩
abbrev cX10_roomTowards : ByteArray := prog_1_method_37_code
def yX10_roomTowards : MethodName := ⟨RX10, "roomTowards", "(II)I"⟩
abbrev cX10_wouldCome : ByteArray := prog_1_method_38_code
def yX10_wouldCome : MethodName := ⟨RX10, "wouldCome", "(IIII)I"⟩
abbrev cX10_meet : ByteArray := prog_1_method_39_code
def yX10_meet : MethodName := ⟨RX10, "meet", "(II)I"⟩
abbrev cX10_loads : ByteArray := prog_1_method_40_code
def yX10_loads : MethodName := ⟨RX10, "loads", "(I)I"⟩
abbrev cX10_settles : ByteArray := prog_1_method_41_code
def yX10_settles : MethodName := ⟨RX10, "settles", "()I"⟩
abbrev cX10_hunger : ByteArray := prog_1_method_42_code
def yX10_hunger : MethodName := ⟨RX10, "hunger", "(III)I"⟩
abbrev cX10_which : ByteArray := prog_1_method_43_code
def yX10_which : MethodName := ⟨RX10, "which", "()I"⟩
abbrev cX10_couldGoSo : ByteArray := prog_1_method_44_code
def yX10_couldGoSo : MethodName := ⟨RX10, "couldGoSo", "(II)Z"⟩
abbrev cX10_prices : ByteArray := prog_1_method_45_code
def yX10_prices : MethodName := ⟨RX10, "prices", "()I"⟩
abbrev cX10_movePrices : ByteArray := prog_1_method_46_code
def yX10_movePrices : MethodName := ⟨RX10, "movePrices", "()Z"⟩
abbrev cX10_price : ByteArray := prog_1_method_47_code
def yX10_price : MethodName := ⟨RX10, "price", "(II)I"⟩
abbrev cX10_drawn : ByteArray := prog_1_method_48_code
def yX10_drawn : MethodName := ⟨RX10, "drawn", "(II)I"⟩
abbrev cX10_odds : ByteArray := prog_1_method_49_code
def yX10_odds : MethodName := ⟨RX10, "odds", "(III)I"⟩
abbrev cX10_drawDays : ByteArray := prog_1_method_50_code
def yX10_drawDays : MethodName := ⟨RX10, "drawDays", "(LLackFerry$Shores;II)I"⟩
abbrev cX10_drawDeed : ByteArray := prog_1_method_51_code
def yX10_drawDeed : MethodName := ⟨RX10, "drawDeed", "(LLackFerry$Shores;)V"⟩
abbrev cX10_drawDeath : ByteArray := prog_1_method_52_code
def yX10_drawDeath : MethodName := ⟨RX10, "drawDeath", "(LLackFerry$Shores;)V"⟩
abbrev cX10_log : ByteArray := prog_1_method_53_code
def yX10_log : MethodName := ⟨RX10, "log", "(I)I"⟩
abbrev cX10_judgeLog : ByteArray := prog_1_method_54_code
def yX10_judgeLog : MethodName := ⟨RX10, "judgeLog", "()I"⟩
abbrev cX10_liveLine : ByteArray := prog_1_method_55_code
def yX10_liveLine : MethodName := ⟨RX10, "liveLine", "(III)I"⟩
abbrev cX10_logged : ByteArray := prog_1_method_56_code
def yX10_logged : MethodName := ⟨RX10, "logged", "(I)I"⟩
abbrev cX10_sentence : ByteArray := prog_1_method_57_code
def yX10_sentence : MethodName := ⟨RX10, "sentence", "()I"⟩
abbrev cX10_said : ByteArray := prog_1_method_58_code
def yX10_said : MethodName := ⟨RX10, "said", "(I)I"⟩
abbrev cX10_image : ByteArray := prog_1_method_59_code
def yX10_image : MethodName := ⟨RX10, "image", "(I)Z"⟩
abbrev cX10_restore : ByteArray := prog_1_method_60_code
def yX10_restore : MethodName := ⟨RX10, "restore", "(I)Z"⟩
def RX11 : String := "LackFerryModel"
def TX11 : u_T := fun k => match k with
  | 0 => ("LackFerryModel", "thrown", "I", false)
  | 1 => ("LackFerryModel", "tape", "[B", true)
  | 2 => ("LackFerryModel", "length", "I", false)
  | 3 => ("LackFerryModel", "size", "I", false)
  | 4 => ("LackFerryModel", "p", "I", false)
  | 5 => ("LackFerryModel", "limit", "I", false)
  | 6 => ("LackFerryModel", "s", "[I", true)
  | 7 => ("LackFerryModel", "h", "[I", true)
  | 8 => ("LackFerryModel", "read", "[I", true)
  | 9 => ("LackFerryModel", "names", "[J", true)
  | 10 => ("LackFerryModel", "reserved", "[J", true)
  | 11 => ("LackFerryModel", "token", "I", false)
  | 12 => ("LackFerryModel", "at", "I", false)
  | 13 => ("LackFerryModel", "span", "I", false)
  | 14 => ("LackFerryModel", "number", "I", false)
  | 15 => ("LackFerryModel", "fault", "I", false)
  | 16 => ("LackFerryModel", "faultAt", "I", false)
  | 17 => ("LackFerryModel", "word", "J", false)
  | 18 => ("LackFerryModel", "got", "I", false)
  | 19 => ("LackFerryModel", "lines", "I", false)
  | 20 => ("LackFerryModel", "hasLoad", "Z", false)
  | 21 => ("LackFerryModel", "toldOnce", "[I", true)
  | 22 => ("LackFerryModel", "room", "I", false)
  | 23 => ("LackFerryModel", "undone", "[I", true)
  | 24 => ("LackFerryModel", "before", "[I", true)
  | 25 => ("LackFerryModel", "undoMany", "I", false)
  | 26 => ("LackFerryModel", "rows", "[I", true)
  | 27 => ("LackFerryModel", "priceRow", "[I", true)
  | 28 => ("LackFerryModel", "priceGoods", "I", false)
  | 29 => ("LackFerryModel", "seed", "I", false)
  | 30 => ("LackFerryModel", "told", "I", false)
  | 31 => ("LackFerryModel", "loggedAt", "[I", true)
  | 32 => ("LackFerryModel", "hasLogged", "Z", false)
  | 33 => ("LackFerryModel", "stack", "[I", true)
  | 34 => ("LackFerryModel", "codes", "I", false)
  | 35 => ("LackFerryModel", "ones", "I", false)
  | 36 => ("LackFerryModel", "top", "I", false)
  | 37 => ("LackFerryModel", "deep", "I", false)
  | 38 => ("LackFerryModel", "isWhole", "Z", false)
  | 39 => ("LackFerryModel", "truths", "[Z", true)
  | 40 => ("LackFerryModel", "kept", "[I", true)
  | 41 => ("LackFerryModel", "namesKept", "[J", true)
  | _ => ("LackFerryModel", "areKept", "[Z", true)
def tyX11 : Nat → FieldType := fun k => match k with
  | 0 => .int
  | 1 => .array .byte
  | 2 => .int
  | 3 => .int
  | 4 => .int
  | 5 => .int
  | 6 => .array .int
  | 7 => .array .int
  | 8 => .array .int
  | 9 => .array .long
  | 10 => .array .long
  | 11 => .int
  | 12 => .int
  | 13 => .int
  | 14 => .int
  | 15 => .int
  | 16 => .int
  | 17 => .long
  | 18 => .int
  | 19 => .int
  | 20 => .boolean
  | 21 => .array .int
  | 22 => .int
  | 23 => .array .int
  | 24 => .array .int
  | 25 => .int
  | 26 => .array .int
  | 27 => .array .int
  | 28 => .int
  | 29 => .int
  | 30 => .int
  | 31 => .array .int
  | 32 => .boolean
  | 33 => .array .int
  | 34 => .int
  | 35 => .int
  | 36 => .int
  | 37 => .int
  | 38 => .boolean
  | 39 => .array .boolean
  | 40 => .array .int
  | 41 => .array .long
  | _ => .array .boolean
theorem nmX11 : ∀ a, a < 43 → ∀ b, b < 43 → a ≠ b → (TX11 a).2.1 ≠ (TX11 b).2.1 := by decide +kernel
theorem tyX11_ok : ∀ k, k < 43 → parseFieldDescriptor (TX11 k).2.2.1 = some (tyX11 k) := by decide +kernel
abbrev cX11_throwsIf : ByteArray := prog_13_method_2_code
def yX11_throwsIf : MethodName := ⟨RX11, "throwsIf", "(Z)Z"⟩
abbrev cX11_feed : ByteArray := prog_13_method_3_code
def yX11_feed : MethodName := ⟨RX11, "feed", "(IIIII)I"⟩
abbrev cX11_four : ByteArray := prog_13_method_4_code
def yX11_four : MethodName := ⟨RX11, "four", "(I)V"⟩
abbrev cX11_end : ByteArray := prog_13_method_5_code
def yX11_end : MethodName := ⟨RX11, "end", "(I)Z"⟩
abbrev cX11_taken : ByteArray := prog_13_method_6_code
def yX11_taken : MethodName := ⟨RX11, "taken", "(I)V"⟩
abbrev cX11_isIn : ByteArray := prog_13_method_7_code
def yX11_isIn : MethodName := ⟨RX11, "isIn", "(III)Z"⟩
abbrev cX11_bitOf : ByteArray := prog_13_method_8_code
def yX11_bitOf : MethodName := ⟨RX11, "bitOf", "(II)Z"⟩
abbrev cX11_lesser : ByteArray := prog_13_method_9_code
def yX11_lesser : MethodName := ⟨RX11, "lesser", "(II)I"⟩
abbrev cX11_bits : ByteArray := prog_13_method_10_code
def yX11_bits : MethodName := ⟨RX11, "bits", "(I)I"⟩
abbrev cX11_octet : ByteArray := prog_13_method_11_code
def yX11_octet : MethodName := ⟨RX11, "octet", "(I)I"⟩
abbrev cX11_init : ByteArray := prog_13_method_12_code
def yX11_init : MethodName := ⟨RX11, "<init>", "()V"⟩
abbrev cX11_peek : ByteArray := prog_13_method_13_code
def yX11_peek : MethodName := ⟨RX11, "peek", "()I"⟩
abbrev cX11_isSmall : ByteArray := prog_13_method_14_code
def yX11_isSmall : MethodName := ⟨RX11, "isSmall", "(I)Z"⟩
abbrev cX11_isDigit : ByteArray := prog_13_method_15_code
def yX11_isDigit : MethodName := ⟨RX11, "isDigit", "(I)Z"⟩
abbrev cX11_next : ByteArray := prog_13_method_16_code
def yX11_next : MethodName := ⟨RX11, "next", "()V"⟩
abbrev cX11_bad : ByteArray := prog_13_method_17_code
def yX11_bad : MethodName := ⟨RX11, "bad", "(I)Z"⟩
abbrev cX11_isWord : ByteArray := prog_13_method_18_code
def yX11_isWord : MethodName := ⟨RX11, "isWord", "(J)Z"⟩
abbrev cX11_isSign : ByteArray := prog_13_method_19_code
def yX11_isSign : MethodName := ⟨RX11, "isSign", "(I)Z"⟩
abbrev cX11_sign : ByteArray := prog_13_method_20_code
def yX11_sign : MethodName := ⟨RX11, "sign", "(I)Z"⟩
abbrev cX11_isName : ByteArray := prog_13_method_21_code
def yX11_isName : MethodName := ⟨RX11, "isName", "()Z"⟩
abbrev cX11_takes : ByteArray := prog_13_method_22_code
def yX11_takes : MethodName := ⟨RX11, "takes", "(II)Z"⟩
abbrev cX11_puts : ByteArray := prog_13_method_23_code
def yX11_puts : MethodName := ⟨RX11, "puts", "(III)Z"⟩
abbrev cX11_find : ByteArray := prog_13_method_24_code
def yX11_find : MethodName := ⟨RX11, "find", "(II)I"⟩
abbrev cX11_fresh : ByteArray := prog_13_method_25_code
def yX11_fresh : MethodName := ⟨RX11, "fresh", "(I)Z"⟩
abbrev cX11_looksAt : ByteArray := prog_13_method_26_code
def yX11_looksAt : MethodName := ⟨RX11, "looksAt", "(II)Z"⟩
abbrev cX11_takesName : ByteArray := prog_13_method_27_code
def yX11_takesName : MethodName := ⟨RX11, "takesName", "(II)Z"⟩
abbrev cX11_line : ByteArray := prog_13_method_28_code
def yX11_line : MethodName := ⟨RX11, "line", "()Z"⟩
abbrev cX11_readMisses : ByteArray := prog_13_method_29_code
def yX11_readMisses : MethodName := ⟨RX11, "readMisses", "()Z"⟩
abbrev cX11_strait : ByteArray := prog_13_method_30_code
def yX11_strait : MethodName := ⟨RX11, "strait", "()I"⟩
abbrev cX11_fault : ByteArray := prog_13_method_31_code
def yX11_fault : MethodName := ⟨RX11, "fault", "()I"⟩
abbrev cX11_isGood : ByteArray := prog_13_method_32_code
def yX11_isGood : MethodName := ⟨RX11, "isGood", "(I)Z"⟩
abbrev cX11_isShore : ByteArray := prog_13_method_33_code
def yX11_isShore : MethodName := ⟨RX11, "isShore", "(I)Z"⟩
abbrev cX11_isPlace : ByteArray := prog_13_method_34_code
def yX11_isPlace : MethodName := ⟨RX11, "isPlace", "(II)Z"⟩
abbrev cX11_isMan : ByteArray := prog_13_method_35_code
def yX11_isMan : MethodName := ⟨RX11, "isMan", "(I)Z"⟩
abbrev cX11_isDead : ByteArray := prog_13_method_36_code
def yX11_isDead : MethodName := ⟨RX11, "isDead", "(I)Z"⟩
abbrev cX11_cell : ByteArray := prog_13_method_37_code
def yX11_cell : MethodName := ⟨RX11, "cell", "(II)I"⟩
abbrev cX11_lackOf : ByteArray := prog_13_method_38_code
def yX11_lackOf : MethodName := ⟨RX11, "lackOf", "(II)I"⟩
abbrev cX11_isFalse : ByteArray := prog_13_method_39_code
def yX11_isFalse : MethodName := ⟨RX11, "isFalse", "(II)Z"⟩
abbrev cX11_good : ByteArray := prog_13_method_40_code
def yX11_good : MethodName := ⟨RX11, "good", "(III)I"⟩
abbrev cX11_crossed : ByteArray := prog_13_method_41_code
def yX11_crossed : MethodName := ⟨RX11, "crossed", "(II)I"⟩
abbrev cX11_areUnlike : ByteArray := prog_13_method_42_code
def yX11_areUnlike : MethodName := ⟨RX11, "areUnlike", "(II)Z"⟩
abbrev cX11_doesMiss : ByteArray := prog_13_method_43_code
def yX11_doesMiss : MethodName := ⟨RX11, "doesMiss", "(II)Z"⟩
abbrev cX11_missedBy : ByteArray := prog_13_method_44_code
def yX11_missedBy : MethodName := ⟨RX11, "missedBy", "(I)I"⟩
abbrev cX11_missesOf : ByteArray := prog_13_method_45_code
def yX11_missesOf : MethodName := ⟨RX11, "missesOf", "(I)I"⟩
abbrev cX11_man : ByteArray := prog_13_method_46_code
def yX11_man : MethodName := ⟨RX11, "man", "(II)I"⟩
abbrev cX11_apart : ByteArray := prog_13_method_47_code
def yX11_apart : MethodName := ⟨RX11, "apart", "(II)I"⟩
abbrev cX11_menOn : ByteArray := prog_13_method_48_code
def yX11_menOn : MethodName := ⟨RX11, "menOn", "(I)I"⟩
abbrev cX11_now : ByteArray := prog_13_method_49_code
def yX11_now : MethodName := ⟨RX11, "now", "(I)I"⟩
abbrev cX11_goingSet : ByteArray := prog_13_method_50_code
def yX11_goingSet : MethodName := ⟨RX11, "goingSet", "()I"⟩
abbrev cX11_goesOf : ByteArray := prog_13_method_51_code
def yX11_goesOf : MethodName := ⟨RX11, "goesOf", "(I)I"⟩
abbrev cX11_eats : ByteArray := prog_13_method_52_code
def yX11_eats : MethodName := ⟨RX11, "eats", "(I)V"⟩
abbrev cX11_day : ByteArray := prog_13_method_53_code
def yX11_day : MethodName := ⟨RX11, "day", "()V"⟩
abbrev cX11_goesOn : ByteArray := prog_13_method_54_code
def yX11_goesOn : MethodName := ⟨RX11, "goesOn", "(I)I"⟩
abbrev cX11_whyHoard : ByteArray := prog_13_method_55_code
def yX11_whyHoard : MethodName := ⟨RX11, "whyHoard", "(II)I"⟩
abbrev cX11_whyBare : ByteArray := prog_13_method_56_code
def yX11_whyBare : MethodName := ⟨RX11, "whyBare", "(II)I"⟩
abbrev cX11_hoards : ByteArray := prog_13_method_57_code
def yX11_hoards : MethodName := ⟨RX11, "hoards", "(II)V"⟩
abbrev cX11_hoard : ByteArray := prog_13_method_58_code
def yX11_hoard : MethodName := ⟨RX11, "hoard", "(III)I"⟩
abbrev cX11_bare : ByteArray := prog_13_method_59_code
def yX11_bare : MethodName := ⟨RX11, "bare", "(III)I"⟩
abbrev cX11_waste : ByteArray := prog_13_method_60_code
def yX11_waste : MethodName := ⟨RX11, "waste", "(III)I"⟩
abbrev cX11_die : ByteArray := prog_13_method_61_code
def yX11_die : MethodName := ⟨RX11, "die", "(I)I"⟩
abbrev cX11_days : ByteArray := prog_13_method_62_code
def yX11_days : MethodName := ⟨RX11, "days", "(I)I"⟩
abbrev cX11_keep : ByteArray := prog_13_method_63_code
def yX11_keep : MethodName := ⟨RX11, "keep", "()V"⟩
abbrev cX11_undo : ByteArray := prog_13_method_64_code
def yX11_undo : MethodName := ⟨RX11, "undo", "()I"⟩
abbrev cX11_tries : ByteArray := prog_13_method_65_code
def yX11_tries : MethodName := ⟨RX11, "tries", "()V"⟩
abbrev cX11_back : ByteArray := prog_13_method_66_code
def yX11_back : MethodName := ⟨RX11, "back", "()V"⟩
abbrev cX11_lacks : ByteArray := prog_13_method_67_code
def yX11_lacks : MethodName := ⟨RX11, "lacks", "(I)I"⟩
abbrev cX11_falses : ByteArray := prog_13_method_68_code
def yX11_falses : MethodName := ⟨RX11, "falses", "(I)I"⟩
abbrev cX11_going : ByteArray := prog_13_method_69_code
def yX11_going : MethodName := ⟨RX11, "going", "()I"⟩
abbrev cX11_goes : ByteArray := prog_13_method_70_code
def yX11_goes : MethodName := ⟨RX11, "goes", "(I)I"⟩
abbrev cX11_crosses : ByteArray := prog_13_method_71_code
def yX11_crosses : MethodName := ⟨RX11, "crosses", "(I)I"⟩
abbrev cX11_comes : ByteArray := prog_13_method_72_code
def yX11_comes : MethodName := ⟨RX11, "comes", "(II)I"⟩
abbrev cX11_without : ByteArray := prog_13_method_73_code
def yX11_without : MethodName := ⟨RX11, "without", "(IIII)I"⟩
abbrev cX11_meet : ByteArray := prog_13_method_74_code
def yX11_meet : MethodName := ⟨RX11, "meet", "(II)I"⟩
abbrev cX11_loads : ByteArray := prog_13_method_75_code
def yX11_loads : MethodName := ⟨RX11, "loads", "(I)I"⟩
abbrev cX11_which : ByteArray := prog_13_method_76_code
def yX11_which : MethodName := ⟨RX11, "which", "()I"⟩
abbrev cX11_lays : ByteArray := prog_13_method_77_code
def yX11_lays : MethodName := ⟨RX11, "lays", "(I)V"⟩
abbrev cX11_areAlike : ByteArray := prog_13_method_78_code
def yX11_areAlike : MethodName := ⟨RX11, "areAlike", "(II)Z"⟩
abbrev cX11_settles : ByteArray := prog_13_method_79_code
def yX11_settles : MethodName := ⟨RX11, "settles", "()I"⟩
abbrev cX11_hunger : ByteArray := prog_13_method_80_code
def yX11_hunger : MethodName := ⟨RX11, "hunger", "(III)I"⟩
abbrev cX11_prices : ByteArray := prog_13_method_81_code
def yX11_prices : MethodName := ⟨RX11, "prices", "()I"⟩
abbrev cX11_price : ByteArray := prog_13_method_82_code
def yX11_price : MethodName := ⟨RX11, "price", "(II)I"⟩
abbrev cX11_dearest : ByteArray := prog_13_method_83_code
def yX11_dearest : MethodName := ⟨RX11, "dearest", "()I"⟩
abbrev cX11_rats : ByteArray := prog_13_method_84_code
def yX11_rats : MethodName := ⟨RX11, "rats", "()I"⟩
abbrev cX11_hoarded : ByteArray := prog_13_method_85_code
def yX11_hoarded : MethodName := ⟨RX11, "hoarded", "(I)I"⟩
abbrev cX11_draw : ByteArray := prog_13_method_86_code
def yX11_draw : MethodName := ⟨RX11, "draw", "(I)I"⟩
abbrev cX11_drawsDay : ByteArray := prog_13_method_87_code
def yX11_drawsDay : MethodName := ⟨RX11, "drawsDay", "()V"⟩
abbrev cX11_draws : ByteArray := prog_13_method_88_code
def yX11_draws : MethodName := ⟨RX11, "draws", "(II)I"⟩
abbrev cX11_drawn : ByteArray := prog_13_method_89_code
def yX11_drawn : MethodName := ⟨RX11, "drawn", "(II)I"⟩
abbrev cX11_odds : ByteArray := prog_13_method_90_code
def yX11_odds : MethodName := ⟨RX11, "odds", "(III)I"⟩
abbrev cX11_logLine : ByteArray := prog_13_method_91_code
def yX11_logLine : MethodName := ⟨RX11, "logLine", "()Z"⟩
abbrev cX11_does : ByteArray := prog_13_method_92_code
def yX11_does : MethodName := ⟨RX11, "does", "(IIII)I"⟩
abbrev cX11_log : ByteArray := prog_13_method_93_code
def yX11_log : MethodName := ⟨RX11, "log", "(I)I"⟩
abbrev cX11_logged : ByteArray := prog_13_method_94_code
def yX11_logged : MethodName := ⟨RX11, "logged", "(I)I"⟩
abbrev cX11_code : ByteArray := prog_13_method_95_code
def yX11_code : MethodName := ⟨RX11, "code", "(III)V"⟩
abbrev cX11_joins : ByteArray := prog_13_method_96_code
def yX11_joins : MethodName := ⟨RX11, "joins", "(I)V"⟩
abbrev cX11_nots : ByteArray := prog_13_method_97_code
def yX11_nots : MethodName := ⟨RX11, "nots", "()V"⟩
abbrev cX11_leafOf : ByteArray := prog_13_method_98_code
def yX11_leafOf : MethodName := ⟨RX11, "leafOf", "()I"⟩
abbrev cX11_operand : ByteArray := prog_13_method_99_code
def yX11_operand : MethodName := ⟨RX11, "operand", "()Z"⟩
abbrev cX11_behind : ByteArray := prog_13_method_100_code
def yX11_behind : MethodName := ⟨RX11, "behind", "()Z"⟩
abbrev cX11_sentence : ByteArray := prog_13_method_101_code
def yX11_sentence : MethodName := ⟨RX11, "sentence", "()I"⟩
abbrev cX11_isLeaf : ByteArray := prog_13_method_102_code
def yX11_isLeaf : MethodName := ⟨RX11, "isLeaf", "(IIII)Z"⟩
abbrev cX11_isSaid : ByteArray := prog_13_method_103_code
def yX11_isSaid : MethodName := ⟨RX11, "isSaid", "(I)Z"⟩
abbrev cX11_said : ByteArray := prog_13_method_104_code
def yX11_said : MethodName := ⟨RX11, "said", "(I)I"⟩
abbrev cX11_image : ByteArray := prog_13_method_105_code
def yX11_image : MethodName := ⟨RX11, "image", "(I)Z"⟩
abbrev cX11_restore : ByteArray := prog_13_method_106_code
def yX11_restore : MethodName := ⟨RX11, "restore", "(I)Z"⟩
abbrev cX11_count : ByteArray := prog_13_method_107_code
def yX11_count : MethodName := ⟨RX11, "count", "(I)I"⟩
def RJ6 : String := "java/lang/Integer"
abbrev cJ6_bitCount_0f7a4 : ByteArray := prog_18_method_49_code
def yJ6_bitCount_0f7a4 : MethodName := ⟨RJ6, "bitCount", "(I)I"⟩
def RJ0 : String := "java/lang/String"
abbrev cJ0_length_8abf5 : ByteArray := prog_21_method_54_code
def yJ0_length_8abf5 : MethodName := ⟨RJ0, "length", "()I"⟩
abbrev cJ0_charAt_5068e : ByteArray := prog_21_method_56_code
def yJ0_charAt_5068e : MethodName := ⟨RJ0, "charAt", "(I)C"⟩
abbrev cJ0_coder_7d493 : ByteArray := prog_21_method_152_code
def yJ0_coder_7d493 : MethodName := ⟨RJ0, "coder", "()B"⟩
abbrev cJ0_isLatin1_aae02 : ByteArray := prog_21_method_154_code
def yJ0_isLatin1_aae02 : MethodName := ⟨RJ0, "isLatin1", "()Z"⟩
abbrev cJ0_checkIndex_df160 : ByteArray := prog_21_method_155_code
def yJ0_checkIndex_df160 : MethodName := ⟨RJ0, "checkIndex", "(II)V"⟩
def RJ1 : String := "java/lang/StringLatin1"
abbrev cJ1_charAt_3b067 : ByteArray := prog_22_method_2_code
def yJ1_charAt_3b067 : MethodName := ⟨RJ1, "charAt", "([BI)C"⟩
def RJ3 : String := "jdk/internal/util/Preconditions"
abbrev cJ3_checkIndex_8e157 : ByteArray := prog_29_method_11_code
def yJ3_checkIndex_8e157 : MethodName := ⟨RJ3, "checkIndex", "(IILjava/util/function/BiFunction;)I"⟩
def RL : String := "LackFerryLaw"
abbrev cL_man : ByteArray := method_3_code
def yL_man : MethodName := ⟨RL, "man", "(LLackFerry;II[J)I"⟩
abbrev cL_law : ByteArray := code
abbrev ab_cl : List vw_C := [(RX0, TX0, 1), (RX1, TX1, 4), (RX2, TX2, 2), (RX3, TX3, 3), (RX4, TX4, 4), (RX5, TX5, 6), (RX6, TX6, 10), (RX7, TX7, 13), (RX8, TX8, 3), (RX9, TX9, 10), (RX10, TX10, 19), (RX11, TX11, 43), (ab_NS, (fun _ => ("", "", "", false)), 0)]
def ab_En : List (String × Nat × MethodName × String) := [("LackFerry", 11, ⟨"LackFerry$Tape", "<init>", "()V"⟩, "LackFerry"), ("LackFerry", 18, ⟨"LackFerry$Tokens", "<init>", "()V"⟩, "LackFerry"), ("LackFerry", 25, ⟨"LackFerry$Ferry", "<init>", "()V"⟩, "LackFerry"), ("LackFerry", 32, ⟨"LackFerry$History", "<init>", "()V"⟩, "LackFerry"), ("LackFerry", 39, ⟨"LackFerry$Shores", "<init>", "()V"⟩, "LackFerry"), ("LackFerry", 52, ⟨"LackFerry$LogText", "<init>", "()V"⟩, "LackFerry"), ("LackFerry", 59, ⟨"LackFerry$Draws", "<init>", "()V"⟩, "LackFerry"), ("LackFerry", 82, ⟨"LackFerry$Strait", "<init>", "()V"⟩, "LackFerry"), ("LackFerry", 92, ⟨"LackFerry$Sentence", "<init>", "()V"⟩, "LackFerry"), ("LackFerry$Strait", 139, ⟨"LackFerry", "slotOf", "(II)I"⟩, "LackFerry"), ("LackFerry$History", 24, ⟨"LackFerry$Shores", "<init>", "()V"⟩, "LackFerry"), ("LackFerry$Ferry", 61, ⟨"LackFerry", "slotOf", "(II)I"⟩, "LackFerry"), ("LackFerry$LogText", 77, ⟨"LackFerry", "slotOf", "(II)I"⟩, "LackFerry"), ("LackFerry$Sentence", 84, ⟨"LackFerry", "slotOf", "(II)I"⟩, "LackFerry"), ("LackFerry", 372, ⟨"LackFerry$Image", "<init>", "()V"⟩, "LackFerry"), ("LackFerry$Image", 9, ⟨"LackFerry$Strait", "<init>", "()V"⟩, "LackFerry"), ("LackFerry$Image", 18, ⟨"LackFerry$Shores", "<init>", "()V"⟩, "LackFerry"), ("LackFerry$Image", 25, ⟨"LackFerry$Sentence", "<init>", "()V"⟩, "LackFerry")]
def sw_bs : List Int32 := [108, 111, 97, 100, 32, 32, 32, 103, 111, 111, 100, 32, 32, 32, 115, 116, 111, 99, 107, 32, 32, 119, 97, 110, 116, 115, 32, 32, 101, 97, 116, 115, 32, 32, 32, 109, 97, 107, 101, 115, 32, 32, 109, 97, 110, 32, 32, 32, 32, 109, 105, 115, 115, 101, 115, 32, 104, 111, 97, 114, 100, 115, 32, 98, 97, 114, 101, 115, 32, 32, 119, 97, 115, 116, 101, 115, 32, 100, 105, 101, 115, 32, 32, 32, 100, 97, 121, 32, 32, 32, 32, 111, 114, 32, 32, 32, 32, 32, 97, 110, 100, 32, 32, 32, 32, 110, 111, 116, 32, 32, 32, 32, 108, 97, 99, 107, 101, 100, 32, 104, 111, 97, 114, 100, 101, 100, 109, 97, 100, 101, 32, 32, 32, 101, 97, 116, 101, 110, 32, 32, 102, 97, 108, 115, 101, 32, 32, 110, 101, 97, 114, 32, 32, 32, 102, 97, 114, 32, 32, 32, 32, 99, 114, 111, 115, 115, 101, 100, 110, 117, 109, 98, 101, 114, 32]
def sw_at (k : Nat) : Int32 := sw_bs.getD k 0
def ab_ES (b : ab_B) (U : State) : Prop := vk_R "LackFerry$Tape" 72 "load   good   stock  wants  eats   makes  man    misses hoards bares  wastes dies   day    or     and    not    lacked hoardedmade   eaten  false  near   far    crossednumber " (b.2 4) U ∧ vk_S 1 [175] [sw_bs] (fun _ => b.2 4) (fun _ => b.2 5) (fun q => b.1 ≤ q) U U.heap ∧ va_Z "java/lang/String" "COMPACT_STRINGS" "Z" (.int 1) (fun q => b.1 ≤ q) U U.heap ∧ (va_Z "jdk/internal/util/Preconditions" "SIOOBE_FORMATTER" "Ljava/util/function/BiFunction;" .null (fun q => b.1 ≤ q) U U.heap ∨ va_Z "jdk/internal/util/Preconditions" "SIOOBE_FORMATTER" "Ljava/util/function/BiFunction;" (.ref (b.2 6)) (fun q => b.1 ≤ q) U U.heap)
def ab_Ed : List MethodName := [⟨"java/lang/RuntimeException", "<init>", "(Ljava/lang/String;)V"⟩, ⟨"java/lang/Exception", "<init>", "(Ljava/lang/String;)V"⟩, ⟨"java/lang/Throwable", "<init>", "(Ljava/lang/String;)V"⟩]
def ab_E0 (b : ab_B) (U : State) : Prop := (∀ q ∈ ab_En, va_Nw (.methodLinkNest q.1 q.2.1 q.2.2.1 q.2.2.2) U) ∧ va_AO "LackFerry$Image" U ∧ va_AO "LackFerry$Shores" U ∧ va_Nw (.castable ab_NS ab_NS) U ∧ vk_R "LackFerry" 188 "no such man" (b.2 2) U ∧ vk_R "LackFerry" 205 "no such thing of a man" (b.2 3) U ∧ vx_Zq Bundle.tN "UNASSIGNED_STACK" Bundle.steD (fun q => b.1 ≤ q) U U.heap ∧ vx_Zq Bundle.tN "SUPPRESSED_SENTINEL" Bundle.listD (fun q => b.1 ≤ q) U U.heap ∧ (∀ x ∈ ab_Ed, va_Nw (.declares x) U) ∧ ab_ES b U
theorem ab_E0k (b : ab_B) : ab_Ek b (ab_E0 b) := fun s U hW hh h => ⟨fun q hq => va_Nw.warmM hW (h.1 q hq), va_AO.moved hW.alike h.2.1, va_AO.moved hW.alike h.2.2.1, va_Nw.warmC hW h.2.2.2.1, vk_R.warm hW h.2.2.2.2.1, vk_R.warm hW h.2.2.2.2.2.1, vx_Zq.moved hW.alike (h.2.2.2.2.2.2.1.kept hh), vx_Zq.moved hW.alike (h.2.2.2.2.2.2.2.1.kept hh), fun x hx => va_Nw.warmD hW (h.2.2.2.2.2.2.2.2.1 x hx), vk_R.warm hW h.2.2.2.2.2.2.2.2.2.1, vk_S.moved hW.alike (h.2.2.2.2.2.2.2.2.2.2.1.kept hh), va_Z.moved hW.alike (h.2.2.2.2.2.2.2.2.2.2.2.1.kept hh), h.2.2.2.2.2.2.2.2.2.2.2.2.elim (fun z => Or.inl (va_Z.moved hW.alike (z.kept hh))) (fun z => Or.inr (va_Z.moved hW.alike (z.kept hh)))⟩
theorem ab_E0b (b : ab_B) : ab_Eb (ab_E0 b) := fun s U hv hh h => by
  have hA : s.vm.Alike U.vm := by rw [hv]; exact Vm.Alike.refl _
  exact ⟨fun q hq => va_Nw.same rfl hv (h.1 q hq), va_AO.moved hA h.2.1, va_AO.moved hA h.2.2.1, va_Nw.same rfl hv h.2.2.2.1, vk_R.same hv.symm h.2.2.2.2.1, vk_R.same hv.symm h.2.2.2.2.2.1, by rw [← hh]; exact vx_Zq.moved hA h.2.2.2.2.2.2.1, by rw [← hh]; exact vx_Zq.moved hA h.2.2.2.2.2.2.2.1, fun x hx => va_Nw.same rfl hv (h.2.2.2.2.2.2.2.2.1 x hx), vk_R.same hv.symm h.2.2.2.2.2.2.2.2.2.1, by rw [← hh]; exact vk_S.moved hA h.2.2.2.2.2.2.2.2.2.2.1, by rw [← hh]; exact va_Z.moved hA h.2.2.2.2.2.2.2.2.2.2.2.1, by rw [← hh]; exact h.2.2.2.2.2.2.2.2.2.2.2.2.elim (fun z => Or.inl (va_Z.moved hA z)) (fun z => Or.inr (va_Z.moved hA z))⟩
end
