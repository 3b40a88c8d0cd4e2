/-! ===== what a step leaves of the locals ===== -/
theorem ab_condM {α : Type} {x : Bool} {a : Option α} {y : α} (h : cond x none a = some y) : a = some y := by
  cases x
  · exact h
  · cases h
section KL
variable {s s' : ab_S}
theorem kl_lit {v : Value} (h : ab_lit v s = some s') : s'.1 = s.1 := by
  cases h
  rfl
theorem kl_iload {i : Nat} (h : ab_iload i s = some s') : s'.1 = s.1 := by
  unfold ab_iload at h
  split at h
  · cases h
    rfl
  · cases h
theorem kl_lload {i : Nat} (h : ab_lload i s = some s') : s'.1 = s.1 := by
  unfold ab_lload at h
  split at h
  · cases h
    rfl
  · cases h
theorem kl_aload {i : Nat} (h : ab_aload i s = some s') : s'.1 = s.1 := by
  unfold ab_aload at h
  split at h
  · cases h
    rfl
  · cases h
    rfl
  · cases h
    rfl
  · cases h
theorem kl_bin {g : Int32 → Int32 → Int32} (h : ab_bin g s = some s') : s'.1 = s.1 := by
  unfold ab_bin at h
  split at h
  · cases h
    rfl
  · cases h
theorem kl_irem (h : ab_irem s = some s') : s'.1 = s.1 := by
  unfold ab_irem at h
  split at h
  · cases ab_condM h
    rfl
  · cases h
theorem kl_un {g : Int32 → Int32} (h : ab_un g s = some s') : s'.1 = s.1 := by
  unfold ab_un at h
  split at h
  · cases h
    rfl
  · cases h
theorem kl_lbin {g : Int64 → Int64 → Int64} (h : ab_lbin g s = some s') : s'.1 = s.1 := by
  unfold ab_lbin at h
  split at h
  · cases h
    rfl
  · cases h
theorem kl_lsh {g : Int64 → Int32 → Int64} (h : ab_lsh g s = some s') : s'.1 = s.1 := by
  unfold ab_lsh at h
  split at h
  · cases h
    rfl
  · cases h
theorem kl_lcmp (h : ab_lcmp s = some s') : s'.1 = s.1 := by
  unfold ab_lcmp at h
  split at h
  · cases h
    rfl
  · cases h
theorem kl_i2l (h : ab_i2l s = some s') : s'.1 = s.1 := by
  unfold ab_i2l at h
  split at h
  · cases h
    rfl
  · cases h
theorem kl_l2i (h : ab_l2i s = some s') : s'.1 = s.1 := by
  unfold ab_l2i at h
  split at h
  · cases h
    rfl
  · cases h
theorem kl_dup (h : ab_dup s = some s') : s'.1 = s.1 := by
  unfold ab_dup at h
  split at h
  · cases (ab_condN h).2
    rfl
  · cases h
theorem kl_dup2 (h : ab_dup2 s = some s') : s'.1 = s.1 := by
  unfold ab_dup2 at h
  split at h
  · cases (ab_condN h).2
    rfl
  · cases h
theorem kl_pop (h : ab_pop s = some s') : s'.1 = s.1 := by
  unfold ab_pop at h
  split at h
  · cases (ab_condN h).2
    rfl
  · cases h
theorem kl_getf {ci i : Nat} (h : ab_getf ci i s = some s') : s'.1 = s.1 := by
  unfold ab_getf at h
  split at h
  · have h := (ab_condN h).2
    split at h
    · have h := (ab_condN h).2
      split at h
      · cases h
        rfl
      · cases h
    · cases h
  · cases h
theorem kl_putf {ci i kd : Nat} (h : ab_putf ci i kd s = some s') : s'.1 = s.1 := by
  unfold ab_putf at h
  split at h
  · have h := (ab_condN h).2
    split at h
    · cases (ab_condN h).2
      rfl
    · cases h
  · cases h
theorem kl_ald {k : Nat} (h : ab_ald k s = some s') : s'.1 = s.1 := by
  unfold ab_ald at h
  split at h
  · have h := (ab_condN h).2
    split at h
    · cases (ab_condN h).2
      rfl
    · cases h
  · cases h
theorem kl_lald (h : ab_lald s = some s') : s'.1 = s.1 := by
  unfold ab_lald at h
  split at h
  · have h := (ab_condN h).2
    split at h
    · cases (ab_condN h).2
      rfl
    · cases h
  · cases h
theorem kl_aald {k : Nat} (h : ab_aald k s = some s') : s'.1 = s.1 := by
  unfold ab_aald at h
  split at h
  · have h := (ab_condN h).2
    split at h
    · cases (ab_condN h).2
      rfl
    · cases h
  · cases h
theorem kl_ast {k : Nat} (h : ab_ast k s = some s') : s'.1 = s.1 := by
  unfold ab_ast at h
  split at h
  · have h := (ab_condN h).2
    split at h
    · cases (ab_condN h).2
      rfl
    · cases h
  · cases h
theorem kl_last (h : ab_last s = some s') : s'.1 = s.1 := by
  unfold ab_last at h
  split at h
  · have h := (ab_condN h).2
    split at h
    · cases (ab_condN h).2
      rfl
    · cases h
  · cases h
theorem kl_alen (h : ab_alen s = some s') : s'.1 = s.1 := by
  unfold ab_alen at h
  split at h
  · have h := (ab_condN h).2
    split at h
    · cases (ab_condN h).2
      rfl
    · cases h
  · cases h
theorem kl_call {X : List Value → ab_H → Option ab_O} {nA mc ms MC MS : Nat} (h : ab_call nA X mc ms MC MS s = some s') : s'.1 = s.1 := by
  unfold ab_call at h
  have h := (ab_condN h).2
  split at h
  · cases h
    rfl
  · cases h
theorem kl_callV {X : List Value → ab_H → Option ab_O} {nA ci mc ms MC MS : Nat} (h : ab_callV nA ci X mc ms MC MS s = some s') : s'.1 = s.1 := by
  unfold ab_callV at h
  exact kl_call (ab_condN h).2
theorem kl_callR {X : List Value → ab_H → Option ab_O} {nA i mc ms MC MS : Nat} (h : ab_callR nA i X mc ms MC MS s = some s') : s'.1 = s.1 := by
  unfold ab_callR at h
  exact kl_call (ab_condN h).2
theorem kl_mm {g : Int32 → Int32 → Int32} {MC MS : Nat} (h : ab_mm g MC MS s = some s') : s'.1 = s.1 := by
  unfold ab_mm at h
  split at h
  · cases (ab_condN h).2
    rfl
  · cases h
theorem kl_copy (h : ab_copy s = some s') : s'.1 = s.1 := by
  unfold ab_copy at h
  split at h
  · have h := (ab_condN h).2
    split at h
    · cases (ab_condN h).2
      rfl
    · cases (ab_condN h).2
      rfl
    · cases h
  · cases h
theorem kl_aast {k ci : Nat} (h : ab_aast k ci s = some s') : s'.1 = s.1 := by
  unfold ab_aast at h
  split at h
  · have h := (ab_condN h).2
    split at h
    · cases (ab_condN h).2
      rfl
    · cases h
  · have h := (ab_condN h).2
    split at h
    · cases (ab_condN h).2
      rfl
    · cases h
  · cases h
theorem kl_nx {f : ab_S → Option ab_S} {j j' : Nat} (h : ab_nx j f s = some (.inl (j', s'))) : f s = some s' := by
  unfold ab_nx at h
  split at h
  · rename_i t ht
    cases h
    exact ht
  · cases h
end KL
/-- the locals that a step writes -/
def sf_wr (q : sf_I) : List Nat := match q.1 with
  | 5 => [sf_n0 q.2 1]
  | 6 => [sf_n0 q.2 1, sf_n0 q.2 1 + 1]
  | 7 => [sf_n0 q.2 1]
  | 8 => [sf_n0 q.2 1]
  | _ => []
theorem sf_wr_ok {E : List sf_X} {q : sf_I} {s s' : ab_S} {j : Nat} (h : sf_den E q s = some (.inl (j, s'))) {k : Nat} (hk : k ∉ sf_wr q) : s'.1[k]? = s.1[k]? := by
  obtain ⟨n, a⟩ := q
  have same : s'.1 = s.1 → s'.1[k]? = s.1[k]? := fun e => by rw [e]
  match n, h, hk with
  | 0, h, _ => exact same (kl_lit (kl_nx h))
  | 1, h, _ => exact same (kl_lit (kl_nx h))
  | 2, h, _ => exact same (kl_iload (kl_nx h))
  | 3, h, _ => exact same (kl_lload (kl_nx h))
  | 4, h, _ => exact same (kl_aload (kl_nx h))
  | 5, h, hk =>
    have hk' : k ≠ sf_n0 a 1 := fun e => hk (by rw [e]; exact List.mem_cons_self)
    have h := kl_nx h
    unfold ab_istore at h
    split at h
    · cases (ab_condN h).2
      exact List.getElem?_set_ne (Ne.symm hk')
    · cases h
  | 6, h, hk =>
    have hk1 : k ≠ sf_n0 a 1 := fun e => hk (by rw [e]; exact List.mem_cons_self)
    have hk2 : k ≠ sf_n0 a 1 + 1 := fun e => hk (by rw [e]; exact List.mem_cons_of_mem _ List.mem_cons_self)
    have h := kl_nx h
    unfold ab_lstore at h
    split at h
    · cases (ab_condN h).2
      exact (List.getElem?_set_ne (Ne.symm hk2)).trans (List.getElem?_set_ne (Ne.symm hk1))
    · cases h
  | 7, h, hk =>
    have hk' : k ≠ sf_n0 a 1 := fun e => hk (by rw [e]; exact List.mem_cons_self)
    have h := kl_nx h
    unfold ab_astore at h
    split at h
    · cases (ab_condN h).2
      exact List.getElem?_set_ne (Ne.symm hk')
    · cases (ab_condN h).2
      exact List.getElem?_set_ne (Ne.symm hk')
    · cases h
  | 8, h, hk =>
    have hk' : k ≠ sf_n0 a 1 := fun e => hk (by rw [e]; exact List.mem_cons_self)
    have h := kl_nx h
    unfold ab_iinc at h
    split at h
    · cases (ab_condN h).2
      exact List.getElem?_set_ne (Ne.symm hk')
    · cases h
  | 9, h, _ => exact same (kl_bin (kl_nx h))
  | 10, h, _ => exact same (kl_irem (kl_nx h))
  | 11, h, _ => exact same (kl_un (kl_nx h))
  | 12, h, _ => exact same (kl_lbin (kl_nx h))
  | 13, h, _ => exact same (kl_lsh (kl_nx h))
  | 14, h, _ => exact same (kl_lcmp (kl_nx h))
  | 15, h, _ => exact same (kl_i2l (kl_nx h))
  | 16, h, _ => exact same (kl_l2i (kl_nx h))
  | 17, h, _ => exact same (kl_dup (kl_nx h))
  | 18, h, _ => exact same (kl_dup2 (kl_nx h))
  | 19, h, _ => exact same (kl_pop (kl_nx h))
  | 20, h, _ =>
    have h' : ab_if (sf_n0 a 0) (sf_n0 a 1) (sf_cz (sf_n0 a 2)) s = some (.inl (j, s')) := h
    unfold ab_if at h'
    split at h'
    · cases h'
      rfl
    · cases h'
  | 21, h, _ =>
    have h' : ab_icmp (sf_n0 a 0) (sf_n0 a 1) (sf_cg (sf_n0 a 2)) s = some (.inl (j, s')) := h
    unfold ab_icmp at h'
    split at h'
    · cases h'
      rfl
    · cases h'
  | 22, h, _ =>
    have h' : ab_goto (sf_n0 a 0) s = some (.inl (j, s')) := h
    cases h'
    rfl
  | 23, h, _ => exact same (kl_getf (kl_nx h))
  | 24, h, _ => exact same (kl_putf (kl_nx h))
  | 25, h, _ => exact same (kl_ald (kl_nx h))
  | 26, h, _ => exact same (kl_lald (kl_nx h))
  | 27, h, _ => exact same (kl_aald (kl_nx h))
  | 28, h, _ => exact same (kl_ast (kl_nx h))
  | 29, h, _ => exact same (kl_last (kl_nx h))
  | 30, h, _ => exact same (kl_alen (kl_nx h))
  | 31, h, _ => exact same (kl_call (kl_nx h))
  | 32, h, _ => exact same (kl_callV (kl_nx h))
  | 33, h, _ => exact same (kl_mm (kl_nx h))
  | 34, h, _ =>
    have h' : ab_tab (a.getD 0 0) ((a.drop 2).map Int.toNat) (sf_n0 a 1) s = some (.inl (j, s')) := h
    unfold ab_tab at h'
    split at h'
    · cases h'
      rfl
    · cases h'
  | 35, h, _ =>
    have h' : ab_ret (sf_n0 a 0) (sf_n0 a 1) s = some (.inl (j, s')) := h
    unfold ab_ret at h'
    split at h'
    · cases (ab_condN h').2
    · cases h'
  | 36, h, _ =>
    have h' : ab_zret (sf_n0 a 0) (sf_n0 a 1) s = some (.inl (j, s')) := h
    unfold ab_zret at h'
    split at h'
    · cases (ab_condN h').2
    · cases h'
  | 37, h, _ =>
    have h' : ab_vret (sf_n0 a 0) (sf_n0 a 1) s = some (.inl (j, s')) := h
    unfold ab_vret at h'
    split at h'
    · cases (ab_condN h').2
    · cases h'
  | 38, h, _ => exact same (kl_copy (kl_nx h))
  | 39, h, _ => exact same (kl_aast (kl_nx h))
  | 40, h, _ => exact same (kl_lit (kl_nx h))
  | 41, h, _ => exact same (kl_callR (kl_nx h))
  | n + 42, h, _ => cases h
/-- a counter's step -/
theorem sf_inc_ok {E : List sf_X} {a : List Int} {s s' : ab_S} {j : Nat} (h : sf_den E (8, a) s = some (.inl (j, s'))) : ∃ x, s.1[sf_n0 a 1]? = some (some (.int x)) ∧ s'.1[sf_n0 a 1]? = some (some (.int (x + Int32.ofInt (a.getD 2 0)))) := by
  have h := kl_nx (f := ab_iinc (sf_n0 a 1) (Int32.ofInt (a.getD 2 0))) h
  unfold ab_iinc at h
  split at h
  · rename_i x hx
    cases (ab_condN h).2
    exact ⟨x, hx, List.getElem?_set_self (List.getElem?_eq_some_iff.mp hx).1⟩
  · cases h
