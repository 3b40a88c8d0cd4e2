/-! ===== CODE as data: its steps, and what is known behind each ===== -/
abbrev sf_I : Type := Nat × List Int
abbrev sf_X : Type := List Value → ab_H → Option ab_O
def sf_no : sf_X := fun _ _ => none
def sf_lo (k : Nat) : Int64 → Int64 → Int64 := match k with
  | 0 => fun x y => x &&& y
  | 1 => fun x y => x * y
  | 2 => fun x y => x + y
  | 3 => fun x y => x - y
  | _ => fun x y => x ||| y
def sf_n0 (a : List Int) (k : Nat) : Nat := (a.getD k 0).toNat
def sf_den (E : List sf_X) (q : sf_I) : ab_A := match q.1 with
  | 0 => ab_nx (sf_n0 q.2 0) (ab_lit (.int (Int32.ofInt (q.2.getD 1 0))))
  | 1 => ab_nx (sf_n0 q.2 0) (ab_lit (.long (Int64.ofInt (q.2.getD 1 0))))
  | 2 => ab_nx (sf_n0 q.2 0) (ab_iload (sf_n0 q.2 1))
  | 3 => ab_nx (sf_n0 q.2 0) (ab_lload (sf_n0 q.2 1))
  | 4 => ab_nx (sf_n0 q.2 0) (ab_aload (sf_n0 q.2 1))
  | 5 => ab_nx (sf_n0 q.2 0) (ab_istore (sf_n0 q.2 1))
  | 6 => ab_nx (sf_n0 q.2 0) (ab_lstore (sf_n0 q.2 1))
  | 7 => ab_nx (sf_n0 q.2 0) (ab_astore (sf_n0 q.2 1))
  | 8 => ab_nx (sf_n0 q.2 0) (ab_iinc (sf_n0 q.2 1) (Int32.ofInt (q.2.getD 2 0)))
  | 9 => ab_nx (sf_n0 q.2 0) (ab_bin (sf_op (sf_n0 q.2 1)))
  | 10 => ab_nx (sf_n0 q.2 0) ab_irem
  | 11 => ab_nx (sf_n0 q.2 0) (ab_un (sf_u (sf_n0 q.2 1)))
  | 12 => ab_nx (sf_n0 q.2 0) (ab_lbin (sf_lo (sf_n0 q.2 1)))
  | 13 => ab_nx (sf_n0 q.2 0) (ab_lsh (fun x y => x <<< (y.toInt64 &&& 63)))
  | 14 => ab_nx (sf_n0 q.2 0) ab_lcmp
  | 15 => ab_nx (sf_n0 q.2 0) ab_i2l
  | 16 => ab_nx (sf_n0 q.2 0) ab_l2i
  | 17 => ab_nx (sf_n0 q.2 0) ab_dup
  | 18 => ab_nx (sf_n0 q.2 0) ab_dup2
  | 19 => ab_nx (sf_n0 q.2 0) ab_pop
  | 20 => ab_if (sf_n0 q.2 0) (sf_n0 q.2 1) (sf_cz (sf_n0 q.2 2))
  | 21 => ab_icmp (sf_n0 q.2 0) (sf_n0 q.2 1) (sf_cg (sf_n0 q.2 2))
  | 22 => ab_goto (sf_n0 q.2 0)
  | 23 => ab_nx (sf_n0 q.2 0) (ab_getf (sf_n0 q.2 1) (sf_n0 q.2 2))
  | 24 => ab_nx (sf_n0 q.2 0) (ab_putf (sf_n0 q.2 1) (sf_n0 q.2 2) (sf_n0 q.2 3))
  | 25 => ab_nx (sf_n0 q.2 0) (ab_ald (sf_n0 q.2 1))
  | 26 => ab_nx (sf_n0 q.2 0) ab_lald
  | 27 => ab_nx (sf_n0 q.2 0) (ab_aald (sf_n0 q.2 1))
  | 28 => ab_nx (sf_n0 q.2 0) (ab_ast (sf_n0 q.2 1))
  | 29 => ab_nx (sf_n0 q.2 0) ab_last
  | 30 => ab_nx (sf_n0 q.2 0) ab_alen
  | 31 => ab_nx (sf_n0 q.2 0) (ab_call (sf_n0 q.2 2) (E.getD (sf_n0 q.2 1) sf_no) (sf_n0 q.2 3) (sf_n0 q.2 4) (sf_n0 q.2 5) (sf_n0 q.2 6))
  | 32 => ab_nx (sf_n0 q.2 0) (ab_callV (sf_n0 q.2 2) (sf_n0 q.2 3) (E.getD (sf_n0 q.2 1) sf_no) (sf_n0 q.2 4) (sf_n0 q.2 5) (sf_n0 q.2 6) (sf_n0 q.2 7))
  | 33 => ab_nx (sf_n0 q.2 0) (ab_mm (sf_mf (sf_n0 q.2 1)) (sf_n0 q.2 2) (sf_n0 q.2 3))
  | 34 => ab_tab (q.2.getD 0 0) ((q.2.drop 2).map Int.toNat) (sf_n0 q.2 1)
  | 35 => ab_ret (sf_n0 q.2 0) (sf_n0 q.2 1)
  | 36 => ab_zret (sf_n0 q.2 0) (sf_n0 q.2 1)
  | 37 => ab_vret (sf_n0 q.2 0) (sf_n0 q.2 1)
  | 38 => ab_nx (sf_n0 q.2 0) ab_copy
  | 39 => ab_nx (sf_n0 q.2 0) (ab_aast (sf_n0 q.2 1) (sf_n0 q.2 2))
  | 40 => ab_nx (sf_n0 q.2 0) (ab_lit (.retAddr (sf_n0 q.2 1)))
  | 41 => ab_nx (sf_n0 q.2 0) (ab_callR (sf_n0 q.2 2) (sf_n0 q.2 3) (E.getD (sf_n0 q.2 1) sf_no) (sf_n0 q.2 4) (sf_n0 q.2 5) (sf_n0 q.2 6) (sf_n0 q.2 7))
  | _ => ab_no
def sf_o1 (j : Nat) (d : Option sf_D) : Option (List (Nat × sf_D)) := d.map (fun d => [(j, d)])
def sf_go (K : List sf_Q) (W : List (Nat × Nat × Nat)) (q : sf_I) (d : sf_D) : Option (List (Nat × sf_D)) := match q.1 with
  | 0 => sf_o1 (sf_n0 q.2 0) (so_lit (Int32.ofInt (q.2.getD 1 0)) d)
  | 1 => sf_o1 (sf_n0 q.2 0) (so_llit d)
  | 2 => sf_o1 (sf_n0 q.2 0) (so_iload (sf_n0 q.2 1) d)
  | 3 => sf_o1 (sf_n0 q.2 0) (so_lload (sf_n0 q.2 1) d)
  | 4 => sf_o1 (sf_n0 q.2 0) (so_aload (sf_n0 q.2 1) d)
  | 5 => sf_o1 (sf_n0 q.2 0) (so_istore (sf_n0 q.2 1) d)
  | 6 => sf_o1 (sf_n0 q.2 0) (so_lstore (sf_n0 q.2 1) d)
  | 7 => sf_o1 (sf_n0 q.2 0) (so_astore (sf_n0 q.2 1) d)
  | 8 => sf_o1 (sf_n0 q.2 0) (so_iinc (sf_n0 q.2 1) (Int32.ofInt (q.2.getD 2 0)) d)
  | 9 => sf_o1 (sf_n0 q.2 0) (so_bin (sf_n0 q.2 1) d)
  | 10 => sf_o1 (sf_n0 q.2 0) (so_irem d)
  | 11 => sf_o1 (sf_n0 q.2 0) (so_un (sf_n0 q.2 1) d)
  | 12 => sf_o1 (sf_n0 q.2 0) (so_lbin d)
  | 13 => sf_o1 (sf_n0 q.2 0) (so_lsh d)
  | 14 => sf_o1 (sf_n0 q.2 0) (so_lcmp d)
  | 15 => sf_o1 (sf_n0 q.2 0) (so_i2l d)
  | 16 => sf_o1 (sf_n0 q.2 0) (so_l2i d)
  | 17 => sf_o1 (sf_n0 q.2 0) (so_dup d)
  | 18 => sf_o1 (sf_n0 q.2 0) (so_dup2 d)
  | 19 => sf_o1 (sf_n0 q.2 0) (so_pop d)
  | 20 => so_if (sf_n0 q.2 0) (sf_n0 q.2 1) (sf_n0 q.2 2) d
  | 21 => so_icmp (sf_n0 q.2 0) (sf_n0 q.2 1) (sf_n0 q.2 2) d
  | 22 => some [(sf_n0 q.2 0, d)]
  | 23 => sf_o1 (sf_n0 q.2 0) (so_getf (sf_n0 q.2 1) (sf_n0 q.2 2) d)
  | 24 => sf_o1 (sf_n0 q.2 0) (so_putf W (sf_n0 q.2 1) (sf_n0 q.2 2) (sf_n0 q.2 3) d)
  | 25 => sf_o1 (sf_n0 q.2 0) (so_ald (sf_n0 q.2 1) d)
  | 26 => sf_o1 (sf_n0 q.2 0) (so_lald d)
  | 27 => sf_o1 (sf_n0 q.2 0) (so_aald (sf_n0 q.2 1) d)
  | 28 => sf_o1 (sf_n0 q.2 0) (so_ast W (sf_n0 q.2 1) d)
  | 29 => sf_o1 (sf_n0 q.2 0) (so_last W d)
  | 30 => sf_o1 (sf_n0 q.2 0) (so_alen d)
  | 31 => match K[sf_n0 q.2 1]? with
    | some k => sf_o1 (sf_n0 q.2 0) (so_call W k (sf_n0 q.2 2) (sf_n0 q.2 3) (sf_n0 q.2 4) (sf_n0 q.2 5) (sf_n0 q.2 6) d)
    | none => none
  | 32 => match K[sf_n0 q.2 1]? with
    | some k => sf_o1 (sf_n0 q.2 0) (so_callV W k (sf_n0 q.2 2) (sf_n0 q.2 3) (sf_n0 q.2 4) (sf_n0 q.2 5) (sf_n0 q.2 6) (sf_n0 q.2 7) d)
    | none => none
  | 33 => sf_o1 (sf_n0 q.2 0) (so_mm (sf_n0 q.2 1) (sf_n0 q.2 2) (sf_n0 q.2 3) d)
  | 34 => so_tab (q.2.getD 0 0) ((q.2.drop 2).map Int.toNat) (sf_n0 q.2 1) d
  | 38 => sf_o1 (sf_n0 q.2 0) (so_copy W d)
  | 39 => sf_o1 (sf_n0 q.2 0) (so_aast W (sf_n0 q.2 1) (sf_n0 q.2 2) d)
  | 40 => sf_o1 (sf_n0 q.2 0) (so_ext (sf_n0 q.2 1) d)
  | 41 => match K[sf_n0 q.2 1]? with
    | some k => sf_o1 (sf_n0 q.2 0) (so_callR W k (sf_n0 q.2 2) (sf_n0 q.2 3) (sf_n0 q.2 4) (sf_n0 q.2 5) (sf_n0 q.2 6) (sf_n0 q.2 7) d)
    | none => none
  | _ => none
theorem sf_o1_ok {W : List (Nat × Nat × Nat)} {f : ab_S → Option ab_S} {d : sf_D} {o : Option sf_D} {j : Nat} {out : List (Nat × sf_D)} (h : sf_o1 j o = some out) (hf : ∀ d', o = some d' → sf_nx W f d d') : sf_br W (ab_nx j f) d out := by
  unfold sf_o1 at h
  cases o with
  | none => cases h
  | some d' =>
    obtain rfl := Option.some.inj h
    exact sf_br_nx (hf d' rfl)
theorem sf_go_ok {K : List sf_Q} {E : List sf_X} {W : List (Nat × Nat × Nat)} (hK : ∀ (m : Nat) (k : sf_Q), K[m]? = some k → sf_ct k (E.getD m sf_no)) {q : sf_I} {d : sf_D} {out : List (Nat × sf_D)} (h : sf_go K W q d = some out) : sf_br W (sf_den E q) d out := by
  obtain ⟨n, a⟩ := q
  match n, h with
  | 0, h => exact sf_o1_ok h fun _ e => so_lit_ok e
  | 1, h => exact sf_o1_ok h fun _ e => so_llit_ok e
  | 2, h => exact sf_o1_ok h fun _ e => so_iload_ok e
  | 3, h => exact sf_o1_ok h fun _ e => so_lload_ok e
  | 4, h => exact sf_o1_ok h fun _ e => so_aload_ok e
  | 5, h => exact sf_o1_ok h fun _ e => so_istore_ok e
  | 6, h => exact sf_o1_ok h fun _ e => so_lstore_ok e
  | 7, h => exact sf_o1_ok h fun _ e => so_astore_ok e
  | 8, h => exact sf_o1_ok h fun _ e => so_iinc_ok e
  | 9, h => exact sf_o1_ok h fun _ e => so_bin_ok e
  | 10, h => exact sf_o1_ok h fun _ e => so_irem_ok e
  | 11, h => exact sf_o1_ok h fun _ e => so_un_ok e
  | 12, h => exact sf_o1_ok h fun _ e => so_lbin_ok e
  | 13, h => exact sf_o1_ok h fun _ e => so_lsh_ok e
  | 14, h => exact sf_o1_ok h fun _ e => so_lcmp_ok e
  | 15, h => exact sf_o1_ok h fun _ e => so_i2l_ok e
  | 16, h => exact sf_o1_ok h fun _ e => so_l2i_ok e
  | 17, h => exact sf_o1_ok h fun _ e => so_dup_ok e
  | 18, h => exact sf_o1_ok h fun _ e => so_dup2_ok e
  | 19, h => exact sf_o1_ok h fun _ e => so_pop_ok e
  | 20, h => exact so_if_ok h
  | 21, h => exact so_icmp_ok h
  | 22, h =>
    obtain rfl := Option.some.inj h
    exact sf_br_goto
  | 23, h => exact sf_o1_ok h fun _ e => so_getf_ok e
  | 24, h => exact sf_o1_ok h fun _ e => so_putf_ok e
  | 25, h => exact sf_o1_ok h fun _ e => so_ald_ok e
  | 26, h => exact sf_o1_ok h fun _ e => so_lald_ok e
  | 27, h => exact sf_o1_ok h fun _ e => so_aald_ok e
  | 28, h => exact sf_o1_ok h fun _ e => so_ast_ok e
  | 29, h => exact sf_o1_ok h fun _ e => so_last_ok e
  | 30, h => exact sf_o1_ok h fun _ e => so_alen_ok e
  | 31, h =>
    replace h : (match K[sf_n0 a 1]? with
      | some k => sf_o1 (sf_n0 a 0) (so_call W k (sf_n0 a 2) (sf_n0 a 3) (sf_n0 a 4) (sf_n0 a 5) (sf_n0 a 6) d)
      | none => none) = some out := h
    split at h
    · rename_i k hk
      exact sf_o1_ok h fun _ e => so_call_ok (hK _ _ hk) e
    · cases h
  | 32, h =>
    replace h : (match K[sf_n0 a 1]? with
      | some k => sf_o1 (sf_n0 a 0) (so_callV W k (sf_n0 a 2) (sf_n0 a 3) (sf_n0 a 4) (sf_n0 a 5) (sf_n0 a 6) (sf_n0 a 7) d)
      | none => none) = some out := h
    split at h
    · rename_i k hk
      exact sf_o1_ok h fun _ e => so_callV_ok (hK _ _ hk) e
    · cases h
  | 33, h => exact sf_o1_ok h fun _ e => so_mm_ok e
  | 34, h => exact so_tab_ok h
  | 35, h => cases h
  | 36, h => cases h
  | 37, h => cases h
  | 38, h => exact sf_o1_ok h fun _ e => so_copy_ok e
  | 39, h => exact sf_o1_ok h fun _ e => so_aast_ok e
  | 40, h => exact sf_o1_ok h fun _ e => so_ext_ok e
  | 41, h =>
    replace h : (match K[sf_n0 a 1]? with
      | some k => sf_o1 (sf_n0 a 0) (so_callR W k (sf_n0 a 2) (sf_n0 a 3) (sf_n0 a 4) (sf_n0 a 5) (sf_n0 a 6) (sf_n0 a 7) d)
      | none => none) = some out := h
    split at h
    · rename_i k hk
      exact sf_o1_ok h fun _ e => so_callR_ok (hK _ _ hk) e
    · cases h
  | n + 42, h => cases h
