-- 63.b9zk.wh.lean.txt
section
/-! ===== which, by two tapes alike ===== -/
theorem m_wh_c {T : St} {k : Nat} {B C : Nat → Int32} : ∀ i, (∀ q, q < i + 2 → B q = C q) → m_wh T k B i = m_wh T k C i
  | 0, _ => rfl
  | i + 1, h => by
    have e := m_wh_c (T := T) (k := k) i (fun q hq => h q (by omega))
    show (m_wh T k B i && decide (ab_max 0 (m_left T k (B (i + 1))) = B (i + 2))) = (m_wh T k C i && decide (ab_max 0 (m_left T k (C (i + 1))) = C (i + 2)))
    rw [e, h (i + 1) (by omega), h (i + 2) (by omega)]
theorem a_which_c {T : St} {n : Nat} {B C : Nat → Int32} (h : ∀ q, q < n → B q = C q) : a_which T n B = a_which T n C := by
  unfold a_which
  by_cases c : 3 ≤ n ∧ n ≤ 31
  · rw [if_pos c, if_pos c, h 0 (by omega)]
    have e : ∀ s, (fun g => m_wh T (2 * g + s) B (n - 2)) = (fun g => m_wh T (2 * g + s) C (n - 2)) := fun s => funext fun g => m_wh_c (n - 2) (fun q hq => h q (by omega))
    cases nd 2 (C 0) with
    | none => rfl
    | some s =>
      show m_bits (fun g => m_wh T (2 * g + s) B (n - 2)) id (t_g T) = m_bits (fun g => m_wh T (2 * g + s) C (n - 2)) id (t_g T)
      rw [e s]
  · rw [if_neg c, if_neg c]
theorem lw_which {t t1 : Nat → Nat} {hp hp1 : ab_H} {tn : Nat} {T : St} (H : sf_h t hp) (H1 : sf_h t1 hp1) (htn : tn ≤ 940) (hb : bv hp1 70 tn = bv hp 2 tn) : a_which T tn (fun q => (fl hp).1 2 q &&& 255) = a_which T tn (fun q => (fl hp1).1 70 q &&& 255) := a_which_c fun q hq => by
  have h1 := congrFun (RBF_bv H1 htn) q
  rw [hb] at h1
  unfold RBF bv at h1
  rw [if_pos hq, if_pos hq, el_rd H (g := 123) (n := 940) rfl (by decide) (by decide) (by decide) rfl (by omega)] at h1
  exact Int32.toInt_inj.mp ((n_and255 _).trans h1.symm)
end
-- 63.b9zl.pr.lean.txt
section
/-! ===== prices that were found: kept beside the days ===== -/
theorem pE {Z : List Value → ab_H → Option ab_O} {as : List Value} {t : Nat → Nat} {hp hp' : ab_H} {r : Option Value} {Q : Option Value → FW → Prop} (H : sf_h t hp) (p : Pm Z as (fl hp) Q) (e : sf_eqn Z as hp r hp') : Q r (fl hp') := (p hp _ (wt_of H) rfl e).2
end
-- 63.b9zr.sn.lean.txt
section
/-! ===== a SENTENCE: read by going down, and by a stack: the same ===== -/
/-- word, SHORE or sign, number -/
abbrev ZO : Type := Nat × Nat × Nat
/-- where it goes on, how many ONES, what is said so far; or what is wrong, and where -/
abbrev ZR : Type := (Nat × Nat × List ZO) ⊕ (Int32 × Nat)
abbrev zy (i o : Nat) (l : List ZO) : ZR := Sum.inl (i, o, l)
abbrev zn (c : Int32) (j : Nat) : ZR := Sum.inr (c, j)
def z_leaf (K : Nat → TT) (i o : Nat) (l : List ZO) : ZR :=
  if (K i).k ≤ 84 then (if tnN (K (i + 1)) 0 1 = 0 then zy (i + 2) o (l ++ [((K i).k.toNat, (K (i + 1)).v.toNat, 0)]) else zn (tnN (K (i + 1)) 0 1) (i + 1))
  else if (K (i + 1)).k = 60 ∨ (K (i + 1)).k = 61 ∨ (K (i + 1)).k = 62 then (if (K (i + 2)).k = 3 then zy (i + 3) o (l ++ [((K i).k.toNat, (K (i + 1)).k.toNat, (K (i + 2)).v.toNat)]) else zn 1 (i + 2))
  else zn 1 (i + 1)
def z_op (w : Nat) (r : ZR) : ZR := match r with
  | .inl y => zy y.1 y.2.1 (y.2.2 ++ [(w, 0, 0)])
  | .inr e => .inr e
def z_join (K : Nat → TT) (w : Nat) (f : Nat → Nat → List ZO → ZR) : Nat → ZR → ZR
  | 0, r => r
  | n + 1, r => match r with
    | .inl y => if (K y.1).k = (w : Int) then z_join K w f n (z_op w (f (y.1 + 1) y.2.1 y.2.2)) else .inl y
    | .inr e => .inr e
def z_all (K : Nat → TT) (f : Nat → Nat → List ZO → ZR) (i o : Nat) (l : List ZO) : ZR := z_join K 78 f 20 (f i o l)
def z_cond (K : Nat → TT) (f : Nat → Nat → List ZO → ZR) (i o : Nat) (l : List ZO) : ZR := z_join K 77 (z_all K f) 20 (z_all K f i o l)
def z_close (K : Nat → TT) (r : ZR) : ZR := match r with
  | .inl y => if (K y.1).k = 41 then zy (y.1 + 1) y.2.1 y.2.2 else zn 1 y.1
  | .inr e => .inr e
abbrev z_is (K : Nat → TT) (i : Nat) : Prop := (K i).k = 40 ∨ (79 ≤ (K i).k ∧ (K i).k ≤ 88)
def z_one (K : Nat → TT) : Nat → Nat → Nat → List ZO → ZR
  | 0 => fun i _ _ => if z_is K i then zn 4 i else zn 1 i
  | d + 1 => fun i o l => if z_is K i then (if 20 ≤ o then zn 4 i else if (K i).k = 40 then z_close K (z_cond K (z_one K d) (i + 1) (o + 1) l) else if (K i).k = 79 then z_op 79 (z_one K d (i + 1) (o + 1) l) else z_leaf K i (o + 1) l) else zn 1 i
def z_top (K : Nat → TT) (r : ZR) : ZR := match r with
  | .inl y => if (K y.1).k = 0 then .inl y else zn 1 y.1
  | .inr e => .inr e
def z_sen (K : Nat → TT) : ZR := z_top K (z_cond K (z_one K 8) 0 0 [])
/-! the reference: token, ONES, codes, stack, whether an operand stands -/
abbrev ZM : Type := Nat × Nat × List ZO × List Nat × Bool
def zm_nots : List Nat → List ZO → List ZO × List Nat
  | [], cs => (cs, [])
  | x :: st, cs => if x = 79 then zm_nots st (cs ++ [(79, 0, 0)]) else (cs, x :: st)
def zm_joins (b : Bool) : List Nat → List ZO → List ZO × List Nat
  | [], cs => (cs, [])
  | x :: st, cs => if x = 78 ∨ (x = 77 ∧ b = true) then zm_joins b st (cs ++ [(x, 0, 0)]) else (cs, x :: st)
def zm_dp : List Nat → Nat
  | [] => 0
  | x :: st => (if x = 79 ∨ x = 40 then 1 else 0) + zm_dp st
def zm_flush (st : List Nat) (cs : List ZO) : List ZO × List Nat := zm_joins true (zm_nots st cs).2 (zm_nots st cs).1
def zm_beh (K : Nat → TT) (i o : Nat) (cs : List ZO) (st : List Nat) : ZM ⊕ ZR :=
  if (K i).k = 78 then .inl (i + 1, o, (zm_joins false (zm_nots st cs).2 (zm_nots st cs).1).1, 78 :: (zm_joins false (zm_nots st cs).2 (zm_nots st cs).1).2, false)
  else if (K i).k = 77 then .inl (i + 1, o, (zm_flush st cs).1, 77 :: (zm_flush st cs).2, false)
  else match (zm_flush st cs).2 with
    | [] => .inr (zn 1 i)
    | _ :: st2 => if (K i).k = 41 then .inl (i + 1, o, (zm_flush st cs).1, st2, true) else .inr (zn 1 i)
def zm_fin (i o : Nat) (cs : List ZO) (st : List Nat) : ZM ⊕ ZR := match (zm_flush st cs).2 with
  | [] => .inr (zy i o (zm_flush st cs).1)
  | _ :: _ => .inr (zn 1 i)
def zm_lf (st : List Nat) (r : ZR) : ZM ⊕ ZR := match r with
  | .inl y => .inl (y.1, y.2.1, y.2.2, st, true)
  | .inr e => .inr (.inr e)
def zm_opd (K : Nat → TT) (i o : Nat) (cs : List ZO) (st : List Nat) : ZM ⊕ ZR :=
  if z_is K i then (if 20 ≤ o ∨ 8 ≤ zm_dp st then .inr (zn 4 i) else if (K i).k = 40 then .inl (i + 1, o + 1, cs, 40 :: st, false) else if (K i).k = 79 then .inl (i + 1, o + 1, cs, 79 :: st, false) else zm_lf st (z_leaf K i (o + 1) cs)) else .inr (zn 1 i)
def zm_step (K : Nat → TT) (M : ZM) : ZM ⊕ ZR := if M.2.2.2.2 = true then (if (K M.1).k = 0 then zm_fin M.1 M.2.1 M.2.2.1 M.2.2.2.1 else zm_beh K M.1 M.2.1 M.2.2.1 M.2.2.2.1) else zm_opd K M.1 M.2.1 M.2.2.1 M.2.2.2.1
def zm_go (K : Nat → TT) : Nat → ZM → ZM ⊕ ZR
  | 0, M => .inl M
  | n + 1, M => match zm_step K M with
    | .inl M' => zm_go K n M'
    | .inr r => .inr r
section ZMS
variable {K : Nat → TT}
theorem zg_add {m : Nat} {M' : ZM} : ∀ {n : Nat} {M : ZM}, zm_go K n M = .inl M' → zm_go K (n + m) M = zm_go K m M'
  | 0, M, h => by
    obtain rfl := Sum.inl.inj h
    rw [Nat.zero_add]
  | n + 1, M, h => by
    rw [show n + 1 + m = n + m + 1 by omega]
    have h : (match zm_step K M with | .inl M2 => zm_go K n M2 | .inr r => .inr r) = .inl M' := h
    show (match zm_step K M with | .inl M2 => zm_go K (n + m) M2 | .inr r => .inr r) = zm_go K m M'
    cases e : zm_step K M with
    | inl M2 =>
      rw [e] at h
      exact zg_add h
    | inr r =>
      rw [e] at h
      cases h
theorem zg_end {m : Nat} {r : ZR} : ∀ {n : Nat} {M : ZM}, zm_go K n M = .inr r → zm_go K (n + m) M = .inr r
  | 0, M, h => by cases h
  | n + 1, M, h => by
    rw [show n + 1 + m = n + m + 1 by omega]
    have h : (match zm_step K M with | .inl M2 => zm_go K n M2 | .inr r => .inr r) = .inr r := h
    show (match zm_step K M with | .inl M2 => zm_go K (n + m) M2 | .inr r => .inr r) = .inr r
    cases e : zm_step K M with
    | inl M2 =>
      rw [e] at h
      exact zg_end h
    | inr r2 =>
      rw [e] at h
      exact h
def Zr (K : Nat → TT) (M M' : ZM) : Prop := ∃ n, zm_go K n M = .inl M'
def ZT (K : Nat → TT) (M : ZM) (r : ZR) : Prop := ∃ n, zm_go K n M = .inr r
theorem Zr.rf {M : ZM} : Zr K M M := ⟨0, rfl⟩
theorem Zr.tr {M M1 M2 : ZM} (h : Zr K M M1) (k : Zr K M1 M2) : Zr K M M2 := by
  obtain ⟨n, hn⟩ := h
  obtain ⟨m, hm⟩ := k
  exact ⟨n + m, (zg_add hn).trans hm⟩
theorem Zr.fin {M M1 : ZM} {r : ZR} (h : Zr K M M1) (k : ZT K M1 r) : ZT K M r := by
  obtain ⟨n, hn⟩ := h
  obtain ⟨m, hm⟩ := k
  exact ⟨n + m, (zg_add hn).trans hm⟩
theorem Zr.st {M M1 : ZM} (h : zm_step K M = .inl M1) : Zr K M M1 := ⟨1, by unfold zm_go; rw [h]; rfl⟩
theorem ZT.st {M : ZM} {r : ZR} (h : zm_step K M = .inr r) : ZT K M r := ⟨1, by unfold zm_go; rw [h]⟩
theorem ZT.one {M : ZM} {r r' : ZR} (h : ZT K M r) (k : ZT K M r') : r = r' := by
  obtain ⟨n, hn⟩ := h
  obtain ⟨m, hm⟩ := k
  have a := zg_end (m := m) hn
  have b := zg_end (m := n) hm
  rw [Nat.add_comm] at b
  exact Sum.inr.inj (a.symm.trans b)
theorem zn_rep {st : List Nat} (h : ∀ x s, st = x :: s → ¬ x = 79) : ∀ {k : Nat} {cs : List ZO}, zm_nots (List.replicate k 79 ++ st) cs = (cs ++ List.replicate k (79, 0, 0), st)
  | 0, cs => by
    rw [List.replicate_zero, List.replicate_zero, List.nil_append, List.append_nil]
    cases st with
    | nil => rfl
    | cons x s => exact if_neg (h x s rfl)
  | k + 1, cs => by
    show zm_nots (List.replicate k 79 ++ st) (cs ++ [(79, 0, 0)]) = _
    rw [zn_rep h, List.append_assoc]
    rfl
/-- ONE is read alike -/
def ZP1 (K : Nat → TT) (r : ZR) (i o : Nat) (l : List ZO) (st : List Nat) : Prop := match r with
  | .inl y => y.2.1 ≤ 20 ∧ o < y.2.1 ∧ ∃ (k : Nat) (cs : List ZO), y.2.2 = cs ++ List.replicate k (79, 0, 0) ∧ Zr K (i, o, l, st, false) (y.1, y.2.1, cs, List.replicate k 79 ++ st, true)
  | .inr e => ZT K (i, o, l, st, false) (.inr e)
/-- ALL; n: how often it may still go round -/
def ZP2 (K : Nat → TT) (n : Nat) (r : ZR) (i o : Nat) (l : List ZO) (st : List Nat) : Prop := match r with
  | .inl y => 21 ≤ y.2.1 + n ∧ y.2.1 ≤ 20 ∧ o < y.2.1 ∧ ∃ (k : Nat) (p : List Nat) (cs : List ZO), (p = [] ∨ p = [78]) ∧ y.2.2 = (cs ++ List.replicate k (79, 0, 0)) ++ p.map (fun x => (x, 0, 0)) ∧ Zr K (i, o, l, st, false) (y.1, y.2.1, cs, List.replicate k 79 ++ (p ++ st), true)
  | .inr e => ZT K (i, o, l, st, false) (.inr e)
def ZP2e (K : Nat → TT) (r : ZR) (i o : Nat) (l : List ZO) (st : List Nat) : Prop := match r with
  | .inl y => y.2.1 ≤ 20 ∧ o < y.2.1 ∧ ¬ (K y.1).k = 78 ∧ ∃ (k : Nat) (p : List Nat) (cs : List ZO), (p = [] ∨ p = [78]) ∧ y.2.2 = (cs ++ List.replicate k (79, 0, 0)) ++ p.map (fun x => (x, 0, 0)) ∧ Zr K (i, o, l, st, false) (y.1, y.2.1, cs, List.replicate k 79 ++ (p ++ st), true)
  | .inr e => ZT K (i, o, l, st, false) (.inr e)
def ZP3 (K : Nat → TT) (n : Nat) (r : ZR) (i o : Nat) (l : List ZO) (st : List Nat) : Prop := match r with
  | .inl y => 21 ≤ y.2.1 + n ∧ y.2.1 ≤ 20 ∧ o < y.2.1 ∧ ¬ (K y.1).k = 78 ∧ ∃ (k : Nat) (p q : List Nat) (cs : List ZO), (p = [] ∨ p = [78]) ∧ (q = [] ∨ q = [77]) ∧ y.2.2 = ((cs ++ List.replicate k (79, 0, 0)) ++ p.map (fun x => (x, 0, 0))) ++ q.map (fun x => (x, 0, 0)) ∧ Zr K (i, o, l, st, false) (y.1, y.2.1, cs, List.replicate k 79 ++ (p ++ (q ++ st)), true)
  | .inr e => ZT K (i, o, l, st, false) (.inr e)
def ZP3e (K : Nat → TT) (r : ZR) (i o : Nat) (l : List ZO) (st : List Nat) : Prop := match r with
  | .inl y => y.2.1 ≤ 20 ∧ o < y.2.1 ∧ ¬ (K y.1).k = 78 ∧ ¬ (K y.1).k = 77 ∧ ∃ (s : List Nat) (cs : List ZO), zm_flush s cs = (y.2.2, st) ∧ Zr K (i, o, l, st, false) (y.1, y.2.1, cs, s, true)
  | .inr e => ZT K (i, o, l, st, false) (.inr e)
/-- nothing on top that would be taken off; nor an or -/
def ZB (st : List Nat) : Prop := ∀ x s, st = x :: s → ¬ x = 79 ∧ ¬ x = 78
def ZC (st : List Nat) : Prop := ∀ x s, st = x :: s → ¬ x = 79 ∧ ¬ x = 78 ∧ ¬ x = 77
theorem ZC.b {st : List Nat} (h : ZC st) : ZB st := fun x s e => ⟨(h x s e).1, (h x s e).2.1⟩
theorem zj_st {b : Bool} {st : List Nat} {cs : List ZO} (h : ZB st) (hb : b = true → ZC st) : zm_joins b st cs = (cs, st) := by
  cases st with
  | nil => rfl
  | cons x s =>
    refine if_neg fun c => ?_
    rcases c with c | ⟨c1, c2⟩
    · exact (h x s rfl).2 c
    · exact (hb c2 x s rfl).2.2 c1
theorem zj_and {b : Bool} {p st : List Nat} {cs : List ZO} (hp : p = [] ∨ p = [78]) (h : ∀ c, zm_joins b st c = (c, st)) : zm_joins b (p ++ st) cs = (cs ++ p.map (fun x => (x, 0, 0)), st) := by
  rcases hp with rfl | rfl
  · rw [List.nil_append, h]
    exact congrArg (fun q => (q, st)) (List.append_nil cs).symm
  · show zm_joins b st (cs ++ [(78, 0, 0)]) = _
    rw [h]
    rfl
theorem zj_or {q st : List Nat} {cs : List ZO} (hq : q = [] ∨ q = [77]) (h : ∀ c, zm_joins true st c = (c, st)) : zm_joins true (q ++ st) cs = (cs ++ q.map (fun x => (x, 0, 0)), st) := by
  rcases hq with rfl | rfl
  · rw [List.nil_append, h]
    exact congrArg (fun q => (q, st)) (List.append_nil cs).symm
  · show zm_joins true st (cs ++ [(77, 0, 0)]) = _
    rw [h]
    rfl
theorem zb_p {p st : List Nat} (hp : p = [] ∨ p = [78]) (h : ZB st) : ∀ x s, p ++ st = x :: s → ¬ x = 79 := fun x s e => by
  rcases hp with rfl | rfl
  · exact (h x s e).1
  · have e2 : (78 : Nat) = x := by injection e
    omega
theorem zb_q {q st : List Nat} (hq : q = [] ∨ q = [77]) (h : ZC st) : ZB (q ++ st) := fun x s e => by
  rcases hq with rfl | rfl
  · exact (h.b x s e)
  · have e2 : (77 : Nat) = x := by injection e
    omega
theorem zf_all {k : Nat} {p q st : List Nat} {cs : List ZO} (hp : p = [] ∨ p = [78]) (hq : q = [] ∨ q = [77]) (h : ZC st) : zm_flush (List.replicate k 79 ++ (p ++ (q ++ st))) cs = (((cs ++ List.replicate k (79, 0, 0)) ++ p.map (fun x => (x, 0, 0))) ++ q.map (fun x => (x, 0, 0)), st) := by
  have hst : ∀ c, zm_joins true st c = (c, st) := fun c => zj_st h.b fun _ => h
  unfold zm_flush
  rw [zn_rep (zb_p hp (zb_q hq h))]
  rcases hp with rfl | rfl
  · show zm_joins true (q ++ st) (cs ++ List.replicate k (79, 0, 0)) = _
    rw [zj_or hq hst]
    show _ = (((cs ++ List.replicate k (79, 0, 0)) ++ []) ++ q.map (fun x => (x, 0, 0)), st)
    rw [List.append_nil]
  · show zm_joins true (q ++ st) ((cs ++ List.replicate k (79, 0, 0)) ++ [(78, 0, 0)]) = _
    rw [zj_or hq hst]
    rfl
variable {f : Nat → Nat → List ZO → ZR} {D : Nat}
theorem zs_join2 (hf : ∀ i o l st, zm_dp st = D → o ≤ 20 → ZP1 K (f i o l) i o l st) {i o : Nat} {l : List ZO} {st : List Nat} (hst : ZB st) (hD : zm_dp st = D) : ∀ (n : Nat) (r : ZR), ZP2 K n r i o l st → ZP2e K (z_join K 78 f n r) i o l st
  | 0, r, h => by
    cases r with
    | inl y =>
      have h1 := h.1
      have h2 := h.2.1
      omega
    | inr e => exact h
  | n + 1, r, h => by
    cases r with
    | inl y =>
      obtain ⟨h1, h2, h3, k, p, cs, hp, hl, hz⟩ := h
      by_cases c : (K y.1).k = 78
      · have e : z_join K 78 f (n + 1) (.inl y) = z_join K 78 f n (z_op 78 (f (y.1 + 1) y.2.1 y.2.2)) := if_pos c
        rw [e]
        have ej : zm_joins false (zm_nots (List.replicate k 79 ++ (p ++ st)) cs).2 (zm_nots (List.replicate k 79 ++ (p ++ st)) cs).1 = (y.2.2, st) := by
          rw [zn_rep (zb_p hp hst)]
          show zm_joins false (p ++ st) (cs ++ List.replicate k (79, 0, 0)) = _
          rw [zj_and hp fun c => zj_st hst fun q => absurd q (by decide), hl]
        have s1 : zm_step K (y.1, y.2.1, cs, List.replicate k 79 ++ (p ++ st), true) = .inl (y.1 + 1, y.2.1, y.2.2, 78 :: st, false) := by
          show (if (K y.1).k = 0 then _ else zm_beh K y.1 y.2.1 cs (List.replicate k 79 ++ (p ++ st))) = _
          rw [if_neg (by omega)]
          unfold zm_beh
          rw [if_pos c, ej]
        have z1 := hz.tr (Zr.st s1)
        have q := hf (y.1 + 1) y.2.1 y.2.2 (78 :: st) (by show 0 + zm_dp st = D; omega) h2
        refine zs_join2 hf hst hD n _ ?_
        cases ef : f (y.1 + 1) y.2.1 y.2.2 with
        | inl y2 =>
          rw [ef] at q
          obtain ⟨q1, q2, k2, cs2, ql, qz⟩ := q
          refine ⟨(show 21 ≤ y2.2.1 + n by omega), q1, (show o < y2.2.1 by omega), k2, [78], cs2, Or.inr rfl, ?_, z1.tr qz⟩
          show y2.2.2 ++ [(78, 0, 0)] = _
          rw [ql]
          rfl
        | inr e =>
          rw [ef] at q
          exact z1.fin q
      · have e : z_join K 78 f (n + 1) (.inl y) = .inl y := if_neg c
        rw [e]
        exact ⟨h2, h3, c, k, p, cs, hp, hl, hz⟩
    | inr e => exact h
theorem zs_all (hf : ∀ i o l st, zm_dp st = D → o ≤ 20 → ZP1 K (f i o l) i o l st) {i o : Nat} {l : List ZO} {st : List Nat} (hst : ZB st) (hD : zm_dp st = D) (ho : o ≤ 20) : ZP2e K (z_all K f i o l) i o l st := by
  refine zs_join2 hf hst hD 20 _ ?_
  have q := hf i o l st hD ho
  cases ef : f i o l with
  | inl y =>
    rw [ef] at q
    obtain ⟨q1, q2, k, cs, ql, qz⟩ := q
    refine ⟨(show 21 ≤ y.2.1 + 20 by omega), q1, q2, k, [], cs, Or.inl rfl, ?_, qz⟩
    rw [ql]
    exact (List.append_nil _).symm
  | inr e =>
    rw [ef] at q
    exact q
theorem zs_join3 (hf : ∀ i o l st, zm_dp st = D → o ≤ 20 → ZP1 K (f i o l) i o l st) {i o : Nat} {l : List ZO} {st : List Nat} (hst : ZC st) (hD : zm_dp st = D) : ∀ (n : Nat) (r : ZR), ZP3 K n r i o l st → ZP3e K (z_join K 77 (z_all K f) n r) i o l st
  | 0, r, h => by
    cases r with
    | inl y =>
      have h1 := h.1
      have h2 := h.2.1
      omega
    | inr e => exact h
  | n + 1, r, h => by
    cases r with
    | inl y =>
      obtain ⟨h1, h2, h3, h4, k, p, q0, cs, hp, hq, hl, hz⟩ := h
      have ez : zm_flush (List.replicate k 79 ++ (p ++ (q0 ++ st))) cs = (y.2.2, st) := by rw [zf_all hp hq hst, hl]
      by_cases c : (K y.1).k = 77
      · have e : z_join K 77 (z_all K f) (n + 1) (.inl y) = z_join K 77 (z_all K f) n (z_op 77 (z_all K f (y.1 + 1) y.2.1 y.2.2)) := if_pos c
        rw [e]
        have s1 : zm_step K (y.1, y.2.1, cs, List.replicate k 79 ++ (p ++ (q0 ++ st)), true) = .inl (y.1 + 1, y.2.1, y.2.2, 77 :: st, false) := by
          show (if (K y.1).k = 0 then _ else zm_beh K y.1 y.2.1 cs (List.replicate k 79 ++ (p ++ (q0 ++ st)))) = _
          rw [if_neg (by omega)]
          unfold zm_beh
          rw [if_neg h4, if_pos c, ez]
        have z1 := hz.tr (Zr.st s1)
        have q := zs_all hf (i := y.1 + 1) (o := y.2.1) (l := y.2.2) (st := 77 :: st) (zb_q (q := [77]) (Or.inr rfl) hst) (by show 0 + zm_dp st = D; omega) h2
        refine zs_join3 hf hst hD n _ ?_
        cases ef : z_all K f (y.1 + 1) y.2.1 y.2.2 with
        | inl y2 =>
          rw [ef] at q
          obtain ⟨q1, q2, q3, k2, p2, cs2, qp, ql, qz⟩ := q
          refine ⟨(show 21 ≤ y2.2.1 + n by omega), q1, (show o < y2.2.1 by omega), q3, k2, p2, [77], cs2, qp, Or.inr rfl, ?_, z1.tr qz⟩
          show y2.2.2 ++ [(77, 0, 0)] = _
          rw [ql]
          rfl
        | inr e =>
          rw [ef] at q
          exact z1.fin q
      · have e : z_join K 77 (z_all K f) (n + 1) (.inl y) = .inl y := if_neg c
        rw [e]
        exact ⟨h2, h3, h4, c, _, cs, ez, hz⟩
    | inr e => exact h
theorem zs_cond (hf : ∀ i o l st, zm_dp st = D → o ≤ 20 → ZP1 K (f i o l) i o l st) {i o : Nat} {l : List ZO} {st : List Nat} (hst : ZC st) (hD : zm_dp st = D) (ho : o ≤ 20) : ZP3e K (z_cond K f i o l) i o l st := by
  refine zs_join3 hf hst hD 20 _ ?_
  have q := zs_all hf (i := i) (o := o) (l := l) hst.b hD ho
  cases ef : z_all K f i o l with
  | inl y =>
    rw [ef] at q
    obtain ⟨q1, q2, q3, k, p, cs, qp, ql, qz⟩ := q
    refine ⟨(show 21 ≤ y.2.1 + 20 by omega), q1, q2, q3, k, p, [], cs, qp, Or.inl rfl, ?_, qz⟩
    rw [ql]
    exact (List.append_nil _).symm
  | inr e =>
    rw [ef] at q
    exact q
end ZMS
theorem z_leaf_o {K : Nat → TT} {i o : Nat} {l : List ZO} {y : Nat × Nat × List ZO} (h : z_leaf K i o l = .inl y) : y.2.1 = o := by
  unfold z_leaf at h
  split at h
  · split at h
    · obtain rfl := Sum.inl.inj h
      rfl
    · cases h
  · split at h
    · split at h
      · obtain rfl := Sum.inl.inj h
        rfl
      · cases h
    · cases h
theorem zs_one {K : Nat → TT} : ∀ (d i o : Nat) (l : List ZO) (st : List Nat), d + zm_dp st = 8 → o ≤ 20 → ZP1 K (z_one K d i o l) i o l st
  | 0, i, o, l, st, hd, ho => by
    by_cases c : z_is K i
    · have e : z_one K 0 i o l = zn 4 i := if_pos c
      rw [e]
      refine ZT.st ?_
      show zm_opd K i o l st = _
      unfold zm_opd
      rw [if_pos c, if_pos (Or.inr (by omega))]
    · have e : z_one K 0 i o l = zn 1 i := if_neg c
      rw [e]
      refine ZT.st ?_
      show zm_opd K i o l st = _
      unfold zm_opd
      rw [if_neg c]
  | d + 1, i, o, l, st, hd, ho => by
    by_cases c : z_is K i
    · by_cases c2 : 20 ≤ o
      · have e : z_one K (d + 1) i o l = zn 4 i := by
          show (if z_is K i then _ else _) = _
          rw [if_pos c, if_pos c2]
        rw [e]
        refine ZT.st ?_
        show zm_opd K i o l st = _
        unfold zm_opd
        rw [if_pos c, if_pos (Or.inl c2)]
      · have c3 : ¬ (20 ≤ o ∨ 8 ≤ zm_dp st) := by omega
        by_cases k40 : (K i).k = 40
        · have e : z_one K (d + 1) i o l = z_close K (z_cond K (z_one K d) (i + 1) (o + 1) l) := by
            show (if z_is K i then _ else _) = _
            rw [if_pos c, if_neg c2, if_pos k40]
          rw [e]
          have s1 : zm_step K (i, o, l, st, false) = .inl (i + 1, o + 1, l, 40 :: st, false) := by
            show zm_opd K i o l st = _
            unfold zm_opd
            rw [if_pos c, if_neg c3, if_pos k40]
          have q := zs_cond (K := K) (f := z_one K d) (D := 8 - d) (fun i o l st hD ho => zs_one d i o l st (by omega) ho) (i := i + 1) (o := o + 1) (l := l) (st := 40 :: st) (fun x s e => by injection e with e1 e2; omega) (by show 1 + zm_dp st = 8 - d; omega) (by omega)
          cases ef : z_cond K (z_one K d) (i + 1) (o + 1) l with
          | inl y =>
            rw [ef] at q
            obtain ⟨q1, q2, q3, q4, s, cs, qf, qz⟩ := q
            have z1 := (Zr.st s1).tr qz
            by_cases k41 : (K y.1).k = 41
            · have e2 : z_close K (.inl y) = zy (y.1 + 1) y.2.1 y.2.2 := if_pos k41
              rw [e2]
              refine ⟨q1, (show o < y.2.1 by omega), 0, y.2.2, (List.append_nil _).symm, z1.tr (Zr.st ?_)⟩
              show (if (K y.1).k = 0 then _ else zm_beh K y.1 y.2.1 cs s) = _
              rw [if_neg (by omega)]
              unfold zm_beh
              rw [if_neg q3, if_neg q4, qf]
              exact if_pos k41
            · have e2 : z_close K (.inl y) = zn 1 y.1 := if_neg k41
              rw [e2]
              refine z1.fin (ZT.st ?_)
              by_cases k0 : (K y.1).k = 0
              · show (if (K y.1).k = 0 then zm_fin y.1 y.2.1 cs s else _) = _
                rw [if_pos k0]
                unfold zm_fin
                rw [qf]
              · show (if (K y.1).k = 0 then _ else zm_beh K y.1 y.2.1 cs s) = _
                rw [if_neg k0]
                unfold zm_beh
                rw [if_neg q3, if_neg q4, qf]
                exact if_neg k41
          | inr e2 =>
            rw [ef] at q
            exact (Zr.st s1).fin q
        · by_cases k79 : (K i).k = 79
          · have e : z_one K (d + 1) i o l = z_op 79 (z_one K d (i + 1) (o + 1) l) := by
              show (if z_is K i then _ else _) = _
              rw [if_pos c, if_neg c2, if_neg k40, if_pos k79]
            rw [e]
            have s1 : zm_step K (i, o, l, st, false) = .inl (i + 1, o + 1, l, 79 :: st, false) := by
              show zm_opd K i o l st = _
              unfold zm_opd
              rw [if_pos c, if_neg c3, if_neg k40, if_pos k79]
            have q := zs_one (K := K) d (i + 1) (o + 1) l (79 :: st) (by show d + (1 + zm_dp st) = 8; omega) (by omega)
            cases ef : z_one K d (i + 1) (o + 1) l with
            | inl y =>
              rw [ef] at q
              obtain ⟨q1, q2, k, cs, ql, qz⟩ := q
              refine ⟨q1, (show o < y.2.1 by omega), k + 1, cs, ?_, ?_⟩
              · show y.2.2 ++ [(79, 0, 0)] = _
                rw [ql, List.append_assoc, List.replicate_succ']
              · have z1 := (Zr.st s1).tr qz
                rw [show List.replicate (k + 1) 79 ++ st = List.replicate k 79 ++ 79 :: st by rw [List.replicate_succ', List.append_assoc]; rfl]
                exact z1
            | inr e2 =>
              rw [ef] at q
              exact (Zr.st s1).fin q
          · have e : z_one K (d + 1) i o l = z_leaf K i (o + 1) l := by
              show (if z_is K i then _ else _) = _
              rw [if_pos c, if_neg c2, if_neg k40, if_neg k79]
            rw [e]
            have s1 : zm_step K (i, o, l, st, false) = zm_lf st (z_leaf K i (o + 1) l) := by
              show zm_opd K i o l st = _
              unfold zm_opd
              rw [if_pos c, if_neg c3, if_neg k40, if_neg k79]
            cases ef : z_leaf K i (o + 1) l with
            | inl y =>
              rw [ef] at s1
              have eo := z_leaf_o ef
              refine ⟨(show y.2.1 ≤ 20 by omega), (show o < y.2.1 by omega), 0, y.2.2, (List.append_nil _).symm, Zr.st s1⟩
            | inr e2 =>
              rw [ef] at s1
              exact ZT.st s1
    · have e : z_one K (d + 1) i o l = zn 1 i := by
        show (if z_is K i then _ else _) = _
        rw [if_neg c]
      rw [e]
      refine ZT.st ?_
      show zm_opd K i o l st = _
      unfold zm_opd
      rw [if_neg c]
/-- by the stack it comes to the same -/
theorem zs_sen {K : Nat → TT} : ZT K (0, 0, [], [], false) (z_sen K) := by
  have q := zs_cond (K := K) (f := z_one K 8) (D := 0) (fun i o l st hD ho => zs_one 8 i o l st (by omega) ho) (i := 0) (o := 0) (l := []) (st := []) (fun x s e => by cases e) rfl (by omega)
  unfold z_sen
  cases ef : z_cond K (z_one K 8) 0 0 [] with
  | inl y =>
    rw [ef] at q
    obtain ⟨q1, q2, q3, q4, s, cs, qf, qz⟩ := q
    refine qz.fin (ZT.st ?_)
    by_cases k0 : (K y.1).k = 0
    · have e2 : z_top K (.inl y) = .inl y := if_pos k0
      rw [e2]
      show (if (K y.1).k = 0 then zm_fin y.1 y.2.1 cs s else _) = _
      rw [if_pos k0]
      unfold zm_fin
      rw [qf]
    · have e2 : z_top K (.inl y) = zn 1 y.1 := if_neg k0
      rw [e2]
      show (if (K y.1).k = 0 then _ else zm_beh K y.1 y.2.1 cs s) = _
      rw [if_neg k0]
      unfold zm_beh
      rw [if_neg q3, if_neg q4, qf]
  | inr e =>
    rw [ef] at q
    exact q
end
-- 63.b9zs.lean.txt
section
set_option maxRecDepth 100000 in
set_option maxHeartbeats 4000000 in
theorem z_add {F : FW} {u z : Nat} (hO : O3 F u) (hz : F.1 u 3 = Int32.ofNat z) (h40 : z < 40) (a b c : Int32) : Pm Z_X5_addOp [.ref u, .int a, .int b, .int c] F (fun r F' => r = some (.int 1) ∧ F' = fp (fp (fp (fp F (u + 1) z a) (u + 2) z b) (u + 3) z c) u 3 (Int32.ofNat (z + 1))) := by
  refine Pm.of fun N => ?_
  obtain ⟨Q, hQ⟩ : ∃ Q : Option Value → FW → Prop, Q = (fun r F' => r = some (.int 1) ∧ F' = fp (fp (fp (fp F (u + 1) z a) (u + 2) z b) (u + 3) z c) u 3 (Int32.ofNat (z + 1))) := ⟨_, rfl⟩
  rw [← hQ]
  refine (show Pv (ab_T L_X5_addOp) N 0 [some (.ref u), some (.int a), some (.int b), some (.int c)] [] F Q from ?_)
  refine Pv.aload rfl rfl ?_
  refine Pv.getI (z := Int32.ofNat z) rfl rfl (hz) ?_
  refine Pv.lit rfl ?_
  refine Pv.icmp rfl (fun c1 => ?_) (fun c1 => ?_)
  · skip
    replace c1 := (i_lt (a := z) (b := 40) (by omega) (by omega)).mp (of_decide_eq_true c1)
    refine Pv.aload rfl rfl ?_
    refine Pv.getR (v := .ref (u + 1)) rfl rfl (hO 0 (by decide)) ?_
    refine Pv.aload rfl rfl ?_
    refine Pv.getI (z := Int32.ofNat z) rfl rfl (hz) ?_
    refine Pv.iload rfl rfl ?_
    refine Pv.astk (k := z) (z := a) rfl (i_toNat (by omega)) (rfl) ?_
    refine Pv.aload rfl rfl ?_
    refine Pv.getR (v := .ref (u + 2)) rfl rfl (hO 1 (by decide)) ?_
    refine Pv.aload rfl rfl ?_
    refine Pv.getI (z := Int32.ofNat z) rfl rfl ((fp_ne (Or.inl (by omega))).trans (hz)) ?_
    refine Pv.iload rfl rfl ?_
    refine Pv.astk (k := z) (z := b) rfl (i_toNat (by omega)) (rfl) ?_
    refine Pv.aload rfl rfl ?_
    refine Pv.getR (v := .ref (u + 3)) rfl rfl (hO 2 (by decide)) ?_
    refine Pv.aload rfl rfl ?_
    refine Pv.getI (z := Int32.ofNat z) rfl rfl ((fp_ne (Or.inl (by omega))).trans ((fp_ne (Or.inl (by omega))).trans (hz))) ?_
    refine Pv.iload rfl rfl ?_
    refine Pv.astk (k := z) (z := c) rfl (i_toNat (by omega)) (rfl) ?_
    refine Pv.aload rfl rfl ?_
    refine Pv.dup rfl ?_
    refine Pv.getI (z := Int32.ofNat z) rfl rfl ((fp_ne (Or.inl (by omega))).trans ((fp_ne (Or.inl (by omega))).trans ((fp_ne (Or.inl (by omega))).trans (hz)))) ?_
    refine Pv.lit rfl ?_
    refine Pv.bin (z := Int32.ofNat (z + 1)) rfl (i_add z 1) ?_
    refine Pv.putI rfl rfl ?_
    refine Pv.lit rfl ?_
    exact Pv.zret rfl (by rw [hQ]; exact ⟨rfl, rfl⟩)
  · skip
    replace c1 := mt (i_lt (a := z) (b := 40) (by omega) (by omega)).mpr (of_decide_eq_false c1)
    omega
end
-- 63.b9zt.sc.lean.txt
section
/-! ===== the class reads a SENTENCE ===== -/
theorem zj_inr {K : Nat → TT} {w : Nat} {f : Nat → Nat → List ZO → ZR} {e : Int32 × Nat} : ∀ n, z_join K w f n (.inr e) = .inr e
  | 0 => rfl
  | _ + 1 => rfl
/-- ONES are counted up; what is said grows no faster -/
def ZGr (f : Nat → Nat → List ZO → ZR) : Prop := ∀ (i o : Nat) (l : List ZO) (y : Nat × Nat × List ZO), o ≤ 20 → f i o l = .inl y → o < y.2.1 ∧ y.2.1 ≤ 20 ∧ y.2.2.length + 1 + 2 * o ≤ l.length + 2 * y.2.1
theorem zg_join {K : Nat → TT} {w : Nat} {f : Nat → Nat → List ZO → ZR} (hf : ZGr f) {o0 L0 : Nat} : ∀ (n : Nat) (r : ZR), (∀ y, r = .inl y → o0 < y.2.1 ∧ y.2.1 ≤ 20 ∧ y.2.2.length + 1 + 2 * o0 ≤ L0 + 2 * y.2.1) → ∀ y, z_join K w f n r = .inl y → o0 < y.2.1 ∧ y.2.1 ≤ 20 ∧ y.2.2.length + 1 + 2 * o0 ≤ L0 + 2 * y.2.1
  | 0, r, h, y, e => h y e
  | n + 1, .inr e0, h, y, e => by cases e
  | n + 1, .inl y0, h, y, e => by
    have h0 := h y0 rfl
    by_cases c : (K y0.1).k = (w : Int)
    · have q : z_join K w f (n + 1) (.inl y0) = z_join K w f n (z_op w (f (y0.1 + 1) y0.2.1 y0.2.2)) := if_pos c
      rw [q] at e
      refine zg_join hf n _ (fun y2 e2 => ?_) y e
      cases ef : f (y0.1 + 1) y0.2.1 y0.2.2 with
      | inl y3 =>
        rw [ef] at e2
        have g := hf _ _ _ _ h0.2.1 ef
        obtain rfl := Sum.inl.inj e2
        show o0 < y3.2.1 ∧ y3.2.1 ≤ 20 ∧ (y3.2.2 ++ [(w, 0, 0)]).length + 1 + 2 * o0 ≤ L0 + 2 * y3.2.1
        rw [List.length_append, List.length_singleton]
        omega
      | inr e3 =>
        rw [ef] at e2
        cases e2
    · have q : z_join K w f (n + 1) (.inl y0) = .inl y0 := if_neg c
      rw [q] at e
      obtain rfl := Sum.inl.inj e
      exact h0
theorem zg_all {K : Nat → TT} {f : Nat → Nat → List ZO → ZR} (hf : ZGr f) : ZGr (z_all K f) := fun i o l y ho e => zg_join hf 20 _ (fun y2 e2 => hf i o l y2 ho e2) y e
theorem zg_cond {K : Nat → TT} {f : Nat → Nat → List ZO → ZR} (hf : ZGr f) : ZGr (z_cond K f) := fun i o l y ho e => zg_join (zg_all hf) 20 _ (fun y2 e2 => zg_all hf i o l y2 ho e2) y e
theorem z_leaf_g {K : Nat → TT} {i o : Nat} {l : List ZO} {y : Nat × Nat × List ZO} (h : z_leaf K i o l = .inl y) : y.2.1 = o ∧ y.2.2.length = l.length + 1 := by
  unfold z_leaf at h
  split at h
  · split at h
    · obtain rfl := Sum.inl.inj h
      exact ⟨rfl, List.length_append⟩
    · cases h
  · split at h
    · split at h
      · obtain rfl := Sum.inl.inj h
        exact ⟨rfl, List.length_append⟩
      · cases h
    · cases h
theorem zg_one {K : Nat → TT} : ∀ d, ZGr (z_one K d)
  | 0 => fun i o l y ho e => by
    have e : (if z_is K i then zn 4 i else zn 1 i) = Sum.inl y := e
    split at e <;> (cases e)
  | d + 1 => fun i o l y ho e => by
    have e : (if z_is K i then (if 20 ≤ o then zn 4 i else if (K i).k = 40 then z_close K (z_cond K (z_one K d) (i + 1) (o + 1) l) else if (K i).k = 79 then z_op 79 (z_one K d (i + 1) (o + 1) l) else z_leaf K i (o + 1) l) else zn 1 i) = Sum.inl y := e
    split at e
    · split at e
      · cases e
      · split at e
        · cases ec : z_cond K (z_one K d) (i + 1) (o + 1) l with
          | inl y2 =>
            rw [ec] at e
            have g := zg_cond (K := K) (zg_one d) _ _ _ _ (by omega) ec
            have e : (if (K y2.1).k = 41 then zy (y2.1 + 1) y2.2.1 y2.2.2 else zn 1 y2.1) = Sum.inl y := e
            split at e
            · obtain rfl := Sum.inl.inj e
              show o < y2.2.1 ∧ y2.2.1 ≤ 20 ∧ y2.2.2.length + 1 + 2 * o ≤ l.length + 2 * y2.2.1
              omega
            · cases e
          | inr e2 =>
            rw [ec] at e
            cases e
        · split at e
          · cases ec : z_one K d (i + 1) (o + 1) l with
            | inl y2 =>
              rw [ec] at e
              have g := zg_one d _ _ _ _ (by omega) ec
              obtain rfl := Sum.inl.inj e
              show o < y2.2.1 ∧ y2.2.1 ≤ 20 ∧ (y2.2.2 ++ [(79, 0, 0)]).length + 1 + 2 * o ≤ l.length + 2 * y2.2.1
              rw [List.length_append, List.length_singleton]
              omega
            | inr e2 =>
              rw [ec] at e
              cases e
          · have g := z_leaf_g e
            omega
    · cases e
/-- a Sentence at u: o ONES so far, l said so far -/
def ZL (F : FW) (u o : Nat) (l : List ZO) : Prop := O3 F u ∧ F.1 u 3 = Int32.ofNat l.length ∧ F.1 u 4 = Int32.ofNat o ∧ ∀ (j : Nat) (x : ZO), l[j]? = some x → F.1 (u + 1) j = Int32.ofNat x.1 ∧ F.1 (u + 2) j = Int32.ofNat x.2.1 ∧ F.1 (u + 3) j = Int32.ofNat x.2.2
/-- token i is the one read; nothing wrong so far -/
def ZKC (F : FW) (K : Nat → TT) (m i : Nat) : Prop := TKF F K m ∧ i < m ∧ F.1 3 4 = Int32.ofNat (i + 1) ∧ CURF F (K i) ∧ F.1 3 9 = 0
def ZS (F : FW) (u : Nat) (K : Nat → TT) (m i o : Nat) (l : List ZO) : Prop := GW F ∧ ZKC F K m i ∧ ZL F u o l ∧ (u = 61 ∨ u = 65)
def ZQ (u : Nat) (K : Nat → TT) (m : Nat) (F F' : FW) (r : Option Value) (x : ZR) : Prop := FSX u F F' ∧ match x with
  | .inl y => r = some (.int 1) ∧ ZS F' u K m y.1 y.2.1 y.2.2
  | .inr e => r = some (.int 0) ∧ F'.1 3 9 = e.1 ∧ (F'.1 3 6).toInt = (K e.2).pl
theorem ZQ.tr {u m : Nat} {K : Nat → TT} {F G F' : FW} {r : Option Value} {x : ZR} (a : FSX u F G) (q : ZQ u K m G F' r x) : ZQ u K m F F' r x := ⟨a.tr q.1, q.2⟩
section ZSS
variable {F G : FW} {u m i o : Nat} {K : Nat → TT} {l : List ZO}
theorem ZL.fx3 (h : ZL F u o l) (x : FX (fun q => q = 3) F G) (hu : u = 61 ∨ u = 65) : ZL G u o l :=
  ⟨FX.O3 x h.1, (x.1 u 3 (show ¬ u = 3 by omega)).trans h.2.1, (x.1 u 4 (show ¬ u = 3 by omega)).trans h.2.2.1, fun j y hj => ⟨(x.1 (u + 1) j (show ¬ u + 1 = 3 by omega)).trans (h.2.2.2 j y hj).1, (x.1 (u + 2) j (show ¬ u + 2 = 3 by omega)).trans (h.2.2.2 j y hj).2.1, (x.1 (u + 3) j (show ¬ u + 3 = 3 by omega)).trans (h.2.2.2 j y hj).2.2⟩⟩
theorem ZS.rd (h : ZS F u K m i o l) {j : Nat} (hj : j < m) (hd : RDC F G (K j) j 0) : ZS G u K m j o l ∧ FSX u F G :=
  ⟨⟨hd.1.G h.1, ⟨hd.1.TK h.2.1.1, hj, hd.2.1, hd.2.2.1, hd.2.2.2.trans ((if_pos rfl).trans h.2.1.2.2.2.2)⟩, h.2.2.1.fx3 hd.1.1 h.2.2.2, h.2.2.2⟩, FSX.of hd.1.1⟩
theorem ZS.up (h : ZS F u K m i o l) (k0 : (K i).k ≠ 0) (k1 : (K i).k ≠ 1) : i + 1 < m := h.2.1.1.up h.2.1.2.1 k0 k1
/-- the kind of the token that is read -/
theorem ZS.k (h : ZS F u K m i o l) : (F.1 3 5).toInt = (K i).k := h.2.1.2.2.2.1.1
theorem z_step (h : ZS F u K m i o l) (k0 : (K i).k ≠ 0) (k1 : (K i).k ≠ 1) : Pm Z_X9_step [.ref 3] F (fun r F' => r = none ∧ ZS F' u K m (i + 1) o l ∧ FSX u F F') :=
  (c_step h.1 h.2.1.1 h.2.1.2.2.1 (h.up k0 k1)).imp fun r F' q => ⟨q.1, h.rd (h.up k0 k1) q.2⟩
theorem z_num (h : ZS F u K m i o l) (k0 : (K i).k ≠ 0) (k1 : (K i).k ≠ 1) (lo hi : Int32) : Pm Z_X9_takeNumber [.ref 3, .int lo, .int hi] F (fun r F' => r = some (.int (b2i (decide (tnN (K (i + 1)) lo.toInt hi.toInt = 0)))) ∧ FSX u F F' ∧ (tnN (K (i + 1)) lo.toInt hi.toInt = 0 → ZS F' u K m (i + 1) o l) ∧ (¬ tnN (K (i + 1)) lo.toInt hi.toInt = 0 → F'.1 3 9 = tnN (K (i + 1)) lo.toInt hi.toInt ∧ (F'.1 3 6).toInt = (K (i + 1)).pl)) :=
  (c_takeNumber h.1 h.2.1.1 h.2.1.2.2.1 (h.up k0 k1) lo hi).imp fun r F' q => ⟨q.1, FSX.of q.2.1.1, fun e => (h.rd (h.up k0 k1) (by have q2 := q.2; rw [e] at q2; exact q2)).1, fun e => ⟨q.2.bad9 e, q.2.2.2.1.2.1⟩⟩
theorem z_bad (h : ZS F u K m i o l) {c : Int32} {F' : FW} (e : F' = fp F 3 9 c) : ZQ u K m F F' (some (.int 0)) (.inr (c, i)) := by
  subst e
  exact ⟨FSX.rf.p3, rfl, fp_eq, h.2.1.2.2.2.1.p9.2.1⟩
theorem ZL.add (h : ZL F u o l) (a b c : Nat) : ZL (fp (fp (fp (fp F (u + 1) l.length (Int32.ofNat a)) (u + 2) l.length (Int32.ofNat b)) (u + 3) l.length (Int32.ofNat c)) u 3 (Int32.ofNat (l.length + 1))) u o (l ++ [(a, b, c)]) := by
  have x : FX (fun q => u ≤ q ∧ q ≤ u + 3) F (fp (fp (fp (fp F (u + 1) l.length (Int32.ofNat a)) (u + 2) l.length (Int32.ofNat b)) (u + 3) l.length (Int32.ofNat c)) u 3 (Int32.ofNat (l.length + 1))) := FX.fp (FX.fp (FX.fp (FX.fp FX.rf (show u ≤ u + 1 ∧ u + 1 ≤ u + 3 by omega)) (show u ≤ u + 2 ∧ u + 2 ≤ u + 3 by omega)) (show u ≤ u + 3 ∧ u + 3 ≤ u + 3 by omega)) (show u ≤ u ∧ u ≤ u + 3 by omega)
  refine ⟨FX.O3 x h.1, fp_eq.trans (by rw [List.length_append, List.length_singleton]), ((fp_ne (Or.inr (by decide))).trans ((fp_ne (Or.inl (by omega))).trans ((fp_ne (Or.inl (by omega))).trans (fp_ne (Or.inl (by omega)))))).trans h.2.2.1, fun j y hj => ?_⟩
  have hlen := (List.getElem?_eq_some_iff.mp hj).1
  rw [List.length_append, List.length_singleton] at hlen
  by_cases e : j < l.length
  · rw [List.getElem?_append_left e] at hj
    obtain ⟨h1, h2, h3⟩ := h.2.2.2 j y hj
    exact ⟨((fp_ne (Or.inl (by omega))).trans ((fp_ne (Or.inl (by omega))).trans ((fp_ne (Or.inl (by omega))).trans (fp_ne (Or.inr (by omega)))))).trans h1, ((fp_ne (Or.inl (by omega))).trans ((fp_ne (Or.inl (by omega))).trans ((fp_ne (Or.inr (by omega))).trans (fp_ne (Or.inl (by omega)))))).trans h2, ((fp_ne (Or.inl (by omega))).trans ((fp_ne (Or.inr (by omega))).trans ((fp_ne (Or.inl (by omega))).trans (fp_ne (Or.inl (by omega)))))).trans h3⟩
  · obtain rfl : j = l.length := by omega
    rw [List.getElem?_append_right (Nat.le_refl _), Nat.sub_self] at hj
    obtain rfl := Option.some.inj hj
    exact ⟨(fp_ne (Or.inl (by omega))).trans ((fp_ne (Or.inl (by omega))).trans ((fp_ne (Or.inl (by omega))).trans fp_eq)), (fp_ne (Or.inl (by omega))).trans ((fp_ne (Or.inl (by omega))).trans fp_eq), (fp_ne (Or.inl (by omega))).trans fp_eq⟩
theorem ZKC.fx (h : ZKC F K m i) (x : FX (fun q => u ≤ q ∧ q ≤ u + 3) F G) (hu : u = 61 ∨ u = 65) : ZKC G K m i := by
  have n3 : ¬ (u ≤ 3 ∧ 3 ≤ u + 3) := by omega
  have n4 : ¬ (u ≤ 4 ∧ 4 ≤ u + 3) := by omega
  have n5 : ¬ (u ≤ 5 ∧ 5 ≤ u + 3) := by omega
  have n6 : ¬ (u ≤ 6 ∧ 6 ≤ u + 3) := by omega
  refine ⟨⟨h.1.1, h.1.2.1, (x.1 3 3 n3).trans h.1.2.2.1, fun j hj => ?_, h.1.2.2.2.2⟩, h.2.1, (x.1 3 4 n3).trans h.2.2.1, ?_, (x.1 3 9 n3).trans h.2.2.2.2⟩
  · rw [x.1 4 j n4, x.1 5 j n5, x.2.1 6 j n6]
    exact h.1.2.2.2.1 j hj
  · unfold CURF
    rw [x.1 3 5 n3, x.1 3 6 n3, x.1 3 7 n3, x.2.1 3 8 n3]
    exact h.2.2.2.1
theorem z_addq (h : ZS F u K m i o l) (h40 : l.length < 40) (a b c : Nat) : Pm Z_X5_addOp [.ref u, .int (Int32.ofNat a), .int (Int32.ofNat b), .int (Int32.ofNat c)] F (fun r F' => r = some (.int 1) ∧ ZS F' u K m i o (l ++ [(a, b, c)]) ∧ FSX u F F') :=
  (z_add h.2.2.1.1 h.2.2.1.2.1 h40 _ _ _).imp fun r F' q => by
    obtain ⟨e, rfl⟩ := q
    have x : FX (fun q => u ≤ q ∧ q ≤ u + 3) F (fp (fp (fp (fp F (u + 1) l.length (Int32.ofNat a)) (u + 2) l.length (Int32.ofNat b)) (u + 3) l.length (Int32.ofNat c)) u 3 (Int32.ofNat (l.length + 1))) := FX.fp (FX.fp (FX.fp (FX.fp FX.rf (show u ≤ u + 1 ∧ u + 1 ≤ u + 3 by omega)) (show u ≤ u + 2 ∧ u + 2 ≤ u + 3 by omega)) (show u ≤ u + 3 ∧ u + 3 ≤ u + 3 by omega)) (show u ≤ u ∧ u ≤ u + 3 by omega)
    exact ⟨e, ⟨h.1.fx x, h.2.1.fx x h.2.2.2, h.2.2.1.add a b c, h.2.2.2⟩, FSX.ou x⟩
end ZSS
/-- a reader does what f says -/
def ZRD (X : List Value → ab_H → Option ab_O) (u : Nat) (K : Nat → TT) (m : Nat) (w : Int32) (f : Nat → Nat → List ZO → ZR) : Prop := ∀ (F : FW) (i o : Nat) (l : List ZO), ZS F u K m i o l → o ≤ 20 → l.length ≤ 2 * o → Pm X [.ref u, .ref 3, .int w] F (fun r F' => ZQ u K m F F' r (f i o l))
theorem zc_all {xO : List Value → ab_H → Option ab_O} {u m : Nat} {K : Nat → TT} {w : Int32} {f : Nat → Nat → List ZO → ZR} (hf : ZRD xO u K m w f) (gf : ZGr f) : ZRD (ab_X (ab_T (L_X5_readAll xO Z_X9_step Z_X5_addOp)) 4) u K m w (z_all K f) := fun F i o l h ho hl => by
  refine Pm.of fun N => ?_
  obtain ⟨Q, hQ⟩ : ∃ Q : Option Value → FW → Prop, Q = (fun r F' => ZQ u K m F F' r (z_all K f i o l)) := ⟨_, rfl⟩
  rw [← hQ]
  refine (show Pv (ab_T (L_X5_readAll xO Z_X9_step Z_X5_addOp)) N 0 [some (.ref u), some (.ref 3), some (.int w), none] [] F Q from ?_)
  refine Pv.aload rfl rfl ?_
  refine Pv.aload rfl rfl ?_
  refine Pv.iload rfl rfl ?_
  refine Pv.callV (as := [.ref u, .ref 3, .int w]) (rest := []) rfl rfl rfl (hf F i o l h ho hl) (fun r G q => ?_)
  obtain ⟨x, q⟩ := q
  cases ef : f i o l with
  | inr e =>
    rw [ef] at q
    obtain ⟨rfl, q1, q2⟩ := q
    refine (show Pv (ab_T (L_X5_readAll xO Z_X9_step Z_X5_addOp)) N 6 [some (.ref u), some (.ref 3), some (.int w), none] [.int 0] G Q from ?_)
    refine Pv.if0 rfl (fun c => absurd c (by decide)) (fun _ => ?_)
    refine Pv.lit rfl ?_
    have ep : z_all K f i o l = .inr e := (congrArg (z_join K 78 (f) 20) ef).trans (zj_inr 20)
    exact Pv.zret rfl (by rw [hQ]; exact ⟨x, by rw [ep]; exact ⟨rfl, q1, q2⟩⟩)
  | inl y0 =>
    rw [ef] at q
    obtain ⟨rfl, hs0⟩ := q
    have g0 := gf i o l y0 ho ef
    refine (show Pv (ab_T (L_X5_readAll xO Z_X9_step Z_X5_addOp)) N 6 [some (.ref u), some (.ref 3), some (.int w), none] [.int 1] G Q from ?_)
    refine Pv.if0 rfl (fun _ => ?_) (fun c => absurd c (by decide))
    refine Pv.lit rfl ?_
    refine Pv.istore (lo' := [some (.ref u), some (.ref 3), some (.int w), some (.int 0)]) rfl rfl ?_
    refine Pv.lp (ι := Nat × FW × (Nat × Nat × List ZO)) (lof := fun ⟨k, G, y⟩ => [some (.ref u), some (.ref 3), some (.int w), some (.int (Int32.ofNat k))]) (Ff := fun ⟨k, G, y⟩ => G) (P := fun ⟨k, G, y⟩ => k ≤ 20 ∧ FSX u F G ∧ ZS G u K m y.1 y.2.1 y.2.2 ∧ 21 ≤ y.2.1 + (20 - k) ∧ y.2.1 ≤ 20 ∧ y.2.2.length + 1 ≤ 2 * y.2.1 ∧ z_join K 78 (f) (20 - k) (.inl y) = z_all K f i o l) ?_ (0, G, y0) ⟨by omega, x, hs0, by omega, g0.2.1, by omega, congrArg (z_join K 78 (f) 20) ef.symm⟩
    rintro N1 hN1 ⟨k, G1, y⟩ ⟨hk, hx, hs, h21, h20, hlen, hj⟩ ih
    refine (show Pv (ab_T (L_X5_readAll xO Z_X9_step Z_X5_addOp)) (N1 + 1) 13 [some (.ref u), some (.ref 3), some (.int w), some (.int (Int32.ofNat k))] [] G1 Q from ?_)
    refine Pv.iloadS rfl rfl ?_
    refine Pv.lit rfl ?_
    refine Pv.icmp rfl (fun c1 => ?_) (fun c1 => ?_)
    · replace c1 := (i_le (a := 20) (b := k) (by omega) (by omega)).mp (of_decide_eq_true c1)
      omega
    · replace c1 := mt (i_le (a := 20) (b := k) (by omega) (by omega)).mpr (of_decide_eq_false c1)
      obtain ⟨n, hn⟩ : ∃ n, 20 - k = n + 1 := ⟨19 - k, by omega⟩
      rw [hn] at hj
      refine Pv.aload rfl rfl ?_
      refine Pv.getI (z := G1.1 3 5) rfl rfl rfl ?_
      refine Pv.lit rfl ?_
      refine Pv.icmp rfl (fun c2 => ?_) (fun c2 => ?_)
      · replace c2 : decide (G1.1 3 5 = 78) = false := by simpa using c2
        replace c2 := of_decide_eq_false c2
        have ck : ¬ (K y.1).k = 78 := fun e => c2 (Int32.toInt_inj.mp (hs.k.trans e))
        have ep : z_join K 78 (f) (n + 1) (.inl y) = .inl y := if_neg ck
        refine Pv.lit rfl ?_
        exact Pv.zret rfl (by rw [hQ]; exact ⟨hx, by rw [← hj, ep]; exact ⟨rfl, hs⟩⟩)
      · replace c2 : decide (G1.1 3 5 = 78) = true := by simpa using c2
        replace c2 := of_decide_eq_true c2
        have ck : (K y.1).k = 78 := hs.k.symm.trans (congrArg Int32.toInt c2)
        have ep : z_join K 78 (f) (n + 1) (.inl y) = z_join K 78 (f) n (z_op 78 (f (y.1 + 1) y.2.1 y.2.2)) := if_pos ck
        refine Pv.aload rfl rfl ?_
        refine Pv.callV (as := [.ref 3]) (rest := []) rfl rfl rfl (z_step hs (by rw [ck]; decide) (by rw [ck]; decide)) (fun r1 G2 q1 => ?_)
        obtain ⟨rfl, hs2, x2⟩ := q1
        refine (show Pv (ab_T (L_X5_readAll xO Z_X9_step Z_X5_addOp)) N1 32 [some (.ref u), some (.ref 3), some (.int w), some (.int (Int32.ofNat k))] [] G2 Q from ?_)
        refine Pv.aload rfl rfl ?_
        refine Pv.aload rfl rfl ?_
        refine Pv.iload rfl rfl ?_
        refine Pv.callV (as := [.ref u, .ref 3, .int w]) (rest := []) rfl rfl rfl (hf G2 (y.1 + 1) y.2.1 y.2.2 hs2 h20 (by omega)) (fun r2 G3 q2 => ?_)
        obtain ⟨x3, q2⟩ := q2
        cases ef2 : f (y.1 + 1) y.2.1 y.2.2 with
        | inr e =>
          rw [ef2] at q2 ep
          obtain ⟨rfl, q3, q4⟩ := q2
          refine (show Pv (ab_T (L_X5_readAll xO Z_X9_step Z_X5_addOp)) N1 38 [some (.ref u), some (.ref 3), some (.int w), some (.int (Int32.ofNat k))] [.int 0] G3 Q from ?_)
          refine Pv.if0 rfl (fun _ => ?_) (fun c => absurd c (by decide))
          refine Pv.lit rfl ?_
          exact Pv.zret rfl (by rw [hQ]; exact ⟨(hx.tr x2).tr x3, by rw [← hj, ep, show z_join K 78 (f) n (z_op 78 (.inr e)) = .inr e from zj_inr n]; exact ⟨rfl, q3, q4⟩⟩)
        | inl y2 =>
          rw [ef2] at q2 ep
          obtain ⟨rfl, hs3⟩ := q2
          have g2 := gf _ _ _ _ h20 ef2
          refine (show Pv (ab_T (L_X5_readAll xO Z_X9_step Z_X5_addOp)) N1 38 [some (.ref u), some (.ref 3), some (.int w), some (.int (Int32.ofNat k))] [.int 1] G3 Q from ?_)
          refine Pv.if0 rfl (fun c => absurd c (by decide)) (fun _ => ?_)
          refine Pv.aload rfl rfl ?_
          refine Pv.lit rfl ?_
          refine Pv.lit rfl ?_
          refine Pv.lit rfl ?_
          refine Pv.callV (as := [.ref u, .int (Int32.ofNat 78), .int (Int32.ofNat 0), .int (Int32.ofNat 0)]) (rest := []) rfl rfl rfl (z_addq hs3 (by omega) 78 0 0) (fun r3 G4 q3 => ?_)
          obtain ⟨rfl, hs4, x4⟩ := q3
          refine (show Pv (ab_T (L_X5_readAll xO Z_X9_step Z_X5_addOp)) N1 49 [some (.ref u), some (.ref 3), some (.int w), some (.int (Int32.ofNat k))] [.int 1] G4 Q from ?_)
          refine Pv.if0 rfl (fun _ => ?_) (fun c => absurd c (by decide))
          refine Pv.iinc (y := Int32.ofNat (k + 1)) (lo' := [some (.ref u), some (.ref 3), some (.int w), some (.int (Int32.ofNat (k + 1)))]) rfl rfl (i_add k 1) rfl ?_
          refine Pv.goto rfl ?_
          refine ih (k + 1, G4, (y2.1, y2.2.1, y2.2.2 ++ [(78, 0, 0)])) ⟨by omega, ((hx.tr x2).tr x3).tr x4, hs4, (show 21 ≤ y2.2.1 + (20 - (k + 1)) by omega), g2.2.1, ?_, ?_⟩
          · show (y2.2.2 ++ [(78, 0, 0)]).length + 1 ≤ 2 * y2.2.1
            rw [List.length_append, List.length_singleton]
            omega
          · rw [show 20 - (k + 1) = n by omega]
            exact ep.symm.trans hj
/-- ALL joined by or -/
def zz_77 (K : Nat → TT) (f : Nat → Nat → List ZO → ZR) (i o : Nat) (l : List ZO) : ZR := z_join K 77 f 20 (f i o l)
theorem zc_cond0 {xO : List Value → ab_H → Option ab_O} {u m : Nat} {K : Nat → TT} {w : Int32} {f : Nat → Nat → List ZO → ZR} (hf : ZRD xO u K m w f) (gf : ZGr f) : ZRD (ab_X (ab_T (L_X5_readCond xO Z_X9_step Z_X5_addOp)) 4) u K m w (zz_77 K f) := fun F i o l h ho hl => by
  refine Pm.of fun N => ?_
  obtain ⟨Q, hQ⟩ : ∃ Q : Option Value → FW → Prop, Q = (fun r F' => ZQ u K m F F' r (zz_77 K f i o l)) := ⟨_, rfl⟩
  rw [← hQ]
  refine (show Pv (ab_T (L_X5_readCond xO Z_X9_step Z_X5_addOp)) N 0 [some (.ref u), some (.ref 3), some (.int w), none] [] F Q from ?_)
  refine Pv.aload rfl rfl ?_
  refine Pv.aload rfl rfl ?_
  refine Pv.iload rfl rfl ?_
  refine Pv.callV (as := [.ref u, .ref 3, .int w]) (rest := []) rfl rfl rfl (hf F i o l h ho hl) (fun r G q => ?_)
  obtain ⟨x, q⟩ := q
  cases ef : f i o l with
  | inr e =>
    rw [ef] at q
    obtain ⟨rfl, q1, q2⟩ := q
    refine (show Pv (ab_T (L_X5_readCond xO Z_X9_step Z_X5_addOp)) N 6 [some (.ref u), some (.ref 3), some (.int w), none] [.int 0] G Q from ?_)
    refine Pv.if0 rfl (fun c => absurd c (by decide)) (fun _ => ?_)
    refine Pv.lit rfl ?_
    have ep : zz_77 K f i o l = .inr e := (congrArg (z_join K 77 (f) 20) ef).trans (zj_inr 20)
    exact Pv.zret rfl (by rw [hQ]; exact ⟨x, by rw [ep]; exact ⟨rfl, q1, q2⟩⟩)
  | inl y0 =>
    rw [ef] at q
    obtain ⟨rfl, hs0⟩ := q
    have g0 := gf i o l y0 ho ef
    refine (show Pv (ab_T (L_X5_readCond xO Z_X9_step Z_X5_addOp)) N 6 [some (.ref u), some (.ref 3), some (.int w), none] [.int 1] G Q from ?_)
    refine Pv.if0 rfl (fun _ => ?_) (fun c => absurd c (by decide))
    refine Pv.lit rfl ?_
    refine Pv.istore (lo' := [some (.ref u), some (.ref 3), some (.int w), some (.int 0)]) rfl rfl ?_
    refine Pv.lp (ι := Nat × FW × (Nat × Nat × List ZO)) (lof := fun ⟨k, G, y⟩ => [some (.ref u), some (.ref 3), some (.int w), some (.int (Int32.ofNat k))]) (Ff := fun ⟨k, G, y⟩ => G) (P := fun ⟨k, G, y⟩ => k ≤ 20 ∧ FSX u F G ∧ ZS G u K m y.1 y.2.1 y.2.2 ∧ 21 ≤ y.2.1 + (20 - k) ∧ y.2.1 ≤ 20 ∧ y.2.2.length + 1 ≤ 2 * y.2.1 ∧ z_join K 77 (f) (20 - k) (.inl y) = zz_77 K f i o l) ?_ (0, G, y0) ⟨by omega, x, hs0, by omega, g0.2.1, by omega, congrArg (z_join K 77 (f) 20) ef.symm⟩
    rintro N1 hN1 ⟨k, G1, y⟩ ⟨hk, hx, hs, h21, h20, hlen, hj⟩ ih
    refine (show Pv (ab_T (L_X5_readCond xO Z_X9_step Z_X5_addOp)) (N1 + 1) 13 [some (.ref u), some (.ref 3), some (.int w), some (.int (Int32.ofNat k))] [] G1 Q from ?_)
    refine Pv.iloadS rfl rfl ?_
    refine Pv.lit rfl ?_
    refine Pv.icmp rfl (fun c1 => ?_) (fun c1 => ?_)
    · replace c1 := (i_le (a := 20) (b := k) (by omega) (by omega)).mp (of_decide_eq_true c1)
      omega
    · replace c1 := mt (i_le (a := 20) (b := k) (by omega) (by omega)).mpr (of_decide_eq_false c1)
      obtain ⟨n, hn⟩ : ∃ n, 20 - k = n + 1 := ⟨19 - k, by omega⟩
      rw [hn] at hj
      refine Pv.aload rfl rfl ?_
      refine Pv.getI (z := G1.1 3 5) rfl rfl rfl ?_
      refine Pv.lit rfl ?_
      refine Pv.icmp rfl (fun c2 => ?_) (fun c2 => ?_)
      · replace c2 : decide (G1.1 3 5 = 77) = false := by simpa using c2
        replace c2 := of_decide_eq_false c2
        have ck : ¬ (K y.1).k = 77 := fun e => c2 (Int32.toInt_inj.mp (hs.k.trans e))
        have ep : z_join K 77 (f) (n + 1) (.inl y) = .inl y := if_neg ck
        refine Pv.lit rfl ?_
        exact Pv.zret rfl (by rw [hQ]; exact ⟨hx, by rw [← hj, ep]; exact ⟨rfl, hs⟩⟩)
      · replace c2 : decide (G1.1 3 5 = 77) = true := by simpa using c2
        replace c2 := of_decide_eq_true c2
        have ck : (K y.1).k = 77 := hs.k.symm.trans (congrArg Int32.toInt c2)
        have ep : z_join K 77 (f) (n + 1) (.inl y) = z_join K 77 (f) n (z_op 77 (f (y.1 + 1) y.2.1 y.2.2)) := if_pos ck
        refine Pv.aload rfl rfl ?_
        refine Pv.callV (as := [.ref 3]) (rest := []) rfl rfl rfl (z_step hs (by rw [ck]; decide) (by rw [ck]; decide)) (fun r1 G2 q1 => ?_)
        obtain ⟨rfl, hs2, x2⟩ := q1
        refine (show Pv (ab_T (L_X5_readCond xO Z_X9_step Z_X5_addOp)) N1 32 [some (.ref u), some (.ref 3), some (.int w), some (.int (Int32.ofNat k))] [] G2 Q from ?_)
        refine Pv.aload rfl rfl ?_
        refine Pv.aload rfl rfl ?_
        refine Pv.iload rfl rfl ?_
        refine Pv.callV (as := [.ref u, .ref 3, .int w]) (rest := []) rfl rfl rfl (hf G2 (y.1 + 1) y.2.1 y.2.2 hs2 h20 (by omega)) (fun r2 G3 q2 => ?_)
        obtain ⟨x3, q2⟩ := q2
        cases ef2 : f (y.1 + 1) y.2.1 y.2.2 with
        | inr e =>
          rw [ef2] at q2 ep
          obtain ⟨rfl, q3, q4⟩ := q2
          refine (show Pv (ab_T (L_X5_readCond xO Z_X9_step Z_X5_addOp)) N1 38 [some (.ref u), some (.ref 3), some (.int w), some (.int (Int32.ofNat k))] [.int 0] G3 Q from ?_)
          refine Pv.if0 rfl (fun _ => ?_) (fun c => absurd c (by decide))
          refine Pv.lit rfl ?_
          exact Pv.zret rfl (by rw [hQ]; exact ⟨(hx.tr x2).tr x3, by rw [← hj, ep, show z_join K 77 (f) n (z_op 77 (.inr e)) = .inr e from zj_inr n]; exact ⟨rfl, q3, q4⟩⟩)
        | inl y2 =>
          rw [ef2] at q2 ep
          obtain ⟨rfl, hs3⟩ := q2
          have g2 := gf _ _ _ _ h20 ef2
          refine (show Pv (ab_T (L_X5_readCond xO Z_X9_step Z_X5_addOp)) N1 38 [some (.ref u), some (.ref 3), some (.int w), some (.int (Int32.ofNat k))] [.int 1] G3 Q from ?_)
          refine Pv.if0 rfl (fun c => absurd c (by decide)) (fun _ => ?_)
          refine Pv.aload rfl rfl ?_
          refine Pv.lit rfl ?_
          refine Pv.lit rfl ?_
          refine Pv.lit rfl ?_
          refine Pv.callV (as := [.ref u, .int (Int32.ofNat 77), .int (Int32.ofNat 0), .int (Int32.ofNat 0)]) (rest := []) rfl rfl rfl (z_addq hs3 (by omega) 77 0 0) (fun r3 G4 q3 => ?_)
          obtain ⟨rfl, hs4, x4⟩ := q3
          refine (show Pv (ab_T (L_X5_readCond xO Z_X9_step Z_X5_addOp)) N1 49 [some (.ref u), some (.ref 3), some (.int w), some (.int (Int32.ofNat k))] [.int 1] G4 Q from ?_)
          refine Pv.if0 rfl (fun _ => ?_) (fun c => absurd c (by decide))
          refine Pv.iinc (y := Int32.ofNat (k + 1)) (lo' := [some (.ref u), some (.ref 3), some (.int w), some (.int (Int32.ofNat (k + 1)))]) rfl rfl (i_add k 1) rfl ?_
          refine Pv.goto rfl ?_
          refine ih (k + 1, G4, (y2.1, y2.2.1, y2.2.2 ++ [(77, 0, 0)])) ⟨by omega, ((hx.tr x2).tr x3).tr x4, hs4, (show 21 ≤ y2.2.1 + (20 - (k + 1)) by omega), g2.2.1, ?_, ?_⟩
          · show (y2.2.2 ++ [(77, 0, 0)]).length + 1 ≤ 2 * y2.2.1
            rw [List.length_append, List.length_singleton]
            omega
          · rw [show 20 - (k + 1) = n by omega]
            exact ep.symm.trans hj
end
-- 63.b9zu.sc.lean.txt
section
theorem ZQ.i {u m : Nat} {K : Nat → TT} {F F' : FW} {r : Option Value} {x : ZR} (q : ZQ u K m F F' r x) : ∃ z : Int32, r = some (.int z) := by
  obtain ⟨-, q⟩ := q
  cases x with
  | inl y => exact ⟨1, q.1⟩
  | inr e => exact ⟨0, q.1⟩
theorem zk_n {x : Int32} {k : Int} (h : x.toInt = k) (h0 : 0 ≤ k) : x = Int32.ofNat k.toNat := i_ofv h h0
theorem zc_shore {F : FW} {u m i o : Nat} {K : Nat → TT} {l : List ZO} (h : ZS F u K m i o l) (hl : l.length < 40) (h80 : 80 ≤ (K i).k) (h84 : (K i).k ≤ 84) : Pm Z_X5_readOnShore [.ref u, .ref 3, .int (Int32.ofNat (K i).k.toNat)] F (fun r F' => ZQ u K m F F' r (z_leaf K i o l)) := by
  refine Pm.of fun N => ?_
  obtain ⟨Q, hQ⟩ : ∃ Q : Option Value → FW → Prop, Q = (fun r F' => ZQ u K m F F' r (z_leaf K i o l)) := ⟨_, rfl⟩
  rw [← hQ]
  refine (show Pv (ab_T (L_X5_readOnShore Z_X9_takeNumber Z_X9_step Z_X5_addOp)) N 0 [some (.ref u), some (.ref 3), some (.int (Int32.ofNat (K i).k.toNat)), none] [] F Q from ?_)
  refine Pv.aload rfl rfl ?_
  refine Pv.lit rfl ?_
  refine Pv.lit rfl ?_
  refine Pv.callV (as := [.ref 3, .int 0, .int 1]) (rest := []) rfl rfl rfl (z_num h (by omega) (by omega) 0 1) (fun r G q => ?_)
  obtain ⟨rfl, x, q1, q2⟩ := q
  replace q1 : tnN (K (i + 1)) 0 1 = 0 → ZS G u K m (i + 1) o l := q1
  replace q2 : ¬ tnN (K (i + 1)) 0 1 = 0 → G.1 3 9 = tnN (K (i + 1)) 0 1 ∧ (G.1 3 6).toInt = (K (i + 1)).pl := q2
  by_cases c : tnN (K (i + 1)) 0 1 = 0
  · have hs1 := q1 c
    have kn := tnN_k c
    have e1 : b2i (decide (tnN (K (i + 1)) (0 : Int32).toInt (1 : Int32).toInt = 0)) = 1 := by rw [decide_eq_true (show tnN (K (i + 1)) (0 : Int32).toInt (1 : Int32).toInt = 0 from c)]; rfl
    rw [e1]
    have e7 : G.1 3 7 = Int32.ofNat (K (i + 1)).v.toNat := i_ofv (hs1.2.1.2.2.2.1.2.2.1 kn.1) kn.2.1
    refine (show Pv (ab_T (L_X5_readOnShore Z_X9_takeNumber Z_X9_step Z_X5_addOp)) N 6 [some (.ref u), some (.ref 3), some (.int (Int32.ofNat (K i).k.toNat)), none] [.int 1] G Q from ?_)
    refine Pv.if0 rfl (fun _ => ?_) (fun c => absurd c (by decide))
    refine Pv.aload rfl rfl ?_
    refine Pv.getI (z := Int32.ofNat (K (i + 1)).v.toNat) rfl rfl e7 ?_
    refine Pv.istore (lo' := [some (.ref u), some (.ref 3), some (.int (Int32.ofNat (K i).k.toNat)), some (.int (Int32.ofNat (K (i + 1)).v.toNat))]) rfl rfl ?_
    refine Pv.aload rfl rfl ?_
    refine Pv.callV (as := [.ref 3]) (rest := []) rfl rfl rfl (z_step hs1 (by rw [kn.1]; decide) (by rw [kn.1]; decide)) (fun r2 G2 p => ?_)
    obtain ⟨rfl, hs2, x2⟩ := p
    refine (show Pv (ab_T (L_X5_readOnShore Z_X9_takeNumber Z_X9_step Z_X5_addOp)) N 20 [some (.ref u), some (.ref 3), some (.int (Int32.ofNat (K i).k.toNat)), some (.int (Int32.ofNat (K (i + 1)).v.toNat))] [] G2 Q from ?_)
    refine Pv.aload rfl rfl ?_
    refine Pv.iload rfl rfl ?_
    refine Pv.iload rfl rfl ?_
    refine Pv.lit rfl ?_
    refine Pv.callV (as := [.ref u, .int (Int32.ofNat (K i).k.toNat), .int (Int32.ofNat (K (i + 1)).v.toNat), .int (Int32.ofNat 0)]) (rest := []) rfl rfl rfl (z_addq hs2 hl _ _ 0) (fun r3 G3 p => ?_)
    obtain ⟨rfl, hs3, x3⟩ := p
    have el : z_leaf K i o l = zy (i + 2) o (l ++ [((K i).k.toNat, (K (i + 1)).v.toNat, 0)]) := (if_pos h84).trans (if_pos c)
    refine (show Pv (ab_T (L_X5_readOnShore Z_X9_takeNumber Z_X9_step Z_X5_addOp)) N 27 [some (.ref u), some (.ref 3), some (.int (Int32.ofNat (K i).k.toNat)), some (.int (Int32.ofNat (K (i + 1)).v.toNat))] [.int 1] G3 Q from ?_)
    exact Pv.zret rfl (by rw [hQ]; exact ⟨(x.tr x2).tr x3, by rw [el]; exact ⟨rfl, hs3⟩⟩)
  · have e1 : b2i (decide (tnN (K (i + 1)) (0 : Int32).toInt (1 : Int32).toInt = 0)) = 0 := by rw [decide_eq_false (show ¬ tnN (K (i + 1)) (0 : Int32).toInt (1 : Int32).toInt = 0 from c)]; rfl
    rw [e1]
    have el : z_leaf K i o l = zn (tnN (K (i + 1)) 0 1) (i + 1) := (if_pos h84).trans (if_neg c)
    refine (show Pv (ab_T (L_X5_readOnShore Z_X9_takeNumber Z_X9_step Z_X5_addOp)) N 6 [some (.ref u), some (.ref 3), some (.int (Int32.ofNat (K i).k.toNat)), none] [.int 0] G Q from ?_)
    refine Pv.if0 rfl (fun c => absurd c (by decide)) (fun _ => ?_)
    refine Pv.lit rfl ?_
    exact Pv.zret rfl (by rw [hQ]; exact ⟨x, by rw [el]; exact ⟨rfl, q2 c⟩⟩)
theorem zc_comp {F : FW} {u m i o : Nat} {K : Nat → TT} {l : List ZO} (h : ZS F u K m i o l) (hl : l.length < 40) (h85 : 85 ≤ (K i).k) : Pm Z_X5_readCompared [.ref u, .ref 3, .int (Int32.ofNat (K i).k.toNat)] F (fun r F' => ZQ u K m F F' r (z_leaf K i o l)) := by
  refine Pm.of fun N => ?_
  obtain ⟨Q, hQ⟩ : ∃ Q : Option Value → FW → Prop, Q = (fun r F' => ZQ u K m F F' r (z_leaf K i o l)) := ⟨_, rfl⟩
  rw [← hQ]
  have h84 : ¬ (K i).k ≤ 84 := by omega
  refine (show Pv (ab_T (L_X5_readCompared Z_X9_step Z_X9_fail Z_X9_takeNumber Z_X5_addOp)) N 0 [some (.ref u), some (.ref 3), some (.int (Int32.ofNat (K i).k.toNat)), none, none] [] F Q from ?_)
  refine Pv.aload rfl rfl ?_
  refine Pv.callV (as := [.ref 3]) (rest := []) rfl rfl rfl (z_step h (by omega) (by omega)) (fun r G p => ?_)
  obtain ⟨rfl, hs1, x⟩ := p
  refine (show Pv (ab_T (L_X5_readCompared Z_X9_step Z_X9_fail Z_X9_takeNumber Z_X5_addOp)) N 4 [some (.ref u), some (.ref 3), some (.int (Int32.ofNat (K i).k.toNat)), none, none] [] G Q from ?_)
  refine Pv.aload rfl rfl ?_
  refine Pv.getI (z := G.1 3 5) rfl rfl rfl ?_
  refine Pv.istore (lo' := [some (.ref u), some (.ref 3), some (.int (Int32.ofNat (K i).k.toNat)), some (.int (G.1 3 5)), none]) rfl rfl ?_
  have bad : ¬ ((K (i + 1)).k = 60 ∨ (K (i + 1)).k = 61 ∨ (K (i + 1)).k = 62) → Pv (ab_T (L_X5_readCompared Z_X9_step Z_X9_fail Z_X9_takeNumber Z_X5_addOp)) N 27 [some (.ref u), some (.ref 3), some (.int (Int32.ofNat (K i).k.toNat)), some (.int (G.1 3 5)), none] [] G Q := fun cb => by
    refine Pv.aload rfl rfl ?_
    refine Pv.lit rfl ?_
    refine Pv.callV (as := [.ref 3, .int 1]) (rest := []) rfl rfl rfl (c_fail (c := 1)) (fun r2 G2 p => ?_)
    obtain ⟨rfl, e2⟩ := p
    have el : z_leaf K i o l = zn 1 (i + 1) := (if_neg h84).trans (if_neg cb)
    refine (show Pv (ab_T (L_X5_readCompared Z_X9_step Z_X9_fail Z_X9_takeNumber Z_X5_addOp)) N 32 [some (.ref u), some (.ref 3), some (.int (Int32.ofNat (K i).k.toNat)), some (.int (G.1 3 5)), none] [.int 0] G2 Q from ?_)
    exact Pv.zret rfl (by rw [hQ, el]; exact (z_bad hs1 e2).tr x)
  have good : ((K (i + 1)).k = 60 ∨ (K (i + 1)).k = 61 ∨ (K (i + 1)).k = 62) → Pv (ab_T (L_X5_readCompared Z_X9_step Z_X9_fail Z_X9_takeNumber Z_X5_addOp)) N 33 [some (.ref u), some (.ref 3), some (.int (Int32.ofNat (K i).k.toNat)), some (.int (G.1 3 5)), none] [] G Q := fun cg => by
    have es : G.1 3 5 = (Int32.ofNat (K (i + 1)).k.toNat) := zk_n hs1.k (by omega)
    rw [es]
    refine Pv.aload rfl rfl ?_
    refine Pv.lit rfl ?_
    refine Pv.lit rfl ?_
    refine Pv.callV (as := [.ref 3, .int 0, .int 999]) (rest := []) rfl rfl rfl (z_num hs1 (by omega) (by omega) 0 999) (fun r2 G2 q => ?_)
    obtain ⟨rfl, x2, q1, q2⟩ := q
    have e999 : (999 : Int32).toInt = 999 := rfl
    have e0 : (0 : Int32).toInt = 0 := rfl
    rw [e0, e999] at q1 q2 ⊢
    have hv := (hs1.2.1.1.v (hs1.up (by omega) (by omega))).1
    by_cases c : (K (i + 2)).k = 3
    · have cz : tnN (K (i + 1 + 1)) 0 999 = 0 := by
        unfold tnN
        rw [if_pos (show (K (i + 1 + 1)).k = 3 from c), if_neg (by have := hv c; show ¬ ((K (i + 1 + 1)).v < 0 ∨ 999 < (K (i + 1 + 1)).v); omega)]
      have hs2 := q1 cz
      have e7 : G2.1 3 7 = Int32.ofNat (K (i + 2)).v.toNat := i_ofv (hs2.2.1.2.2.2.1.2.2.1 c) (hv c).1
      rw [decide_eq_true cz]
      refine (show Pv (ab_T (L_X5_readCompared Z_X9_step Z_X9_fail Z_X9_takeNumber Z_X5_addOp)) N 41 [some (.ref u), some (.ref 3), some (.int (Int32.ofNat (K i).k.toNat)), some (.int (Int32.ofNat (K (i + 1)).k.toNat)), none] [.int 1] G2 Q from ?_)
      refine Pv.if0 rfl (fun _ => ?_) (fun c => absurd c (by decide))
      refine Pv.aload rfl rfl ?_
      refine Pv.getI (z := Int32.ofNat (K (i + 2)).v.toNat) rfl rfl e7 ?_
      refine Pv.istore (lo' := [some (.ref u), some (.ref 3), some (.int (Int32.ofNat (K i).k.toNat)), some (.int (Int32.ofNat (K (i + 1)).k.toNat)), some (.int (Int32.ofNat (K (i + 2)).v.toNat))]) rfl rfl ?_
      refine Pv.aload rfl rfl ?_
      refine Pv.callV (as := [.ref 3]) (rest := []) rfl rfl rfl (z_step hs2 (by show (K (i + 2)).k ≠ 0; omega) (by show (K (i + 2)).k ≠ 1; omega)) (fun r3 G3 p => ?_)
      obtain ⟨rfl, hs3, x3⟩ := p
      refine (show Pv (ab_T (L_X5_readCompared Z_X9_step Z_X9_fail Z_X9_takeNumber Z_X5_addOp)) N 56 [some (.ref u), some (.ref 3), some (.int (Int32.ofNat (K i).k.toNat)), some (.int (Int32.ofNat (K (i + 1)).k.toNat)), some (.int (Int32.ofNat (K (i + 2)).v.toNat))] [] G3 Q from ?_)
      refine Pv.aload rfl rfl ?_
      refine Pv.iload rfl rfl ?_
      refine Pv.iload rfl rfl ?_
      refine Pv.iload rfl rfl ?_
      refine Pv.callV (as := [.ref u, .int (Int32.ofNat (K i).k.toNat), .int (Int32.ofNat (K (i + 1)).k.toNat), .int (Int32.ofNat (K (i + 2)).v.toNat)]) (rest := []) rfl rfl rfl (z_addq hs3 hl _ _ _) (fun r4 G4 p => ?_)
      obtain ⟨rfl, hs4, x4⟩ := p
      have el : z_leaf K i o l = zy (i + 3) o (l ++ [((K i).k.toNat, (K (i + 1)).k.toNat, (K (i + 2)).v.toNat)]) := ((if_neg h84).trans (if_pos cg)).trans (if_pos c)
      refine (show Pv (ab_T (L_X5_readCompared Z_X9_step Z_X9_fail Z_X9_takeNumber Z_X5_addOp)) N 64 [some (.ref u), some (.ref 3), some (.int (Int32.ofNat (K i).k.toNat)), some (.int (Int32.ofNat (K (i + 1)).k.toNat)), some (.int (Int32.ofNat (K (i + 2)).v.toNat))] [.int 1] G4 Q from ?_)
      exact Pv.zret rfl (by rw [hQ]; exact ⟨((x.tr x2).tr x3).tr x4, by rw [el]; exact ⟨rfl, hs4⟩⟩)
    · have cz : tnN (K (i + 1 + 1)) 0 999 = 1 := if_neg (show ¬ (K (i + 1 + 1)).k = 3 from c)
      have cn : ¬ tnN (K (i + 1 + 1)) 0 999 = 0 := by rw [cz]; decide
      have q3 := q2 cn
      rw [cz] at q3
      rw [decide_eq_false cn]
      have el : z_leaf K i o l = zn 1 (i + 2) := ((if_neg h84).trans (if_pos cg)).trans (if_neg c)
      refine (show Pv (ab_T (L_X5_readCompared Z_X9_step Z_X9_fail Z_X9_takeNumber Z_X5_addOp)) N 41 [some (.ref u), some (.ref 3), some (.int (Int32.ofNat (K i).k.toNat)), some (.int (Int32.ofNat (K (i + 1)).k.toNat)), none] [.int 0] G2 Q from ?_)
      refine Pv.if0 rfl (fun c => absurd c (by decide)) (fun _ => ?_)
      refine Pv.lit rfl ?_
      exact Pv.zret rfl (by rw [hQ]; exact ⟨x.tr x2, by rw [el]; exact ⟨rfl, q3⟩⟩)
  have e60 : (60 : Int32).toInt = 60 := rfl
  have e61 : (61 : Int32).toInt = 61 := rfl
  have e62 : (62 : Int32).toInt = 62 := rfl
  refine Pv.iload rfl rfl ?_
  refine Pv.lit rfl ?_
  refine Pv.icmp rfl (fun c1 => ?_) (fun c1 => ?_)
  · have q := of_decide_eq_true c1
    exact good (Or.inl (hs1.k.symm.trans ((congrArg Int32.toInt q).trans e60)))
  have n1 : ¬ (K (i + 1)).k = 60 := fun e => of_decide_eq_false c1 (Int32.toInt_inj.mp (hs1.k.trans (e.trans e60.symm)))
  refine Pv.iload rfl rfl ?_
  refine Pv.lit rfl ?_
  refine Pv.icmp rfl (fun c2 => ?_) (fun c2 => ?_)
  · have q := of_decide_eq_true c2
    exact good (Or.inr (Or.inl (hs1.k.symm.trans ((congrArg Int32.toInt q).trans e61))))
  have n2 : ¬ (K (i + 1)).k = 61 := fun e => of_decide_eq_false c2 (Int32.toInt_inj.mp (hs1.k.trans (e.trans e61.symm)))
  refine Pv.iload rfl rfl ?_
  refine Pv.lit rfl ?_
  refine Pv.icmp rfl (fun c3 => ?_) (fun c3 => ?_)
  · have q := of_decide_eq_true c3
    exact good (Or.inr (Or.inr (hs1.k.symm.trans ((congrArg Int32.toInt q).trans e62))))
  have n3 : ¬ (K (i + 1)).k = 62 := fun e => of_decide_eq_false c3 (Int32.toInt_inj.mp (hs1.k.trans (e.trans e62.symm)))
  exact bad (by omega)
/-- a reader of what stands in brackets -/
def ZRB (X : List Value → ab_H → Option ab_O) (u : Nat) (K : Nat → TT) (m : Nat) (w : Int32) (d : Nat) : Prop := ∀ (F : FW) (i o : Nat) (l : List ZO), (K i).k = 40 → ZS F u K m i o l → o ≤ 20 → l.length ≤ 2 * o → Pm X [.ref u, .ref 3, .int w] F (fun r F' => ZQ u K m F F' r (z_close K (z_cond K (z_one K d) (i + 1) o l)))
theorem zc_brack {xC : List Value → ab_H → Option ab_O} {u m n d : Nat} {K : Nat → TT} (hf : ZRD xC u K m (Int32.ofNat (n + 1)) (z_cond K (z_one K d))) : ZRB (ab_X (ab_T (L_X5_readBracket Z_X9_step xC Z_X9_fail)) 3) u K m (Int32.ofNat n) d := fun F i o l h40 h ho hl => by
  refine Pm.of fun N => ?_
  obtain ⟨Q, hQ⟩ : ∃ Q : Option Value → FW → Prop, Q = (fun r F' => ZQ u K m F F' r (z_close K (z_cond K (z_one K d) (i + 1) o l))) := ⟨_, rfl⟩
  rw [← hQ]
  refine (show Pv (ab_T (L_X5_readBracket Z_X9_step xC Z_X9_fail)) N 0 [some (.ref u), some (.ref 3), some (.int (Int32.ofNat n))] [] F Q from ?_)
  refine Pv.aload rfl rfl ?_
  refine Pv.callV (as := [.ref 3]) (rest := []) rfl rfl rfl (z_step h (by omega) (by omega)) (fun r G p => ?_)
  obtain ⟨rfl, hs1, x⟩ := p
  refine (show Pv (ab_T (L_X5_readBracket Z_X9_step xC Z_X9_fail)) N 4 [some (.ref u), some (.ref 3), some (.int (Int32.ofNat n))] [] G Q from ?_)
  refine Pv.aload rfl rfl ?_
  refine Pv.aload rfl rfl ?_
  refine Pv.iload rfl rfl ?_
  refine Pv.lit rfl ?_
  refine Pv.bin (z := Int32.ofNat (n + 1)) rfl (i_add n 1) ?_
  refine Pv.callV (as := [.ref u, .ref 3, .int (Int32.ofNat (n + 1))]) (rest := []) rfl rfl rfl (hf G (i + 1) o l hs1 ho hl) (fun r2 G2 q => ?_)
  obtain ⟨x2, q⟩ := q
  cases ef : z_cond K (z_one K d) (i + 1) o l with
  | inr e =>
    rw [ef] at q
    obtain ⟨rfl, q1, q2⟩ := q
    refine (show Pv (ab_T (L_X5_readBracket Z_X9_step xC Z_X9_fail)) N 12 [some (.ref u), some (.ref 3), some (.int (Int32.ofNat n))] [.int 0] G2 Q from ?_)
    refine Pv.if0 rfl (fun c => absurd c (by decide)) (fun _ => ?_)
    refine Pv.lit rfl ?_
    exact Pv.zret rfl (by rw [hQ]; exact ⟨x.tr x2, by rw [ef]; exact ⟨rfl, q1, q2⟩⟩)
  | inl y =>
    rw [ef] at q
    obtain ⟨rfl, hs2⟩ := q
    refine (show Pv (ab_T (L_X5_readBracket Z_X9_step xC Z_X9_fail)) N 12 [some (.ref u), some (.ref 3), some (.int (Int32.ofNat n))] [.int 1] G2 Q from ?_)
    refine Pv.if0 rfl (fun _ => ?_) (fun c => absurd c (by decide))
    refine Pv.aload rfl rfl ?_
    refine Pv.getI (z := G2.1 3 5) rfl rfl rfl ?_
    refine Pv.lit rfl ?_
    refine Pv.icmp rfl (fun c1 => ?_) (fun c1 => ?_)
    · have ck : (K y.1).k = 41 := hs2.k.symm.trans (congrArg Int32.toInt (of_decide_eq_true c1))
      have ec : z_close K (.inl y) = zy (y.1 + 1) y.2.1 y.2.2 := if_pos ck
      refine Pv.aload rfl rfl ?_
      refine Pv.callV (as := [.ref 3]) (rest := []) rfl rfl rfl (z_step hs2 (by omega) (by omega)) (fun r3 G3 p => ?_)
      obtain ⟨rfl, hs3, x3⟩ := p
      refine (show Pv (ab_T (L_X5_readBracket Z_X9_step xC Z_X9_fail)) N 36 [some (.ref u), some (.ref 3), some (.int (Int32.ofNat n))] [] G3 Q from ?_)
      refine Pv.lit rfl ?_
      exact Pv.zret rfl (by rw [hQ]; exact ⟨(x.tr x2).tr x3, by rw [ef, ec]; exact ⟨rfl, hs3⟩⟩)
    · have ck : ¬ (K y.1).k = 41 := fun e => of_decide_eq_false c1 (Int32.toInt_inj.mp (hs2.k.trans e))
      have ec : z_close K (.inl y) = zn 1 y.1 := if_neg ck
      refine Pv.aload rfl rfl ?_
      refine Pv.lit rfl ?_
      refine Pv.callV (as := [.ref 3, .int 1]) (rest := []) rfl rfl rfl (c_fail (c := 1)) (fun r3 G3 p => ?_)
      obtain ⟨rfl, e3⟩ := p
      refine (show Pv (ab_T (L_X5_readBracket Z_X9_step xC Z_X9_fail)) N 31 [some (.ref u), some (.ref 3), some (.int (Int32.ofNat n))] [.int 0] G3 Q from ?_)
      exact Pv.zret rfl (by rw [hQ, ef, ec]; exact (z_bad hs2 e3).tr (x.tr x2))
theorem zc_one {xB xO : List Value → ab_H → Option ab_O} {u m n d : Nat} {K : Nat → TT} (hn : n + d = 8) (hB : ZRB xB u K m (Int32.ofNat n) d) (hO : ZRD xO u K m (Int32.ofNat (n + 1)) (z_one K d)) : ZRD (ab_X (ab_T (L_X5_readOne Z_X9_fail xB Z_X9_step xO Z_X5_addOp Z_X5_readOnShore Z_X5_readCompared)) 6) u K m (Int32.ofNat n) (z_one K (d + 1)) := fun F i o l h ho hl => by
  refine Pm.of fun N => ?_
  obtain ⟨Q, hQ⟩ : ∃ Q : Option Value → FW → Prop, Q = (fun r F' => ZQ u K m F F' r (z_one K (d + 1) i o l)) := ⟨_, rfl⟩
  rw [← hQ]
  have e40 : (40 : Int32).toInt = 40 := rfl
  have e79 : (79 : Int32).toInt = 79 := rfl
  have e88 : (88 : Int32).toInt = 88 := rfl
  have e84 : (84 : Int32).toInt = 84 := rfl
  have hk := h.k
  have many : z_is K i → (20 ≤ o ∨ 9 ≤ n) → ∀ b : Int32, Pv (ab_T (L_X5_readOne Z_X9_fail xB Z_X9_step xO Z_X5_addOp Z_X5_readOnShore Z_X5_readCompared)) N 70 [some (.ref u), some (.ref 3), some (.int (Int32.ofNat n)), some (.int b), some (.int 1), none] [] F Q := fun ci cm b => by
    have ez : z_one K (d + 1) i o l = zn 4 i := by
      show (if z_is K i then (if 20 ≤ o then _ else _) else _) = _
      rw [if_pos ci, if_pos (show 20 ≤ o by omega)]
    refine Pv.aload rfl rfl ?_
    refine Pv.lit rfl ?_
    refine Pv.callV (as := [.ref 3, .int 4]) (rest := []) rfl rfl rfl (c_fail (c := 4)) (fun r2 G2 p => ?_)
    obtain ⟨rfl, e2⟩ := p
    refine (show Pv (ab_T (L_X5_readOne Z_X9_fail xB Z_X9_step xO Z_X5_addOp Z_X5_readOnShore Z_X5_readCompared)) N 75 [some (.ref u), some (.ref 3), some (.int (Int32.ofNat n)), some (.int b), some (.int 1), none] [.int 0] G2 Q from ?_)
    exact Pv.zret rfl (by rw [hQ, ez]; exact z_bad h e2)
  have go : z_is K i → ∀ b : Int32, ((b = 1 ∧ (K i).k = 40) ∨ (b = 0 ∧ ¬ (K i).k = 40)) → Pv (ab_T (L_X5_readOne Z_X9_fail xB Z_X9_step xO Z_X5_addOp Z_X5_readOnShore Z_X5_readCompared)) N 55 [some (.ref u), some (.ref 3), some (.int (Int32.ofNat n)), some (.int b), some (.int 1), none] [] F Q := fun ci b hb => by
    refine Pv.aload rfl rfl ?_
    refine Pv.getI (z := Int32.ofNat o) rfl rfl h.2.2.1.2.2.1 ?_
    refine Pv.lit rfl ?_
    refine Pv.icmp rfl (fun c1 => ?_) (fun c1 => ?_)
    · exact many ci (Or.inl ((i_le (a := 20) (b := o) (by omega) (by omega)).mp (of_decide_eq_true c1))) b
    replace c1 := mt (i_le (a := 20) (b := o) (by omega) (by omega)).mpr (of_decide_eq_false c1)
    refine Pv.iload rfl rfl ?_
    refine Pv.lit rfl ?_
    refine Pv.icmp rfl (fun c2 => ?_) (fun c2 => ?_)
    · have ez : z_one K (d + 1) i o l = (if (K i).k = 40 then z_close K (z_cond K (z_one K d) (i + 1) (o + 1) l) else if (K i).k = 79 then z_op 79 (z_one K d (i + 1) (o + 1) l) else z_leaf K i (o + 1) l) := by
        show (if z_is K i then (if 20 ≤ o then _ else _) else _) = _
        rw [if_pos ci, if_neg c1]
      refine Pv.aload rfl rfl ?_
      refine Pv.dup rfl ?_
      refine Pv.getI (z := Int32.ofNat o) rfl rfl h.2.2.1.2.2.1 ?_
      refine Pv.lit rfl ?_
      refine Pv.bin (z := Int32.ofNat (o + 1)) rfl (i_add o 1) ?_
      refine Pv.putI rfl rfl ?_
      have x0 : FX (fun q => u ≤ q ∧ q ≤ u + 3) F (fp F u 4 (Int32.ofNat (o + 1))) := FX.fp FX.rf (show u ≤ u ∧ u ≤ u + 3 by omega)
      have hs : ZS (fp F u 4 (Int32.ofNat (o + 1))) u K m i (o + 1) l := ⟨h.1.fx x0, h.2.1.fx x0 h.2.2.2, ⟨FX.O3 x0 h.2.2.1.1, (fp_ne (Or.inr (by decide))).trans h.2.2.1.2.1, fp_eq, fun j y hj => ⟨(fp_ne (Or.inl (by omega))).trans (h.2.2.1.2.2.2 j y hj).1, (fp_ne (Or.inl (by omega))).trans (h.2.2.1.2.2.2 j y hj).2.1, (fp_ne (Or.inl (by omega))).trans (h.2.2.1.2.2.2 j y hj).2.2⟩⟩, h.2.2.2⟩
      have x1 : FSX u F (fp F u 4 (Int32.ofNat (o + 1))) := FSX.ou x0
      obtain ⟨F2, hF2⟩ : ∃ F2 : FW, F2 = fp F u 4 (Int32.ofNat (o + 1)) := ⟨_, rfl⟩
      rw [← hF2] at hs x1 ⊢
      refine (show Pv (ab_T (L_X5_readOne Z_X9_fail xB Z_X9_step xO Z_X5_addOp Z_X5_readOnShore Z_X5_readCompared)) N 86 [some (.ref u), some (.ref 3), some (.int (Int32.ofNat n)), some (.int b), some (.int 1), none] [] F2 Q from ?_)
      refine Pv.iload rfl rfl ?_
      rcases hb with ⟨rfl, k40⟩ | ⟨rfl, k40⟩
      · refine Pv.if0 rfl (fun c => absurd c (by decide)) (fun _ => ?_)
        refine Pv.aload rfl rfl ?_
        refine Pv.aload rfl rfl ?_
        refine Pv.iload rfl rfl ?_
        refine Pv.callV (as := [.ref u, .ref 3, .int (Int32.ofNat n)]) (rest := []) rfl rfl rfl (hB F2 i (o + 1) l k40 hs (by omega) (by omega)) (fun r G q => ?_)
        obtain ⟨z, rfl⟩ := q.i
        rw [if_pos k40] at ez
        refine (show Pv (ab_T (L_X5_readOne Z_X9_fail xB Z_X9_step xO Z_X5_addOp Z_X5_readOnShore Z_X5_readCompared)) N 96 [some (.ref u), some (.ref 3), some (.int (Int32.ofNat n)), some (.int 1), some (.int 1), none] [.int z] G Q from ?_)
        exact Pv.zret rfl (by rw [hQ, ez]; exact q.tr x1)
      · rw [if_neg k40] at ez
        have ek : F2.1 3 5 = Int32.ofNat (K i).k.toNat := zk_n hs.k (by omega)
        refine Pv.if0 rfl (fun _ => ?_) (fun c => absurd c (by decide))
        refine Pv.aload rfl rfl ?_
        refine Pv.getI (z := Int32.ofNat (K i).k.toNat) rfl rfl ek ?_
        refine Pv.istore (lo' := [some (.ref u), some (.ref 3), some (.int (Int32.ofNat n)), some (.int 0), some (.int 1), some (.int (Int32.ofNat (K i).k.toNat))]) rfl rfl ?_
        refine Pv.iload rfl rfl ?_
        refine Pv.lit rfl ?_
        refine Pv.icmp rfl (fun c3 => ?_) (fun c3 => ?_)
        · have k79 : ¬ (K i).k = 79 := fun e => by
            rw [e] at c3
            exact absurd c3 (by decide)
          rw [if_neg k79] at ez
          refine Pv.iload rfl rfl ?_
          refine Pv.lit rfl ?_
          refine Pv.icmp rfl (fun c4 => ?_) (fun c4 => ?_)
          · have q4 := (i_lt (a := 84) (b := (K i).k.toNat) (by omega) (by omega)).mp (of_decide_eq_true c4)
            refine Pv.aload rfl rfl ?_
            refine Pv.aload rfl rfl ?_
            refine Pv.iload rfl rfl ?_
            refine Pv.callV (as := [.ref u, .ref 3, .int (Int32.ofNat (K i).k.toNat)]) (rest := []) rfl rfl rfl (zc_comp hs (by omega) (by omega)) (fun r G q => ?_)
            obtain ⟨z, rfl⟩ := q.i
            refine (show Pv (ab_T (L_X5_readOne Z_X9_fail xB Z_X9_step xO Z_X5_addOp Z_X5_readOnShore Z_X5_readCompared)) N 166 [some (.ref u), some (.ref 3), some (.int (Int32.ofNat n)), some (.int 0), some (.int 1), some (.int (Int32.ofNat (K i).k.toNat))] [.int z] G Q from ?_)
            exact Pv.zret rfl (by rw [hQ, ez]; exact q.tr x1)
          · have q4 := mt (i_lt (a := 84) (b := (K i).k.toNat) (by omega) (by omega)).mpr (of_decide_eq_false c4)
            refine Pv.aload rfl rfl ?_
            refine Pv.aload rfl rfl ?_
            refine Pv.iload rfl rfl ?_
            refine Pv.callV (as := [.ref u, .ref 3, .int (Int32.ofNat (K i).k.toNat)]) (rest := []) rfl rfl rfl (zc_shore hs (by omega) (by omega) (by omega)) (fun r G q => ?_)
            obtain ⟨z, rfl⟩ := q.i
            refine (show Pv (ab_T (L_X5_readOne Z_X9_fail xB Z_X9_step xO Z_X5_addOp Z_X5_readOnShore Z_X5_readCompared)) N 156 [some (.ref u), some (.ref 3), some (.int (Int32.ofNat n)), some (.int 0), some (.int 1), some (.int (Int32.ofNat (K i).k.toNat))] [.int z] G Q from ?_)
            refine Pv.goto rfl ?_
            exact Pv.zret rfl (by rw [hQ, ez]; exact q.tr x1)
        · replace c3 : decide (Int32.ofNat (K i).k.toNat = 79) = true := by simpa using c3
          have q3 := (i_eq (a := (K i).k.toNat) (b := 79) (by omega) (by omega)).mp (of_decide_eq_true c3)
          have k79 : (K i).k = 79 := by omega
          rw [if_pos k79] at ez
          refine Pv.aload rfl rfl ?_
          refine Pv.callV (as := [.ref 3]) (rest := []) rfl rfl rfl (z_step hs (by omega) (by omega)) (fun r G p => ?_)
          obtain ⟨rfl, hs1, x2⟩ := p
          refine (show Pv (ab_T (L_X5_readOne Z_X9_fail xB Z_X9_step xO Z_X5_addOp Z_X5_readOnShore Z_X5_readCompared)) N 114 [some (.ref u), some (.ref 3), some (.int (Int32.ofNat n)), some (.int 0), some (.int 1), some (.int (Int32.ofNat (K i).k.toNat))] [] G Q from ?_)
          refine Pv.aload rfl rfl ?_
          refine Pv.aload rfl rfl ?_
          refine Pv.iload rfl rfl ?_
          refine Pv.lit rfl ?_
          refine Pv.bin (z := Int32.ofNat (n + 1)) rfl (i_add n 1) ?_
          refine Pv.callV (as := [.ref u, .ref 3, .int (Int32.ofNat (n + 1))]) (rest := []) rfl rfl rfl (hO G (i + 1) (o + 1) l hs1 (by omega) (by omega)) (fun r2 G2 q => ?_)
          obtain ⟨x3, q⟩ := q
          cases ef : z_one K d (i + 1) (o + 1) l with
          | inr e =>
            rw [ef] at q ez
            obtain ⟨rfl, q1, q2⟩ := q
            refine (show Pv (ab_T (L_X5_readOne Z_X9_fail xB Z_X9_step xO Z_X5_addOp Z_X5_readOnShore Z_X5_readCompared)) N 122 [some (.ref u), some (.ref 3), some (.int (Int32.ofNat n)), some (.int 0), some (.int 1), some (.int (Int32.ofNat (K i).k.toNat))] [.int 0] G2 Q from ?_)
            refine Pv.if0 rfl (fun _ => ?_) (fun c => absurd c (by decide))
            refine Pv.lit rfl ?_
            exact Pv.zret rfl (by rw [hQ]; exact ⟨(x1.tr x2).tr x3, by rw [ez]; exact ⟨rfl, q1, q2⟩⟩)
          | inl y =>
            rw [ef] at q ez
            obtain ⟨rfl, hs2⟩ := q
            have g2 := zg_one (K := K) d _ _ _ _ (by omega) ef
            refine (show Pv (ab_T (L_X5_readOne Z_X9_fail xB Z_X9_step xO Z_X5_addOp Z_X5_readOnShore Z_X5_readCompared)) N 122 [some (.ref u), some (.ref 3), some (.int (Int32.ofNat n)), some (.int 0), some (.int 1), some (.int (Int32.ofNat (K i).k.toNat))] [.int 1] G2 Q from ?_)
            refine Pv.if0 rfl (fun c => absurd c (by decide)) (fun _ => ?_)
            refine Pv.aload rfl rfl ?_
            refine Pv.lit rfl ?_
            refine Pv.lit rfl ?_
            refine Pv.lit rfl ?_
            refine Pv.callV (as := [.ref u, .int (Int32.ofNat 79), .int (Int32.ofNat 0), .int (Int32.ofNat 0)]) (rest := []) rfl rfl rfl (z_addq hs2 (by omega) 79 0 0) (fun r3 G3 p => ?_)
            obtain ⟨rfl, hs3, x4⟩ := p
            refine (show Pv (ab_T (L_X5_readOne Z_X9_fail xB Z_X9_step xO Z_X5_addOp Z_X5_readOnShore Z_X5_readCompared)) N 133 [some (.ref u), some (.ref 3), some (.int (Int32.ofNat n)), some (.int 0), some (.int 1), some (.int (Int32.ofNat (K i).k.toNat))] [.int 1] G3 Q from ?_)
            refine Pv.if0 rfl (fun c => absurd c (by decide)) (fun _ => ?_)
            refine Pv.lit rfl ?_
            refine Pv.goto rfl ?_
            exact Pv.zret rfl (by rw [hQ]; exact ⟨((x1.tr x2).tr x3).tr x4, by rw [ez]; exact ⟨rfl, hs3⟩⟩)
    · have q := mt (i_le (a := n) (b := 8) (by omega) (by omega)).mpr (of_decide_eq_false c2)
      omega
  have no : ¬ z_is K i → Pv (ab_T (L_X5_readOne Z_X9_fail xB Z_X9_step xO Z_X5_addOp Z_X5_readOnShore Z_X5_readCompared)) N 44 [some (.ref u), some (.ref 3), some (.int (Int32.ofNat n)), some (.int 0), some (.int 0), none] [] F Q := fun ci => by
    have ez : z_one K (d + 1) i o l = zn 1 i := by
      show (if z_is K i then _ else _) = _
      rw [if_neg ci]
    refine Pv.iload rfl rfl ?_
    refine Pv.if0 rfl (fun c => absurd c (by decide)) (fun _ => ?_)
    refine Pv.aload rfl rfl ?_
    refine Pv.lit rfl ?_
    refine Pv.callV (as := [.ref 3, .int 1]) (rest := []) rfl rfl rfl (c_fail (c := 1)) (fun r2 G2 p => ?_)
    obtain ⟨rfl, e2⟩ := p
    refine (show Pv (ab_T (L_X5_readOne Z_X9_fail xB Z_X9_step xO Z_X5_addOp Z_X5_readOnShore Z_X5_readCompared)) N 54 [some (.ref u), some (.ref 3), some (.int (Int32.ofNat n)), some (.int 0), some (.int 0), none] [.int 0] G2 Q from ?_)
    exact Pv.zret rfl (by rw [hQ, ez]; exact z_bad h e2)
  refine (show Pv (ab_T (L_X5_readOne Z_X9_fail xB Z_X9_step xO Z_X5_addOp Z_X5_readOnShore Z_X5_readCompared)) N 0 [some (.ref u), some (.ref 3), some (.int (Int32.ofNat n)), none, none, none] [] F Q from ?_)
  refine Pv.aload rfl rfl ?_
  refine Pv.getI (z := F.1 3 5) rfl rfl rfl ?_
  refine Pv.lit rfl ?_
  refine Pv.icmp rfl (fun c1 => ?_) (fun c1 => ?_)
  · replace c1 : decide (F.1 3 5 = 40) = false := by simpa using c1
    have k40 : ¬ (K i).k = 40 := fun e => of_decide_eq_false c1 (Int32.toInt_inj.mp (hk.trans (e.trans e40.symm)))
    refine Pv.lit rfl ?_
    refine Pv.istore (lo' := [some (.ref u), some (.ref 3), some (.int (Int32.ofNat n)), some (.int 0), none, none]) rfl rfl ?_
    refine Pv.iload rfl rfl ?_
    refine Pv.if0 rfl (fun c => absurd c (by decide)) (fun _ => ?_)
    refine Pv.aload rfl rfl ?_
    refine Pv.getI (z := F.1 3 5) rfl rfl rfl ?_
    refine Pv.lit rfl ?_
    refine Pv.icmp rfl (fun c2 => ?_) (fun c2 => ?_)
    · have q2 := Int32.lt_iff_toInt_lt.mp (of_decide_eq_true c2)
      rw [hk, e79] at q2
      refine Pv.lit rfl ?_
      refine Pv.istore (lo' := [some (.ref u), some (.ref 3), some (.int (Int32.ofNat n)), some (.int 0), some (.int 0), none]) rfl rfl ?_
      exact no (by omega)
    · have q2 := mt Int32.lt_iff_toInt_lt.mpr (of_decide_eq_false c2)
      rw [hk, e79] at q2
      refine Pv.aload rfl rfl ?_
      refine Pv.getI (z := F.1 3 5) rfl rfl rfl ?_
      refine Pv.lit rfl ?_
      refine Pv.icmp rfl (fun c3 => ?_) (fun c3 => ?_)
      · have q3 := Int32.lt_iff_toInt_lt.mp (of_decide_eq_true c3)
        rw [hk, e88] at q3
        refine Pv.lit rfl ?_
        refine Pv.istore (lo' := [some (.ref u), some (.ref 3), some (.int (Int32.ofNat n)), some (.int 0), some (.int 0), none]) rfl rfl ?_
        exact no (by omega)
      · have q3 := mt Int32.lt_iff_toInt_lt.mpr (of_decide_eq_false c3)
        rw [hk, e88] at q3
        refine Pv.lit rfl ?_
        refine Pv.goto rfl ?_
        refine Pv.istore (lo' := [some (.ref u), some (.ref 3), some (.int (Int32.ofNat n)), some (.int 0), some (.int 1), none]) rfl rfl ?_
        refine Pv.iload rfl rfl ?_
        refine Pv.if0 rfl (fun _ => ?_) (fun c => absurd c (by decide))
        exact go (by omega) 0 (Or.inr ⟨rfl, k40⟩)
  · replace c1 : decide (F.1 3 5 = 40) = true := by simpa using c1
    have k40 : (K i).k = 40 := hk.symm.trans ((congrArg Int32.toInt (of_decide_eq_true c1)).trans e40)
    refine Pv.lit rfl ?_
    refine Pv.goto rfl ?_
    refine Pv.istore (lo' := [some (.ref u), some (.ref 3), some (.int (Int32.ofNat n)), some (.int 1), none, none]) rfl rfl ?_
    refine Pv.iload rfl rfl ?_
    refine Pv.if0 rfl (fun _ => ?_) (fun c => absurd c (by decide))
    refine Pv.lit rfl ?_
    refine Pv.goto rfl ?_
    refine Pv.istore (lo' := [some (.ref u), some (.ref 3), some (.int (Int32.ofNat n)), some (.int 1), some (.int 1), none]) rfl rfl ?_
    refine Pv.iload rfl rfl ?_
    refine Pv.if0 rfl (fun _ => ?_) (fun c => absurd c (by decide))
    exact go (Or.inl k40) 1 (Or.inl ⟨rfl, k40⟩)
theorem zc_one9 {xB xO : List Value → ab_H → Option ab_O} {u m n : Nat} {K : Nat → TT} (hn : n = 9) : ZRD (ab_X (ab_T (L_X5_readOne Z_X9_fail xB Z_X9_step xO Z_X5_addOp Z_X5_readOnShore Z_X5_readCompared)) 6) u K m (Int32.ofNat n) (z_one K 0) := fun F i o l h ho hl => by
  refine Pm.of fun N => ?_
  obtain ⟨Q, hQ⟩ : ∃ Q : Option Value → FW → Prop, Q = (fun r F' => ZQ u K m F F' r (z_one K 0 i o l)) := ⟨_, rfl⟩
  rw [← hQ]
  have e40 : (40 : Int32).toInt = 40 := rfl
  have e79 : (79 : Int32).toInt = 79 := rfl
  have e88 : (88 : Int32).toInt = 88 := rfl
  have e84 : (84 : Int32).toInt = 84 := rfl
  have hk := h.k
  have many : z_is K i → (20 ≤ o ∨ 9 ≤ n) → ∀ b : Int32, Pv (ab_T (L_X5_readOne Z_X9_fail xB Z_X9_step xO Z_X5_addOp Z_X5_readOnShore Z_X5_readCompared)) N 70 [some (.ref u), some (.ref 3), some (.int (Int32.ofNat n)), some (.int b), some (.int 1), none] [] F Q := fun ci cm b => by
    have ez : z_one K 0 i o l = zn 4 i := by
      show (if z_is K i then zn 4 i else zn 1 i) = _
      rw [if_pos ci]
    refine Pv.aload rfl rfl ?_
    refine Pv.lit rfl ?_
    refine Pv.callV (as := [.ref 3, .int 4]) (rest := []) rfl rfl rfl (c_fail (c := 4)) (fun r2 G2 p => ?_)
    obtain ⟨rfl, e2⟩ := p
    refine (show Pv (ab_T (L_X5_readOne Z_X9_fail xB Z_X9_step xO Z_X5_addOp Z_X5_readOnShore Z_X5_readCompared)) N 75 [some (.ref u), some (.ref 3), some (.int (Int32.ofNat n)), some (.int b), some (.int 1), none] [.int 0] G2 Q from ?_)
    exact Pv.zret rfl (by rw [hQ, ez]; exact z_bad h e2)
  have go : z_is K i → ∀ b : Int32, ((b = 1 ∧ (K i).k = 40) ∨ (b = 0 ∧ ¬ (K i).k = 40)) → Pv (ab_T (L_X5_readOne Z_X9_fail xB Z_X9_step xO Z_X5_addOp Z_X5_readOnShore Z_X5_readCompared)) N 55 [some (.ref u), some (.ref 3), some (.int (Int32.ofNat n)), some (.int b), some (.int 1), none] [] F Q := fun ci b hb => by
    refine Pv.aload rfl rfl ?_
    refine Pv.getI (z := Int32.ofNat o) rfl rfl h.2.2.1.2.2.1 ?_
    refine Pv.lit rfl ?_
    refine Pv.icmp rfl (fun c1 => ?_) (fun c1 => ?_)
    · exact many ci (Or.inl ((i_le (a := 20) (b := o) (by omega) (by omega)).mp (of_decide_eq_true c1))) b
    replace c1 := mt (i_le (a := 20) (b := o) (by omega) (by omega)).mpr (of_decide_eq_false c1)
    refine Pv.iload rfl rfl ?_
    refine Pv.lit rfl ?_
    refine Pv.icmp rfl (fun c2 => ?_) (fun c2 => ?_)
    · have q := (i_le (a := n) (b := 8) (by omega) (by omega)).mp (of_decide_eq_true c2)
      omega
    · exact many ci (Or.inr (by omega)) b
  have no : ¬ z_is K i → Pv (ab_T (L_X5_readOne Z_X9_fail xB Z_X9_step xO Z_X5_addOp Z_X5_readOnShore Z_X5_readCompared)) N 44 [some (.ref u), some (.ref 3), some (.int (Int32.ofNat n)), some (.int 0), some (.int 0), none] [] F Q := fun ci => by
    have ez : z_one K 0 i o l = zn 1 i := by
      show (if z_is K i then _ else _) = _
      rw [if_neg ci]
    refine Pv.iload rfl rfl ?_
    refine Pv.if0 rfl (fun c => absurd c (by decide)) (fun _ => ?_)
    refine Pv.aload rfl rfl ?_
    refine Pv.lit rfl ?_
    refine Pv.callV (as := [.ref 3, .int 1]) (rest := []) rfl rfl rfl (c_fail (c := 1)) (fun r2 G2 p => ?_)
    obtain ⟨rfl, e2⟩ := p
    refine (show Pv (ab_T (L_X5_readOne Z_X9_fail xB Z_X9_step xO Z_X5_addOp Z_X5_readOnShore Z_X5_readCompared)) N 54 [some (.ref u), some (.ref 3), some (.int (Int32.ofNat n)), some (.int 0), some (.int 0), none] [.int 0] G2 Q from ?_)
    exact Pv.zret rfl (by rw [hQ, ez]; exact z_bad h e2)
  refine (show Pv (ab_T (L_X5_readOne Z_X9_fail xB Z_X9_step xO Z_X5_addOp Z_X5_readOnShore Z_X5_readCompared)) N 0 [some (.ref u), some (.ref 3), some (.int (Int32.ofNat n)), none, none, none] [] F Q from ?_)
  refine Pv.aload rfl rfl ?_
  refine Pv.getI (z := F.1 3 5) rfl rfl rfl ?_
  refine Pv.lit rfl ?_
  refine Pv.icmp rfl (fun c1 => ?_) (fun c1 => ?_)
  · replace c1 : decide (F.1 3 5 = 40) = false := by simpa using c1
    have k40 : ¬ (K i).k = 40 := fun e => of_decide_eq_false c1 (Int32.toInt_inj.mp (hk.trans (e.trans e40.symm)))
    refine Pv.lit rfl ?_
    refine Pv.istore (lo' := [some (.ref u), some (.ref 3), some (.int (Int32.ofNat n)), some (.int 0), none, none]) rfl rfl ?_
    refine Pv.iload rfl rfl ?_
    refine Pv.if0 rfl (fun c => absurd c (by decide)) (fun _ => ?_)
    refine Pv.aload rfl rfl ?_
    refine Pv.getI (z := F.1 3 5) rfl rfl rfl ?_
    refine Pv.lit rfl ?_
    refine Pv.icmp rfl (fun c2 => ?_) (fun c2 => ?_)
    · have q2 := Int32.lt_iff_toInt_lt.mp (of_decide_eq_true c2)
      rw [hk, e79] at q2
      refine Pv.lit rfl ?_
      refine Pv.istore (lo' := [some (.ref u), some (.ref 3), some (.int (Int32.ofNat n)), some (.int 0), some (.int 0), none]) rfl rfl ?_
      exact no (by omega)
    · have q2 := mt Int32.lt_iff_toInt_lt.mpr (of_decide_eq_false c2)
      rw [hk, e79] at q2
      refine Pv.aload rfl rfl ?_
      refine Pv.getI (z := F.1 3 5) rfl rfl rfl ?_
      refine Pv.lit rfl ?_
      refine Pv.icmp rfl (fun c3 => ?_) (fun c3 => ?_)
      · have q3 := Int32.lt_iff_toInt_lt.mp (of_decide_eq_true c3)
        rw [hk, e88] at q3
        refine Pv.lit rfl ?_
        refine Pv.istore (lo' := [some (.ref u), some (.ref 3), some (.int (Int32.ofNat n)), some (.int 0), some (.int 0), none]) rfl rfl ?_
        exact no (by omega)
      · have q3 := mt Int32.lt_iff_toInt_lt.mpr (of_decide_eq_false c3)
        rw [hk, e88] at q3
        refine Pv.lit rfl ?_
        refine Pv.goto rfl ?_
        refine Pv.istore (lo' := [some (.ref u), some (.ref 3), some (.int (Int32.ofNat n)), some (.int 0), some (.int 1), none]) rfl rfl ?_
        refine Pv.iload rfl rfl ?_
        refine Pv.if0 rfl (fun _ => ?_) (fun c => absurd c (by decide))
        exact go (by omega) 0 (Or.inr ⟨rfl, k40⟩)
  · replace c1 : decide (F.1 3 5 = 40) = true := by simpa using c1
    have k40 : (K i).k = 40 := hk.symm.trans ((congrArg Int32.toInt (of_decide_eq_true c1)).trans e40)
    refine Pv.lit rfl ?_
    refine Pv.goto rfl ?_
    refine Pv.istore (lo' := [some (.ref u), some (.ref 3), some (.int (Int32.ofNat n)), some (.int 1), none, none]) rfl rfl ?_
    refine Pv.iload rfl rfl ?_
    refine Pv.if0 rfl (fun _ => ?_) (fun c => absurd c (by decide))
    refine Pv.lit rfl ?_
    refine Pv.goto rfl ?_
    refine Pv.istore (lo' := [some (.ref u), some (.ref 3), some (.int (Int32.ofNat n)), some (.int 1), some (.int 1), none]) rfl rfl ?_
    refine Pv.iload rfl rfl ?_
    refine Pv.if0 rfl (fun _ => ?_) (fun c => absurd c (by decide))
    exact go (Or.inl k40) 1 (Or.inl ⟨rfl, k40⟩)
section ZLV
variable {u m : Nat} {K : Nat → TT}
theorem zv_one_9 : ZRD Z_X5_readOne_9 u K m (Int32.ofNat 9) (z_one K 0) := zc_one9 rfl
theorem zv_all_9 : ZRD Z_X5_readAll_9 u K m (Int32.ofNat 9) (z_all K (z_one K 0)) := zc_all zv_one_9 (zg_one _)
theorem zv_cond_9 : ZRD Z_X5_readCond_9 u K m (Int32.ofNat 9) (z_cond K (z_one K 0)) := zc_cond0 zv_all_9 (zg_all (zg_one _))
theorem zv_brack_8 : ZRB Z_X5_readBracket_8 u K m (Int32.ofNat 8) 0 := zc_brack (n := 8) zv_cond_9
theorem zv_one_8 : ZRD Z_X5_readOne_8 u K m (Int32.ofNat 8) (z_one K 1) := zc_one (n := 8) (d := 0) rfl zv_brack_8 zv_one_9
theorem zv_all_8 : ZRD Z_X5_readAll_8 u K m (Int32.ofNat 8) (z_all K (z_one K 1)) := zc_all zv_one_8 (zg_one _)
theorem zv_cond_8 : ZRD Z_X5_readCond_8 u K m (Int32.ofNat 8) (z_cond K (z_one K 1)) := zc_cond0 zv_all_8 (zg_all (zg_one _))
theorem zv_brack_7 : ZRB Z_X5_readBracket_7 u K m (Int32.ofNat 7) 1 := zc_brack (n := 7) zv_cond_8
theorem zv_one_7 : ZRD Z_X5_readOne_7 u K m (Int32.ofNat 7) (z_one K 2) := zc_one (n := 7) (d := 1) rfl zv_brack_7 zv_one_8
theorem zv_all_7 : ZRD Z_X5_readAll_7 u K m (Int32.ofNat 7) (z_all K (z_one K 2)) := zc_all zv_one_7 (zg_one _)
theorem zv_cond_7 : ZRD Z_X5_readCond_7 u K m (Int32.ofNat 7) (z_cond K (z_one K 2)) := zc_cond0 zv_all_7 (zg_all (zg_one _))
theorem zv_brack_6 : ZRB Z_X5_readBracket_6 u K m (Int32.ofNat 6) 2 := zc_brack (n := 6) zv_cond_7
theorem zv_one_6 : ZRD Z_X5_readOne_6 u K m (Int32.ofNat 6) (z_one K 3) := zc_one (n := 6) (d := 2) rfl zv_brack_6 zv_one_7
theorem zv_all_6 : ZRD Z_X5_readAll_6 u K m (Int32.ofNat 6) (z_all K (z_one K 3)) := zc_all zv_one_6 (zg_one _)
theorem zv_cond_6 : ZRD Z_X5_readCond_6 u K m (Int32.ofNat 6) (z_cond K (z_one K 3)) := zc_cond0 zv_all_6 (zg_all (zg_one _))
theorem zv_brack_5 : ZRB Z_X5_readBracket_5 u K m (Int32.ofNat 5) 3 := zc_brack (n := 5) zv_cond_6
theorem zv_one_5 : ZRD Z_X5_readOne_5 u K m (Int32.ofNat 5) (z_one K 4) := zc_one (n := 5) (d := 3) rfl zv_brack_5 zv_one_6
theorem zv_all_5 : ZRD Z_X5_readAll_5 u K m (Int32.ofNat 5) (z_all K (z_one K 4)) := zc_all zv_one_5 (zg_one _)
theorem zv_cond_5 : ZRD Z_X5_readCond_5 u K m (Int32.ofNat 5) (z_cond K (z_one K 4)) := zc_cond0 zv_all_5 (zg_all (zg_one _))
theorem zv_brack_4 : ZRB Z_X5_readBracket_4 u K m (Int32.ofNat 4) 4 := zc_brack (n := 4) zv_cond_5
theorem zv_one_4 : ZRD Z_X5_readOne_4 u K m (Int32.ofNat 4) (z_one K 5) := zc_one (n := 4) (d := 4) rfl zv_brack_4 zv_one_5
theorem zv_all_4 : ZRD Z_X5_readAll_4 u K m (Int32.ofNat 4) (z_all K (z_one K 5)) := zc_all zv_one_4 (zg_one _)
theorem zv_cond_4 : ZRD Z_X5_readCond_4 u K m (Int32.ofNat 4) (z_cond K (z_one K 5)) := zc_cond0 zv_all_4 (zg_all (zg_one _))
theorem zv_brack_3 : ZRB Z_X5_readBracket_3 u K m (Int32.ofNat 3) 5 := zc_brack (n := 3) zv_cond_4
theorem zv_one_3 : ZRD Z_X5_readOne_3 u K m (Int32.ofNat 3) (z_one K 6) := zc_one (n := 3) (d := 5) rfl zv_brack_3 zv_one_4
theorem zv_all_3 : ZRD Z_X5_readAll_3 u K m (Int32.ofNat 3) (z_all K (z_one K 6)) := zc_all zv_one_3 (zg_one _)
theorem zv_cond_3 : ZRD Z_X5_readCond_3 u K m (Int32.ofNat 3) (z_cond K (z_one K 6)) := zc_cond0 zv_all_3 (zg_all (zg_one _))
theorem zv_brack_2 : ZRB Z_X5_readBracket_2 u K m (Int32.ofNat 2) 6 := zc_brack (n := 2) zv_cond_3
theorem zv_one_2 : ZRD Z_X5_readOne_2 u K m (Int32.ofNat 2) (z_one K 7) := zc_one (n := 2) (d := 6) rfl zv_brack_2 zv_one_3
theorem zv_all_2 : ZRD Z_X5_readAll_2 u K m (Int32.ofNat 2) (z_all K (z_one K 7)) := zc_all zv_one_2 (zg_one _)
theorem zv_cond_2 : ZRD Z_X5_readCond_2 u K m (Int32.ofNat 2) (z_cond K (z_one K 7)) := zc_cond0 zv_all_2 (zg_all (zg_one _))
theorem zv_brack_1 : ZRB Z_X5_readBracket_1 u K m (Int32.ofNat 1) 7 := zc_brack (n := 1) zv_cond_2
theorem zv_one_1 : ZRD Z_X5_readOne_1 u K m (Int32.ofNat 1) (z_one K 8) := zc_one (n := 1) (d := 7) rfl zv_brack_1 zv_one_2
theorem zv_all_1 : ZRD Z_X5_readAll_1 u K m (Int32.ofNat 1) (z_all K (z_one K 8)) := zc_all zv_one_1 (zg_one _)
theorem zv_cond_1 : ZRD Z_X5_readCond_1 u K m (Int32.ofNat 1) (z_cond K (z_one K 8)) := zc_cond0 zv_all_1 (zg_all (zg_one _))
end ZLV
end
-- 63.b9zv.lean.txt
section
set_option maxRecDepth 100000 in
set_option maxHeartbeats 4000000 in
theorem r_code {F : FW} {z : Nat} (hG : GW F) (hz : F.1 69 34 = Int32.ofNat z) (hz6 : z ≤ 60) (a b c : Int32) : Pm Z_X11_code [.ref 69, .int a, .int b, .int c] F (fun r F' => r = none ∧ F' = fp (fp (fp (fp F 73 (3 * z) a) 73 (3 * z + 1) b) 73 (3 * z + 2) c) 69 34 (Int32.ofNat (z + 1))) := by
  refine Pm.of fun N => ?_
  obtain ⟨Q, hQ⟩ : ∃ Q : Option Value → FW → Prop, Q = (fun r F' => r = none ∧ F' = fp (fp (fp (fp F 73 (3 * z) a) 73 (3 * z + 1) b) 73 (3 * z + 2) c) 69 34 (Int32.ofNat (z + 1))) := ⟨_, rfl⟩
  rw [← hQ]
  refine (show Pv (ab_T L_X11_code) N 0 [some (.ref 69), some (.int a), some (.int b), some (.int c)] [] F Q from ?_)
  refine Pv.aload rfl rfl ?_
  refine Pv.getR (v := .ref 73) rfl rfl (GW.at (a := 69) (k := 8) (b := 73) hG (by decide)) ?_
  refine Pv.lit rfl ?_
  refine Pv.aload rfl rfl ?_
  refine Pv.getI (z := Int32.ofNat z) rfl rfl (hz) ?_
  refine Pv.bin (z := Int32.ofNat (3 * z)) rfl (i_mul 3 z) ?_
  refine Pv.iload rfl rfl ?_
  refine Pv.astk (k := 3 * z) (z := a) rfl (i_toNat (by omega)) (rfl) ?_
  refine Pv.aload rfl rfl ?_
  refine Pv.getR (v := .ref 73) rfl rfl (GW.at (a := 69) (k := 8) (b := 73) hG (by decide)) ?_
  refine Pv.lit rfl ?_
  refine Pv.aload rfl rfl ?_
  refine Pv.getI (z := Int32.ofNat z) rfl rfl ((fp_ne (Or.inl (by decide))).trans (hz)) ?_
  refine Pv.bin (z := Int32.ofNat (3 * z)) rfl (i_mul 3 z) ?_
  refine Pv.lit rfl ?_
  refine Pv.bin (z := Int32.ofNat ((3 * z) + 1)) rfl (i_add (3 * z) 1) ?_
  refine Pv.iload rfl rfl ?_
  refine Pv.astk (k := (3 * z) + 1) (z := b) rfl (i_toNat (by omega)) (rfl) ?_
  refine Pv.aload rfl rfl ?_
  refine Pv.getR (v := .ref 73) rfl rfl (GW.at (a := 69) (k := 8) (b := 73) hG (by decide)) ?_
  refine Pv.lit rfl ?_
  refine Pv.aload rfl rfl ?_
  refine Pv.getI (z := Int32.ofNat z) rfl rfl ((fp_ne (Or.inl (by decide))).trans ((fp_ne (Or.inl (by decide))).trans (hz))) ?_
  refine Pv.bin (z := Int32.ofNat (3 * z)) rfl (i_mul 3 z) ?_
  refine Pv.lit rfl ?_
  refine Pv.bin (z := Int32.ofNat ((3 * z) + 2)) rfl (i_add (3 * z) 2) ?_
  refine Pv.iload rfl rfl ?_
  refine Pv.astk (k := (3 * z) + 2) (z := c) rfl (i_toNat (by omega)) (rfl) ?_
  refine Pv.aload rfl rfl ?_
  refine Pv.dup rfl ?_
  refine Pv.getI (z := Int32.ofNat z) rfl rfl ((fp_ne (Or.inl (by decide))).trans ((fp_ne (Or.inl (by decide))).trans ((fp_ne (Or.inl (by decide))).trans (hz)))) ?_
  refine Pv.lit rfl ?_
  refine Pv.bin (z := Int32.ofNat (z + 1)) rfl (i_add z 1) ?_
  refine Pv.putI rfl rfl ?_
  exact Pv.vret rfl (by rw [hQ]; exact ⟨rfl, rfl⟩)
set_option maxRecDepth 100000 in
set_option maxHeartbeats 4000000 in
theorem r_taken {F : FW} {tn : Nat} (h2 : F.1 69 2 = Int32.ofNat tn) (l : Int32) : Pm Z_X11_taken [.ref 69, .int l] F (fun r F' => r = none ∧ F' = fp (fp (fp (fp F 69 3 (Int32.ofNat tn)) 69 2 0) 69 4 0) 69 5 l) := by
  refine Pm.of fun N => ?_
  obtain ⟨Q, hQ⟩ : ∃ Q : Option Value → FW → Prop, Q = (fun r F' => r = none ∧ F' = fp (fp (fp (fp F 69 3 (Int32.ofNat tn)) 69 2 0) 69 4 0) 69 5 l) := ⟨_, rfl⟩
  rw [← hQ]
  refine (show Pv (ab_T L_X11_taken) N 0 [some (.ref 69), some (.int l)] [] F Q from ?_)
  refine Pv.aload rfl rfl ?_
  refine Pv.aload rfl rfl ?_
  refine Pv.getI (z := Int32.ofNat tn) rfl rfl (h2) ?_
  refine Pv.putI rfl rfl ?_
  refine Pv.aload rfl rfl ?_
  refine Pv.lit rfl ?_
  refine Pv.putI rfl rfl ?_
  refine Pv.aload rfl rfl ?_
  refine Pv.lit rfl ?_
  refine Pv.putI rfl rfl ?_
  refine Pv.aload rfl rfl ?_
  refine Pv.iload rfl rfl ?_
  refine Pv.putI rfl rfl ?_
  exact Pv.vret rfl (by rw [hQ]; exact ⟨rfl, rfl⟩)
end
-- 63.b9zw.sx.lean.txt
section
/-! ===== the reference reads a SENTENCE ===== -/
theorem trn_v {B : Nat → Int} {q m : Nat} (h : (trn B q m).k = 3) : 0 ≤ (trn B q m).v ∧ (trn B q m).v ≤ 999 := by
  by_cases c : allP tk_l B q m = true ∧ m ≤ 7
  · have e : trn B q m = (kw (pv B q m), (q : Int), wd B q m, q + m) := if_pos c
    rw [e] at h
    have h2 : kw (pv B q m) = 3 := h
    have r := rkk_word (pv B q m)
    rw [h2] at r
    exact absurd r (by decide)
  · by_cases c2 : allP tk_d B q m = true ∧ m ≤ 3
    · have e : trn B q m = (3, (q : Int), nb B q m, q + m) := (if_neg c).trans (if_pos c2)
      rw [e]
      have r := nb_rng c2.1 c2.2
      exact ⟨r.1, r.2.1⟩
    · have e : trn B q m = (1, (q : Int), 0, q + m) := (if_neg c).trans (if_neg c2)
      rw [e] at h
      exact absurd (show (1 : Int) = 3 from h) (by decide)
theorem tkq_v {B : Nat → Int} {n lim q : Nat} (h : (tkq B n lim q).k = 3) : 0 ≤ (tkq B n lim q).v ∧ (tkq B n lim q).v ≤ 999 := by
  by_cases c1 : lim < n ∧ lim ≤ q
  · rw [tkq_none c1.1 c1.2] at h
    exact absurd (show (1 : Int) = 3 from h) (by decide)
  · by_cases c2 : n ≤ q
    · rw [tkq_end c1 c2] at h
      exact absurd (show (0 : Int) = 3 from h) (by decide)
    · cases c3 : tk_r (B q) with
      | true =>
        rw [tkq_run c1 (by omega) c3] at h ⊢
        exact trn_v h
      | false =>
        rw [tkq_sig c1 (by omega) c3] at h
        exact absurd (show tsg (B q) = 3 from h) (tsg_ne _).1
theorem tok_v999 (B : Nat → Int) (n lim i : Nat) (h : (tok B n lim i).k = 3) : 0 ≤ (tok B n lim i).v ∧ (tok B n lim i).v ≤ 999 := tkq_v h
def zc3 (x : ZO) : Int32 × Int32 × Int32 := if x.1 = 79 then (20, 0, 0) else if x.1 = 78 then (21, 0, 0) else if x.1 = 77 then (22, 0, 0) else if x.1 ≤ 84 then (Int32.ofNat (x.1 - 80), 0, Int32.ofNat x.2.1) else (Int32.ofNat (x.1 - 80), Int32.ofNat x.2.1, Int32.ofNat x.2.2)
def zs1 (x : Nat) : Int32 := if x = 79 then 20 else if x = 78 then 21 else if x = 77 then 22 else 23
theorem zs1_20 {x : Nat} : zs1 x = 20 ↔ x = 79 := by
  unfold zs1
  by_cases a : x = 79
  · rw [if_pos a]
    exact ⟨fun _ => a, fun _ => rfl⟩
  · rw [if_neg a]
    by_cases b : x = 78
    · rw [if_pos b]
      exact ⟨fun h => absurd h (by decide), fun h => absurd h a⟩
    · rw [if_neg b]
      by_cases c : x = 77
      · rw [if_pos c]
        exact ⟨fun h => absurd h (by decide), fun h => absurd h a⟩
      · rw [if_neg c]
        exact ⟨fun h => absurd h (by decide), fun h => absurd h a⟩
theorem zs1_21 {x : Nat} : zs1 x = 21 ↔ x = 78 := by
  unfold zs1
  by_cases a : x = 79
  · rw [if_pos a]
    exact ⟨fun h => absurd h (by decide), fun h => by omega⟩
  · rw [if_neg a]
    by_cases b : x = 78
    · rw [if_pos b]
      exact ⟨fun _ => b, fun _ => rfl⟩
    · rw [if_neg b]
      by_cases c : x = 77
      · rw [if_pos c]
        exact ⟨fun h => absurd h (by decide), fun h => absurd h b⟩
      · rw [if_neg c]
        exact ⟨fun h => absurd h (by decide), fun h => absurd h b⟩
theorem zs1_22 {x : Nat} : zs1 x = 22 ↔ x = 77 := by
  unfold zs1
  by_cases a : x = 79
  · rw [if_pos a]
    exact ⟨fun h => absurd h (by decide), fun h => by omega⟩
  · rw [if_neg a]
    by_cases b : x = 78
    · rw [if_pos b]
      exact ⟨fun h => absurd h (by decide), fun h => by omega⟩
    · rw [if_neg b]
      by_cases c : x = 77
      · rw [if_pos c]
        exact ⟨fun _ => c, fun _ => rfl⟩
      · rw [if_neg c]
        exact ⟨fun h => absurd h (by decide), fun h => absurd h c⟩
def XC (F : FW) (cs : List ZO) : Prop := F.1 69 34 = Int32.ofNat cs.length ∧ ∀ (j : Nat) (x : ZO), cs[j]? = some x → F.1 73 (3 * j) = (zc3 x).1 ∧ F.1 73 (3 * j + 1) = (zc3 x).2.1 ∧ F.1 73 (3 * j + 2) = (zc3 x).2.2
def XK (F : FW) (st : List Nat) : Prop := F.1 69 36 = Int32.ofNat st.length ∧ F.1 69 37 = Int32.ofNat (1 + zm_dp st) ∧ ∀ (s : List Nat) (x : Nat) (t : List Nat), st = s ++ x :: t → F.1 82 t.length = zs1 x
theorem XC.of {F G : FW} {cs : List ZO} (h : XC F cs) (e34 : G.1 69 34 = F.1 69 34) (e73 : ∀ k, G.1 73 k = F.1 73 k) : XC G cs := ⟨e34.trans h.1, fun j x hj => by rw [e73, e73, e73]; exact h.2 j x hj⟩
theorem XK.of {F G : FW} {st : List Nat} (h : XK F st) (e36 : G.1 69 36 = F.1 69 36) (e37 : G.1 69 37 = F.1 69 37) (e82 : ∀ k, G.1 82 k = F.1 82 k) : XK G st := ⟨e36.trans h.1, e37.trans h.2.1, fun s x t e => (e82 _).trans (h.2.2 s x t e)⟩
theorem XC.add {F : FW} {cs : List ZO} (h : XC F cs) (x : ZO) : XC (fp (fp (fp (fp F 73 (3 * cs.length) (zc3 x).1) 73 (3 * cs.length + 1) (zc3 x).2.1) 73 (3 * cs.length + 2) (zc3 x).2.2) 69 34 (Int32.ofNat (cs.length + 1))) (cs ++ [x]) := by
  refine ⟨fp_eq.trans (by rw [List.length_append, List.length_singleton]), fun j y hj => ?_⟩
  have hlen := (List.getElem?_eq_some_iff.mp hj).1
  rw [List.length_append, List.length_singleton] at hlen
  by_cases e : j < cs.length
  · rw [List.getElem?_append_left e] at hj
    obtain ⟨h1, h2, h3⟩ := h.2 j y hj
    exact ⟨((fp_ne (Or.inl (by decide))).trans ((fp_ne (Or.inr (by omega))).trans ((fp_ne (Or.inr (by omega))).trans (fp_ne (Or.inr (by omega)))))).trans h1, ((fp_ne (Or.inl (by decide))).trans ((fp_ne (Or.inr (by omega))).trans ((fp_ne (Or.inr (by omega))).trans (fp_ne (Or.inr (by omega)))))).trans h2, ((fp_ne (Or.inl (by decide))).trans ((fp_ne (Or.inr (by omega))).trans ((fp_ne (Or.inr (by omega))).trans (fp_ne (Or.inr (by omega)))))).trans h3⟩
  · obtain rfl : j = cs.length := by omega
    rw [List.getElem?_append_right (Nat.le_refl _), Nat.sub_self] at hj
    obtain rfl := Option.some.inj hj
    exact ⟨(fp_ne (Or.inl (by decide))).trans ((fp_ne (Or.inr (by omega))).trans ((fp_ne (Or.inr (by omega))).trans fp_eq)), (fp_ne (Or.inl (by decide))).trans ((fp_ne (Or.inr (by omega))).trans fp_eq), (fp_ne (Or.inl (by decide))).trans fp_eq⟩
/-- what nots and joins change: codes, how many, the stack, how deep -/
def ZF1 (F G : FW) : Prop := FX (fun q => q = 69 ∨ q = 73 ∨ q = 82) F G ∧ (∀ k, k ≠ 34 → k ≠ 36 → k ≠ 37 → G.1 69 k = F.1 69 k) ∧ ∀ k, G.2.2.1 69 k = F.2.2.1 69 k
theorem ZF1.rf {F : FW} : ZF1 F F := ⟨FX.rf, fun _ _ _ _ => rfl, fun _ => rfl⟩
theorem ZF1.tr {F G K : FW} (a : ZF1 F G) (b : ZF1 G K) : ZF1 F K := ⟨a.1.tr b.1, fun k h1 h2 h3 => (b.2.1 k h1 h2 h3).trans (a.2.1 k h1 h2 h3), fun k => (b.2.2 k).trans (a.2.2 k)⟩
theorem ZF1.p {F G : FW} {k : Nat} {v : Int32} (h : ZF1 F G) (c : k = 34 ∨ k = 36 ∨ k = 37) : ZF1 F (fp G 69 k v) := ⟨h.1.fp (Or.inl rfl), fun j h1 h2 h3 => (fp_ne (Or.inr (by omega))).trans (h.2.1 j h1 h2 h3), h.2.2⟩
theorem ZF1.c {F G : FW} {k : Nat} {v : Int32} (h : ZF1 F G) : ZF1 F (fp G 73 k v) := ⟨h.1.fp (Or.inr (Or.inl rfl)), fun j h1 h2 h3 => (fp_ne (Or.inl (by decide))).trans (h.2.1 j h1 h2 h3), h.2.2⟩
theorem ZF1.s {F G : FW} {k : Nat} {v : Int32} (h : ZF1 F G) : ZF1 F (fp G 82 k v) := ⟨h.1.fp (Or.inr (Or.inr rfl)), fun j h1 h2 h3 => (fp_ne (Or.inl (by decide))).trans (h.2.1 j h1 h2 h3), h.2.2⟩
theorem ZF1.G {F G : FW} (h : ZF1 F G) (g : GW F) : GW G := g.fx h.1
theorem RTK.zf {F G : FW} {B : Nat → Int} {n lim i : Nat} (t : RTK F B n lim i) (h : ZF1 F G) : RTK G B n lim i := by
  have e : ∀ k, k ≠ 34 → k ≠ 36 → k ≠ 37 → G.1 69 k = F.1 69 k := h.2.1
  refine ⟨(e 3 (by decide) (by decide) (by decide)).trans t.1, (e 5 (by decide) (by decide) (by decide)).trans t.2.1, (RBF_same fun k => h.1.1 70 k (by decide)).trans t.2.2.1, ?_, t.2.2.2.2⟩
  unfold NTF
  rw [e 12 (by decide) (by decide) (by decide), e 4 (by decide) (by decide) (by decide), e 11 (by decide) (by decide) (by decide), e 14 (by decide) (by decide) (by decide), h.2.2 17]
  exact t.2.2.2.1
theorem i_pre {n : Nat} (h : n < 2147483647) : Int32.ofNat (n + 1) - 1 = Int32.ofNat n := Int32.toInt_inj.mp (by
  have e : (1 : Int32).toInt = 1 := rfl
  have e2 := i_toInt (k := n + 1) (by omega)
  rw [i_subI (by omega) (by omega), e2, e, i_toInt (by omega)]
  omega)
theorem zdp_le : ∀ st : List Nat, zm_dp st ≤ st.length
  | [] => Nat.le_refl _
  | x :: st => by
    have ih := zdp_le st
    show (if x = 79 ∨ x = 40 then 1 else 0) + zm_dp st ≤ st.length + 1
    split <;> omega
theorem zdp_1 {x : Nat} {st : List Nat} (h : x = 79 ∨ x = 40) : zm_dp (x :: st) = 1 + zm_dp st := by
  show (if x = 79 ∨ x = 40 then 1 else 0) + zm_dp st = _
  rw [if_pos h]
theorem zdp_0 {x : Nat} {st : List Nat} (h : ¬ (x = 79 ∨ x = 40)) : zm_dp (x :: st) = zm_dp st := by
  show (if x = 79 ∨ x = 40 then 1 else 0) + zm_dp st = _
  rw [if_neg h]
  omega
/-- the stack's top taken off -/
theorem XK.tl {F : FW} {x : Nat} {t : List Nat} (h : XK F (x :: t)) {G : FW} (e36 : G.1 69 36 = Int32.ofNat t.length) (e37 : G.1 69 37 = Int32.ofNat (1 + zm_dp t)) (e82 : ∀ k, G.1 82 k = F.1 82 k) : XK G t := ⟨e36, e37, fun s y u e => (e82 _).trans (h.2.2 (x :: s) y u (by rw [e]; rfl))⟩
/-- laid on top -/
theorem XK.pu {F : FW} {x : Nat} {t : List Nat} (h : XK F t) {G : FW} (e36 : G.1 69 36 = Int32.ofNat (t.length + 1)) (e37 : G.1 69 37 = Int32.ofNat (1 + zm_dp (x :: t))) (e82 : G.1 82 t.length = zs1 x) (e83 : ∀ k, k ≠ t.length → G.1 82 k = F.1 82 k) : XK G (x :: t) := ⟨e36, e37, fun s y u e => by
  cases s with
  | nil =>
    obtain ⟨rfl, rfl⟩ : x = y ∧ t = u := by injection e with e1 e2; exact ⟨e1, e2⟩
    exact e82
  | cons z s =>
    have e2 : t = s ++ y :: u := by injection e
    have hl : u.length < t.length := by rw [e2, List.length_append, List.length_cons]; omega
    exact (e83 _ (by omega)).trans (h.2.2 s y u e2)⟩
theorem x_nots {F : FW} {cs : List ZO} {st : List Nat} (hG : GW F) (hC : XC F cs) (hK : XK F st) (hb : cs.length + st.length ≤ 60) : Pm Z_X11_nots [.ref 69] F (fun r F' => r = none ∧ ZF1 F F' ∧ XC F' (zm_nots st cs).1 ∧ XK F' (zm_nots st cs).2) := by
  refine Pm.of fun N => ?_
  obtain ⟨Q, hQ⟩ : ∃ Q : Option Value → FW → Prop, Q = (fun r F' => r = none ∧ ZF1 F F' ∧ XC F' (zm_nots st cs).1 ∧ XK F' (zm_nots st cs).2) := ⟨_, rfl⟩
  rw [← hQ]
  refine (show Pv (ab_T (L_X11_nots Z_X11_code)) N 0 [some (.ref 69)] [] F Q from ?_)
  refine Pv.lp (ι := FW × List ZO × List Nat) (lof := fun _ => [some (.ref 69)]) (Ff := fun x => x.1) (P := fun x => ZF1 F x.1 ∧ XC x.1 x.2.1 ∧ XK x.1 x.2.2 ∧ x.2.1.length + x.2.2.length ≤ 60 ∧ zm_nots x.2.2 x.2.1 = zm_nots st cs) ?_ (F, cs, st) ⟨ZF1.rf, hC, hK, hb, rfl⟩
  rintro N1 hN1 ⟨G, cs1, st1⟩ ⟨hx, hC1, hK1, hb1, he⟩ ih
  replace hx : ZF1 F G := hx
  replace hC1 : XC G cs1 := hC1
  replace hK1 : XK G st1 := hK1
  replace he : zm_nots st1 cs1 = zm_nots st cs := he
  have gG := hx.G hG
  refine (show Pv (ab_T (L_X11_nots Z_X11_code)) (N1 + 1) 0 [some (.ref 69)] [] G Q from ?_)
  refine Pv.aloadS rfl rfl ?_
  refine Pv.getI (z := Int32.ofNat st1.length) rfl rfl hK1.1 ?_
  cases st1 with
  | nil =>
    refine Pv.if0 rfl (fun _ => ?_) (fun c => absurd c (by decide))
    exact Pv.vret rfl (by rw [hQ]; exact ⟨rfl, hx, by rw [← he]; exact ⟨hC1, hK1⟩⟩)
  | cons x t =>
    have hb2 : cs1.length + (t.length + 1) ≤ 60 := hb1
    refine Pv.if0 rfl (fun c => ?_) (fun _ => ?_)
    · have q := (i_le (a := t.length + 1) (b := 0) (by omega) (by omega)).mp (of_decide_eq_true c)
      omega
    · refine Pv.aload rfl rfl ?_
      refine Pv.getR (v := .ref 82) rfl rfl (GW.at (a := 69) (k := 33) (b := 82) gG (by decide)) ?_
      refine Pv.aload rfl rfl ?_
      refine Pv.getI (z := Int32.ofNat (t.length + 1)) rfl rfl hK1.1 ?_
      refine Pv.lit rfl ?_
      refine Pv.bin (z := Int32.ofNat t.length) rfl (i_pre (by omega)) ?_
      refine Pv.ald (z := zs1 x) rfl (by rw [i_toNat (by omega)]; exact hK1.2.2 [] x t rfl) ?_
      refine Pv.lit rfl ?_
      refine Pv.icmp rfl (fun c => ?_) (fun c => ?_)
      · have hx9 : ¬ x = 79 := fun e => by
          rw [zs1_20.mpr e] at c
          exact absurd c (by decide)
        have ez : zm_nots (x :: t) cs1 = (cs1, x :: t) := if_neg hx9
        exact Pv.vret rfl (by rw [hQ]; exact ⟨rfl, hx, by rw [← he, ez]; exact ⟨hC1, hK1⟩⟩)
      · have hx9 : x = 79 := zs1_20.mp (by simpa using c)
        have ez : zm_nots (x :: t) cs1 = zm_nots t (cs1 ++ [(79, 0, 0)]) := if_pos hx9
        have dl := zdp_le t
        have d1 : zm_dp (x :: t) = 1 + zm_dp t := zdp_1 (Or.inl hx9)
        refine Pv.aload rfl rfl ?_
        refine Pv.dup rfl ?_
        refine Pv.getI (z := Int32.ofNat (t.length + 1)) rfl rfl hK1.1 ?_
        refine Pv.lit rfl ?_
        refine Pv.bin (z := Int32.ofNat t.length) rfl (i_pre (by omega)) ?_
        refine Pv.putI rfl rfl ?_
        refine Pv.aload rfl rfl ?_
        refine Pv.dup rfl ?_
        refine Pv.getI (z := Int32.ofNat ((1 + zm_dp t) + 1)) rfl rfl ((fp_ne (Or.inr (by decide))).trans (hK1.2.1.trans (congrArg Int32.ofNat (by omega)))) ?_
        refine Pv.lit rfl ?_
        refine Pv.bin (z := Int32.ofNat (1 + zm_dp t)) rfl (i_pre (by omega)) ?_
        refine Pv.putI rfl rfl ?_
        obtain ⟨G2, hG2⟩ : ∃ G2 : FW, G2 = fp (fp G 69 36 (Int32.ofNat t.length)) 69 37 (Int32.ofNat (1 + zm_dp t)) := ⟨_, rfl⟩
        have x2 : ZF1 F G2 := by rw [hG2]; exact (hx.p (Or.inr (Or.inl rfl))).p (Or.inr (Or.inr rfl))
        have C2 : XC G2 cs1 := by rw [hG2]; exact hC1.of ((fp_ne (Or.inr (by decide))).trans (fp_ne (Or.inr (by decide)))) (fun k => (fp_ne (Or.inl (by decide))).trans (fp_ne (Or.inl (by decide))))
        have K2 : XK G2 t := by rw [hG2]; exact hK1.tl ((fp_ne (Or.inr (by decide))).trans fp_eq) fp_eq (fun k => (fp_ne (Or.inl (by decide))).trans (fp_ne (Or.inl (by decide))))
        rw [← hG2]
        refine (show Pv (ab_T (L_X11_nots Z_X11_code)) N1 43 [some (.ref 69)] [] G2 Q from ?_)
        refine Pv.aload rfl rfl ?_
        refine Pv.lit rfl ?_
        refine Pv.lit rfl ?_
        refine Pv.lit rfl ?_
        refine Pv.callV (as := [.ref 69, .int 20, .int 0, .int 0]) (rest := []) rfl rfl rfl (r_code (z := cs1.length) (x2.G hG) C2.1 (by omega) 20 0 0) (fun r G3 q => ?_)
        obtain ⟨rfl, rfl⟩ := q
        refine Pv.goto rfl ?_
        refine ih (_, cs1 ++ [(79, 0, 0)], t) ⟨(((x2.c).c).c).p (Or.inl rfl), C2.add (79, 0, 0), K2.of ((fp_ne (Or.inr (by decide))).trans ((fp_ne (Or.inl (by decide))).trans ((fp_ne (Or.inl (by decide))).trans (fp_ne (Or.inl (by decide)))))) ((fp_ne (Or.inr (by decide))).trans ((fp_ne (Or.inl (by decide))).trans ((fp_ne (Or.inl (by decide))).trans (fp_ne (Or.inl (by decide)))))) (fun k => (fp_ne (Or.inl (by decide))).trans ((fp_ne (Or.inl (by decide))).trans ((fp_ne (Or.inl (by decide))).trans (fp_ne (Or.inl (by decide)))))), ?_, ez.symm.trans he⟩
        show (cs1 ++ [(79, 0, 0)]).length + t.length ≤ 60
        rw [List.length_append, List.length_singleton]
        omega
def zjt (b : Bool) : Int32 := cond b 22 21
theorem x_joins {F : FW} {cs : List ZO} {st : List Nat} (b : Bool) (hG : GW F) (hC : XC F cs) (hK : XK F st) (hb : cs.length + st.length ≤ 60) : Pm Z_X11_joins [.ref 69, .int (zjt b)] F (fun r F' => r = none ∧ ZF1 F F' ∧ XC F' (zm_joins b st cs).1 ∧ XK F' (zm_joins b st cs).2) := by
  refine Pm.of fun N => ?_
  obtain ⟨Q, hQ⟩ : ∃ Q : Option Value → FW → Prop, Q = (fun r F' => r = none ∧ ZF1 F F' ∧ XC F' (zm_joins b st cs).1 ∧ XK F' (zm_joins b st cs).2) := ⟨_, rfl⟩
  rw [← hQ]
  refine (show Pv (ab_T (L_X11_joins Z_X11_code)) N 0 [some (.ref 69), some (.int (zjt b))] [] F Q from ?_)
  refine Pv.lp (ι := FW × List ZO × List Nat) (lof := fun _ => [some (.ref 69), some (.int (zjt b))]) (Ff := fun x => x.1) (P := fun x => ZF1 F x.1 ∧ XC x.1 x.2.1 ∧ XK x.1 x.2.2 ∧ x.2.1.length + x.2.2.length ≤ 60 ∧ zm_joins b x.2.2 x.2.1 = zm_joins b st cs) ?_ (F, cs, st) ⟨ZF1.rf, hC, hK, hb, rfl⟩
  rintro N1 hN1 ⟨G, cs1, st1⟩ ⟨hx, hC1, hK1, hb1, he⟩ ih
  replace hx : ZF1 F G := hx
  replace hC1 : XC G cs1 := hC1
  replace hK1 : XK G st1 := hK1
  replace he : zm_joins b st1 cs1 = zm_joins b st cs := he
  have gG := hx.G hG
  refine (show Pv (ab_T (L_X11_joins Z_X11_code)) (N1 + 1) 0 [some (.ref 69), some (.int (zjt b))] [] G Q from ?_)
  refine Pv.aloadS rfl rfl ?_
  refine Pv.getI (z := Int32.ofNat st1.length) rfl rfl hK1.1 ?_
  cases st1 with
  | nil =>
    refine Pv.if0 rfl (fun _ => ?_) (fun c => absurd c (by decide))
    exact Pv.vret rfl (by rw [hQ]; exact ⟨rfl, hx, by rw [← he]; exact ⟨hC1, hK1⟩⟩)
  | cons x t =>
    have hb2 : cs1.length + (t.length + 1) ≤ 60 := hb1
    have stop : ¬ (x = 78 ∨ (x = 77 ∧ b = true)) → Pv (ab_T (L_X11_joins Z_X11_code)) N1 73 [some (.ref 69), some (.int (zjt b))] [] G Q := fun hn => by
      have ez : zm_joins b (x :: t) cs1 = (cs1, x :: t) := if_neg hn
      exact Pv.vret rfl (by rw [hQ]; exact ⟨rfl, hx, by rw [← he, ez]; exact ⟨hC1, hK1⟩⟩)
    have go : (x = 78 ∨ (x = 77 ∧ b = true)) → Pv (ab_T (L_X11_joins Z_X11_code)) N1 45 [some (.ref 69), some (.int (zjt b))] [] G Q := fun hy => by
      have ez : zm_joins b (x :: t) cs1 = zm_joins b t (cs1 ++ [(x, 0, 0)]) := if_pos hy
      have d1 : zm_dp (x :: t) = zm_dp t := zdp_0 (by omega)
      have z3 : zc3 (x, 0, 0) = (zs1 x, 0, 0) := by rcases hy with rfl | ⟨rfl, -⟩ <;> rfl
      refine Pv.aload rfl rfl ?_
      refine Pv.dup rfl ?_
      refine Pv.getI (z := Int32.ofNat (t.length + 1)) rfl rfl hK1.1 ?_
      refine Pv.lit rfl ?_
      refine Pv.bin (z := Int32.ofNat t.length) rfl (i_pre (by omega)) ?_
      refine Pv.putI rfl rfl ?_
      obtain ⟨G2, hG2⟩ : ∃ G2 : FW, G2 = fp G 69 36 (Int32.ofNat t.length) := ⟨_, rfl⟩
      have x2 : ZF1 F G2 := by rw [hG2]; exact hx.p (Or.inr (Or.inl rfl))
      have C2 : XC G2 cs1 := by rw [hG2]; exact hC1.of (fp_ne (Or.inr (by decide))) (fun k => fp_ne (Or.inl (by decide)))
      have K2 : XK G2 t := by rw [hG2]; exact hK1.tl fp_eq ((fp_ne (Or.inr (by decide))).trans (hK1.2.1.trans (congrArg Int32.ofNat (by omega)))) (fun k => fp_ne (Or.inl (by decide)))
      have e82 : G2.1 82 t.length = zs1 x := by rw [hG2]; exact (fp_ne (Or.inl (by decide))).trans (hK1.2.2 [] x t rfl)
      rw [← hG2]
      refine (show Pv (ab_T (L_X11_joins Z_X11_code)) N1 55 [some (.ref 69), some (.int (zjt b))] [] G2 Q from ?_)
      refine Pv.aload rfl rfl ?_
      refine Pv.aload rfl rfl ?_
      refine Pv.getR (v := .ref 82) rfl rfl (GW.at (a := 69) (k := 33) (b := 82) (x2.G hG) (by decide)) ?_
      refine Pv.aload rfl rfl ?_
      refine Pv.getI (z := Int32.ofNat t.length) rfl rfl K2.1 ?_
      refine Pv.ald (z := zs1 x) rfl (by rw [i_toNat (by omega)]; exact e82) ?_
      refine Pv.lit rfl ?_
      refine Pv.lit rfl ?_
      refine Pv.callV (as := [.ref 69, .int (zs1 x), .int 0, .int 0]) (rest := []) rfl rfl rfl (r_code (z := cs1.length) (x2.G hG) C2.1 (by omega) (zs1 x) 0 0) (fun r G3 q => ?_)
      obtain ⟨rfl, rfl⟩ := q
      have C3 := C2.add (x, 0, 0)
      rw [z3] at C3
      refine Pv.goto rfl ?_
      refine ih (_, cs1 ++ [(x, 0, 0)], t) ⟨(((x2.c).c).c).p (Or.inl rfl), C3, K2.of ((fp_ne (Or.inr (by decide))).trans ((fp_ne (Or.inl (by decide))).trans ((fp_ne (Or.inl (by decide))).trans (fp_ne (Or.inl (by decide)))))) ((fp_ne (Or.inr (by decide))).trans ((fp_ne (Or.inl (by decide))).trans ((fp_ne (Or.inl (by decide))).trans (fp_ne (Or.inl (by decide)))))) (fun k => (fp_ne (Or.inl (by decide))).trans ((fp_ne (Or.inl (by decide))).trans ((fp_ne (Or.inl (by decide))).trans (fp_ne (Or.inl (by decide)))))), ?_, ez.symm.trans he⟩
      show (cs1 ++ [(x, 0, 0)]).length + t.length ≤ 60
      rw [List.length_append, List.length_singleton]
      omega
    refine Pv.if0 rfl (fun c => ?_) (fun _ => ?_)
    · have q := (i_le (a := t.length + 1) (b := 0) (by omega) (by omega)).mp (of_decide_eq_true c)
      omega
    · refine Pv.aload rfl rfl ?_
      refine Pv.getR (v := .ref 82) rfl rfl (GW.at (a := 69) (k := 33) (b := 82) gG (by decide)) ?_
      refine Pv.aload rfl rfl ?_
      refine Pv.getI (z := Int32.ofNat (t.length + 1)) rfl rfl hK1.1 ?_
      refine Pv.lit rfl ?_
      refine Pv.bin (z := Int32.ofNat t.length) rfl (i_pre (by omega)) ?_
      refine Pv.ald (z := zs1 x) rfl (by rw [i_toNat (by omega)]; exact hK1.2.2 [] x t rfl) ?_
      refine Pv.lit rfl ?_
      refine Pv.icmp rfl (fun c => ?_) (fun c => ?_)
      · exact go (Or.inl (zs1_21.mp (of_decide_eq_true c)))
      · have n78 : ¬ x = 78 := fun e => of_decide_eq_false c (zs1_21.mpr e)
        refine Pv.aload rfl rfl ?_
        refine Pv.getR (v := .ref 82) rfl rfl (GW.at (a := 69) (k := 33) (b := 82) gG (by decide)) ?_
        refine Pv.aload rfl rfl ?_
        refine Pv.getI (z := Int32.ofNat (t.length + 1)) rfl rfl hK1.1 ?_
        refine Pv.lit rfl ?_
        refine Pv.bin (z := Int32.ofNat t.length) rfl (i_pre (by omega)) ?_
        refine Pv.ald (z := zs1 x) rfl (by rw [i_toNat (by omega)]; exact hK1.2.2 [] x t rfl) ?_
        refine Pv.lit rfl ?_
        refine Pv.icmp rfl (fun c2 => ?_) (fun c2 => ?_)
        · have n77 : ¬ x = 77 := fun e => by
            rw [zs1_22.mpr e] at c2
            exact absurd c2 (by decide)
          exact stop (by omega)
        · have y77 : x = 77 := zs1_22.mp (by simpa using c2)
          refine Pv.iload rfl rfl ?_
          refine Pv.lit rfl ?_
          cases b with
          | false =>
            refine Pv.icmp rfl (fun _ => ?_) (fun c3 => absurd c3 (by decide))
            exact stop (by rintro (e | ⟨-, e⟩); exact n78 e; cases e)
          | true =>
            refine Pv.icmp rfl (fun c3 => absurd c3 (by decide)) (fun _ => ?_)
            exact go (Or.inr ⟨y77, rfl⟩)
end
-- 63.b9zx.sy.lean.txt
section
/-- which leaf a word is -/
def zlf (k : Int) : Int32 := if 80 ≤ k ∧ k ≤ 88 then Int32.ofNat (k.toNat - 80) else -1
theorem r_leafOf {F : FW} {X : TT} (hN : NTF F X) (hW : WOK X) : Pm Z_X11_leafOf [.ref 69] F (fun r F' => r = some (.int (zlf X.k)) ∧ F' = F) := by
  refine Pm.of fun N => ?_
  obtain ⟨Q, hQ⟩ : ∃ Q : Option Value → FW → Prop, Q = (fun r F' => r = some (.int (zlf X.k)) ∧ F' = F) := ⟨_, rfl⟩
  rw [← hQ]
  refine (show Pv (ab_T (L_X11_leafOf Z_X11_isWord)) N 0 [some (.ref 69)] [] F Q from ?_)
  refine Pv.aload rfl rfl ?_
  refine Pv.lit rfl ?_
  refine Pv.callVI (as := [.ref 69, .long 119165535610212]) (rest := []) (z := b2i (decide (X.k = 64 + ((16 : Nat) : Int)))) rfl rfl rfl (r_isWord (j := 16) hN hW (by decide) (by decide +kernel)) ?_
  by_cases c0 : X.k = 64 + ((16 : Nat) : Int)
  · rw [decide_eq_true c0]
    refine Pv.if0 rfl (fun c => absurd c (by decide)) (fun _ => ?_)
    refine Pv.lit rfl ?_
    refine Pv.goto rfl ?_
    have e : zlf X.k = 0 := by
      unfold zlf
      rw [if_pos (by omega), show X.k.toNat - 80 = 0 by omega]
      rfl
    exact Pv.ret rfl (by rw [hQ, e]; exact ⟨rfl, rfl⟩)
  rw [decide_eq_false c0]
  refine Pv.if0 rfl (fun _ => ?_) (fun c => absurd c (by decide))
  refine Pv.aload rfl rfl ?_
  refine Pv.lit rfl ?_
  refine Pv.callVI (as := [.ref 69, .long 29395861899601252]) (rest := []) (z := b2i (decide (X.k = 64 + ((17 : Nat) : Int)))) rfl rfl rfl (r_isWord (j := 17) hN hW (by decide) (by decide +kernel)) ?_
  by_cases c1 : X.k = 64 + ((17 : Nat) : Int)
  · rw [decide_eq_true c1]
    refine Pv.if0 rfl (fun c => absurd c (by decide)) (fun _ => ?_)
    refine Pv.lit rfl ?_
    refine Pv.goto rfl ?_
    have e : zlf X.k = 1 := by
      unfold zlf
      rw [if_pos (by omega), show X.k.toNat - 80 = 1 by omega]
      rfl
    exact Pv.ret rfl (by rw [hQ, e]; exact ⟨rfl, rfl⟩)
  rw [decide_eq_false c1]
  refine Pv.if0 rfl (fun _ => ?_) (fun c => absurd c (by decide))
  refine Pv.aload rfl rfl ?_
  refine Pv.lit rfl ?_
  refine Pv.callVI (as := [.ref 69, .long 1835099237]) (rest := []) (z := b2i (decide (X.k = 64 + ((18 : Nat) : Int)))) rfl rfl rfl (r_isWord (j := 18) hN hW (by decide) (by decide +kernel)) ?_
  by_cases c2 : X.k = 64 + ((18 : Nat) : Int)
  · rw [decide_eq_true c2]
    refine Pv.if0 rfl (fun c => absurd c (by decide)) (fun _ => ?_)
    refine Pv.lit rfl ?_
    refine Pv.goto rfl ?_
    have e : zlf X.k = 2 := by
      unfold zlf
      rw [if_pos (by omega), show X.k.toNat - 80 = 2 by omega]
      rfl
    exact Pv.ret rfl (by rw [hQ, e]; exact ⟨rfl, rfl⟩)
  rw [decide_eq_false c2]
  refine Pv.if0 rfl (fun _ => ?_) (fun c => absurd c (by decide))
  refine Pv.aload rfl rfl ?_
  refine Pv.lit rfl ?_
  refine Pv.callVI (as := [.ref 69, .long 435426714990]) (rest := []) (z := b2i (decide (X.k = 64 + ((19 : Nat) : Int)))) rfl rfl rfl (r_isWord (j := 19) hN hW (by decide) (by decide +kernel)) ?_
  by_cases c3 : X.k = 64 + ((19 : Nat) : Int)
  · rw [decide_eq_true c3]
    refine Pv.if0 rfl (fun c => absurd c (by decide)) (fun _ => ?_)
    refine Pv.lit rfl ?_
    refine Pv.goto rfl ?_
    have e : zlf X.k = 3 := by
      unfold zlf
      rw [if_pos (by omega), show X.k.toNat - 80 = 3 by omega]
      rfl
    exact Pv.ret rfl (by rw [hQ, e]; exact ⟨rfl, rfl⟩)
  rw [decide_eq_false c3]
  refine Pv.if0 rfl (fun _ => ?_) (fun c => absurd c (by decide))
  refine Pv.aload rfl rfl ?_
  refine Pv.lit rfl ?_
  refine Pv.callVI (as := [.ref 69, .long 439721161573]) (rest := []) (z := b2i (decide (X.k = 64 + ((20 : Nat) : Int)))) rfl rfl rfl (r_isWord (j := 20) hN hW (by decide) (by decide +kernel)) ?_
  by_cases c4 : X.k = 64 + ((20 : Nat) : Int)
  · rw [decide_eq_true c4]
    refine Pv.if0 rfl (fun c => absurd c (by decide)) (fun _ => ?_)
    refine Pv.lit rfl ?_
    refine Pv.goto rfl ?_
    have e : zlf X.k = 4 := by
      unfold zlf
      rw [if_pos (by omega), show X.k.toNat - 80 = 4 by omega]
      rfl
    exact Pv.ret rfl (by rw [hQ, e]; exact ⟨rfl, rfl⟩)
  rw [decide_eq_false c4]
  refine Pv.if0 rfl (fun _ => ?_) (fun c => absurd c (by decide))
  refine Pv.aload rfl rfl ?_
  refine Pv.lit rfl ?_
  refine Pv.callVI (as := [.ref 69, .long 1852137842]) (rest := []) (z := b2i (decide (X.k = 64 + ((21 : Nat) : Int)))) rfl rfl rfl (r_isWord (j := 21) hN hW (by decide) (by decide +kernel)) ?_
  by_cases c5 : X.k = 64 + ((21 : Nat) : Int)
  · rw [decide_eq_true c5]
    refine Pv.if0 rfl (fun c => absurd c (by decide)) (fun _ => ?_)
    refine Pv.lit rfl ?_
    refine Pv.goto rfl ?_
    have e : zlf X.k = 5 := by
      unfold zlf
      rw [if_pos (by omega), show X.k.toNat - 80 = 5 by omega]
      rfl
    exact Pv.ret rfl (by rw [hQ, e]; exact ⟨rfl, rfl⟩)
  rw [decide_eq_false c5]
  refine Pv.if0 rfl (fun _ => ?_) (fun c => absurd c (by decide))
  refine Pv.aload rfl rfl ?_
  refine Pv.lit rfl ?_
  refine Pv.callVI (as := [.ref 69, .long 6709618]) (rest := []) (z := b2i (decide (X.k = 64 + ((22 : Nat) : Int)))) rfl rfl rfl (r_isWord (j := 22) hN hW (by decide) (by decide +kernel)) ?_
  by_cases c6 : X.k = 64 + ((22 : Nat) : Int)
  · rw [decide_eq_true c6]
    refine Pv.if0 rfl (fun c => absurd c (by decide)) (fun _ => ?_)
    refine Pv.lit rfl ?_
    refine Pv.goto rfl ?_
    have e : zlf X.k = 6 := by
      unfold zlf
      rw [if_pos (by omega), show X.k.toNat - 80 = 6 by omega]
      rfl
    exact Pv.ret rfl (by rw [hQ, e]; exact ⟨rfl, rfl⟩)
  rw [decide_eq_false c6]
  refine Pv.if0 rfl (fun _ => ?_) (fun c => absurd c (by decide))
  refine Pv.aload rfl rfl ?_
  refine Pv.lit rfl ?_
  refine Pv.callVI (as := [.ref 69, .long 27991845698233700]) (rest := []) (z := b2i (decide (X.k = 64 + ((23 : Nat) : Int)))) rfl rfl rfl (r_isWord (j := 23) hN hW (by decide) (by decide +kernel)) ?_
  by_cases c7 : X.k = 64 + ((23 : Nat) : Int)
  · rw [decide_eq_true c7]
    refine Pv.if0 rfl (fun c => absurd c (by decide)) (fun _ => ?_)
    refine Pv.lit rfl ?_
    refine Pv.goto rfl ?_
    have e : zlf X.k = 7 := by
      unfold zlf
      rw [if_pos (by omega), show X.k.toNat - 80 = 7 by omega]
      rfl
    exact Pv.ret rfl (by rw [hQ, e]; exact ⟨rfl, rfl⟩)
  rw [decide_eq_false c7]
  refine Pv.if0 rfl (fun _ => ?_) (fun c => absurd c (by decide))
  refine Pv.aload rfl rfl ?_
  refine Pv.lit rfl ?_
  refine Pv.callVI (as := [.ref 69, .long 121450625394034]) (rest := []) (z := b2i (decide (X.k = 64 + ((24 : Nat) : Int)))) rfl rfl rfl (r_isWord (j := 24) hN hW (by decide) (by decide +kernel)) ?_
  by_cases c8 : X.k = 64 + ((24 : Nat) : Int)
  · rw [decide_eq_true c8]
    refine Pv.if0 rfl (fun c => absurd c (by decide)) (fun _ => ?_)
    refine Pv.lit rfl ?_
    refine Pv.goto rfl ?_
    have e : zlf X.k = 8 := by
      unfold zlf
      rw [if_pos (by omega), show X.k.toNat - 80 = 8 by omega]
      rfl
    exact Pv.ret rfl (by rw [hQ, e]; exact ⟨rfl, rfl⟩)
  rw [decide_eq_false c8]
  refine Pv.if0 rfl (fun _ => ?_) (fun c => absurd c (by decide))
  refine Pv.lit rfl ?_
  have e : zlf X.k = -1 := if_neg (by omega)
  exact Pv.ret rfl (by rw [hQ, e]; exact ⟨rfl, rfl⟩)
/-- the reference stands at M -/
def ZX (F : FW) (B : Nat → Int) (n : Nat) (M : ZM) : Prop := GW F ∧ RTK F B n 200 M.1 ∧ F.1 69 35 = Int32.ofNat M.2.1 ∧ XC F M.2.2.1 ∧ XK F M.2.2.2.1 ∧ F.1 69 38 = cond M.2.2.2.2 1 0 ∧ F.1 69 15 = 0
def ZXQ (B : Nat → Int) (n : Nat) (F' : FW) (r : Option Value) (x : ZM ⊕ ZR) : Prop := match x with
  | .inl M => r = some (.int 1) ∧ ZX F' B n M
  | .inr (.inl _) => False
  | .inr (.inr e) => r = some (.int 0) ∧ F'.1 69 15 = e.1 ∧ (F'.1 69 16).toInt = (tok B n 200 e.2).pl
section ZXS
variable {F G : FW} {B : Nat → Int} {n i o : Nat} {cs : List ZO} {st : List Nat} {wh : Bool}
theorem ZX.nx (h : ZX F B n (i, o, cs, st, wh)) (x : RNX F G) (t : RTK G B n 200 (i + 1)) : ZX G B n (i + 1, o, cs, st, wh) := by
  have e : ∀ k, k ≠ 4 → k ≠ 11 → k ≠ 12 → k ≠ 13 → k ≠ 14 → G.1 69 k = F.1 69 k := x.2.1
  exact ⟨x.G h.1, t, (e 35 (by decide) (by decide) (by decide) (by decide) (by decide)).trans h.2.2.1, h.2.2.2.1.of (e 34 (by decide) (by decide) (by decide) (by decide) (by decide)) (fun k => x.1.1 73 k (by decide)), h.2.2.2.2.1.of (e 36 (by decide) (by decide) (by decide) (by decide) (by decide)) (e 37 (by decide) (by decide) (by decide) (by decide) (by decide)) (fun k => x.1.1 82 k (by decide)), (e 38 (by decide) (by decide) (by decide) (by decide) (by decide)).trans h.2.2.2.2.2.1, (e 15 (by decide) (by decide) (by decide) (by decide) (by decide)).trans h.2.2.2.2.2.2⟩
theorem ZX.lx (h : ZX F B n (i, o, cs, st, wh)) (x : RLX F G) {j : Nat} (t : RTK G B n 200 j) (e15 : G.1 69 15 = F.1 69 15) : ZX G B n (j, o, cs, st, wh) := by
  have e : ∀ k, k = 34 ∨ k = 35 ∨ k = 36 ∨ k = 37 ∨ k = 38 → G.1 69 k = F.1 69 k := fun k c => x.2.1 k (by omega) (by omega) (by omega) (by omega) (by omega) (by omega) (by omega) (by omega)
  exact ⟨x.G h.1, t, (e 35 (by omega)).trans h.2.2.1, h.2.2.2.1.of (e 34 (by omega)) (fun k => x.1.1 73 k (by decide)), h.2.2.2.2.1.of (e 36 (by omega)) (e 37 (by omega)) (fun k => x.1.1 82 k (by decide)), (e 38 (by omega)).trans h.2.2.2.2.2.1, e15.trans h.2.2.2.2.2.2⟩
theorem ZX.zf (h : ZX F B n (i, o, cs, st, wh)) (x : ZF1 F G) {cs2 : List ZO} {st2 : List Nat} (c : XC G cs2) (k : XK G st2) : ZX G B n (i, o, cs2, st2, wh) :=
  ⟨x.G h.1, h.2.1.zf x, (x.2.1 35 (by decide) (by decide) (by decide)).trans h.2.2.1, c, k, (x.2.1 38 (by decide) (by decide) (by decide)).trans h.2.2.2.2.2.1, (x.2.1 15 (by decide) (by decide) (by decide)).trans h.2.2.2.2.2.2⟩
/-- whether an operand stands, told anew -/
theorem RTK.p38 {v : Int32} (t : RTK F B n 200 i) {k : Nat} (c : k = 35 ∨ k = 38) : RTK (fp F 69 k v) B n 200 i := by
  have e : ∀ j, j ≠ 35 → j ≠ 38 → (fp F 69 k v).1 69 j = F.1 69 j := fun j h1 h2 => fp_ne (Or.inr (by omega))
  refine ⟨(e 3 (by decide) (by decide)).trans t.1, (e 5 (by decide) (by decide)).trans t.2.1, (RBF_same fun k => fp_ne (Or.inl (by decide))).trans t.2.2.1, ?_, t.2.2.2.2⟩
  unfold NTF
  rw [e 12 (by decide) (by decide), e 4 (by decide) (by decide), e 11 (by decide) (by decide), e 14 (by decide) (by decide)]
  exact t.2.2.2.1
theorem ZX.p38 (h : ZX F B n (i, o, cs, st, wh)) (b : Bool) : ZX (fp F 69 38 (cond b 1 0)) B n (i, o, cs, st, b) :=
  ⟨h.1.fx (FX.fp (P := fun q => q = 69) FX.rf rfl), h.2.1.p38 (Or.inr rfl), (fp_ne (Or.inr (by decide))).trans h.2.2.1, h.2.2.2.1.of (fp_ne (Or.inr (by decide))) (fun k => fp_ne (Or.inl (by decide))), h.2.2.2.2.1.of (fp_ne (Or.inr (by decide))) (fp_ne (Or.inr (by decide))) (fun k => fp_ne (Or.inl (by decide))), fp_eq, (fp_ne (Or.inr (by decide))).trans h.2.2.2.2.2.2⟩
theorem ZX.p35 (h : ZX F B n (i, o, cs, st, wh)) (o2 : Nat) : ZX (fp F 69 35 (Int32.ofNat o2)) B n (i, o2, cs, st, wh) :=
  ⟨h.1.fx (FX.fp (P := fun q => q = 69) FX.rf rfl), h.2.1.p38 (Or.inl rfl), fp_eq, h.2.2.2.1.of (fp_ne (Or.inr (by decide))) (fun k => fp_ne (Or.inl (by decide))), h.2.2.2.2.1.of (fp_ne (Or.inr (by decide))) (fp_ne (Or.inr (by decide))) (fun k => fp_ne (Or.inl (by decide))), (fp_ne (Or.inr (by decide))).trans h.2.2.2.2.2.1, (fp_ne (Or.inr (by decide))).trans h.2.2.2.2.2.2⟩
theorem x_bad {c : Int32} {F' : FW} (t : RTK F B n 200 i) (e : F' = fp (fp F 69 15 c) 69 16 (F.1 69 12)) : ZXQ B n F' (some (.int 0)) (.inr (zn c i)) := by
  subst e
  exact ⟨rfl, (fp_ne (Or.inr (by decide))).trans fp_eq, (congrArg Int32.toInt fp_eq).trans t.2.2.2.1.1⟩
/-- codes written -/
theorem ZX.cd (h : ZX F B n (i, o, cs, st, wh)) (x : ZO) : ZX (fp (fp (fp (fp F 73 (3 * cs.length) (zc3 x).1) 73 (3 * cs.length + 1) (zc3 x).2.1) 73 (3 * cs.length + 2) (zc3 x).2.2) 69 34 (Int32.ofNat (cs.length + 1))) B n (i, o, cs ++ [x], st, wh) :=
  h.zf ((((ZF1.rf.c).c).c).p (Or.inl rfl)) (h.2.2.2.1.add x) (h.2.2.2.2.1.of ((fp_ne (Or.inr (by decide))).trans ((fp_ne (Or.inl (by decide))).trans ((fp_ne (Or.inl (by decide))).trans (fp_ne (Or.inl (by decide)))))) ((fp_ne (Or.inr (by decide))).trans ((fp_ne (Or.inl (by decide))).trans ((fp_ne (Or.inl (by decide))).trans (fp_ne (Or.inl (by decide)))))) (fun k => (fp_ne (Or.inl (by decide))).trans ((fp_ne (Or.inl (by decide))).trans ((fp_ne (Or.inl (by decide))).trans (fp_ne (Or.inl (by decide)))))))
/-- laid on the stack -/
theorem ZX.pu (h : ZX F B n (i, o, cs, st, wh)) (x : Nat) {d : Nat} (hd : zm_dp (x :: st) = d) : ZX (fp (fp (fp F 82 st.length (zs1 x)) 69 36 (Int32.ofNat (st.length + 1))) 69 37 (Int32.ofNat (1 + d))) B n (i, o, cs, x :: st, wh) :=
  h.zf (((ZF1.rf.s).p (Or.inr (Or.inl rfl))).p (Or.inr (Or.inr rfl))) (h.2.2.2.1.of ((fp_ne (Or.inr (by decide))).trans ((fp_ne (Or.inr (by decide))).trans (fp_ne (Or.inl (by decide))))) (fun k => (fp_ne (Or.inl (by decide))).trans ((fp_ne (Or.inl (by decide))).trans (fp_ne (Or.inl (by decide)))))) (h.2.2.2.2.1.pu ((fp_ne (Or.inr (by decide))).trans fp_eq) (fp_eq.trans (by rw [hd])) ((fp_ne (Or.inl (by decide))).trans ((fp_ne (Or.inl (by decide))).trans fp_eq)) (fun k hk => (fp_ne (Or.inl (by decide))).trans ((fp_ne (Or.inl (by decide))).trans (fp_ne (Or.inr hk)))))
/-- laid on the stack, no deeper -/
theorem ZX.pu0 (h : ZX F B n (i, o, cs, st, wh)) (x : Nat) (hx : ¬ (x = 79 ∨ x = 40)) : ZX (fp (fp F 82 st.length (zs1 x)) 69 36 (Int32.ofNat (st.length + 1))) B n (i, o, cs, x :: st, wh) :=
  h.zf ((ZF1.rf.s).p (Or.inr (Or.inl rfl))) (h.2.2.2.1.of ((fp_ne (Or.inr (by decide))).trans (fp_ne (Or.inl (by decide)))) (fun k => (fp_ne (Or.inl (by decide))).trans (fp_ne (Or.inl (by decide))))) (h.2.2.2.2.1.pu fp_eq ((fp_ne (Or.inr (by decide))).trans ((fp_ne (Or.inl (by decide))).trans (h.2.2.2.2.1.2.1.trans (by rw [zdp_0 hx])))) ((fp_ne (Or.inl (by decide))).trans fp_eq) (fun k hk => (fp_ne (Or.inl (by decide))).trans (fp_ne (Or.inr hk))))
end ZXS
theorem x_operand {F : FW} {B : Nat → Int} {n i o : Nat} {cs : List ZO} {st : List Nat} (h : ZX F B n (i, o, cs, st, false)) (ho : o ≤ 20) (hb : cs.length + st.length ≤ 50) : Pm Z_X11_operand [.ref 69] F (fun r F' => ZXQ B n F' r (zm_opd (tok B n 200) i o cs st)) := by
  refine Pm.of fun N => ?_
  obtain ⟨Q, hQ⟩ : ∃ Q : Option Value → FW → Prop, Q = (fun r F' => ZXQ B n F' r (zm_opd (tok B n 200) i o cs st)) := ⟨_, rfl⟩
  rw [← hQ]
  obtain ⟨hG, hT, h35, hC, hK, h38, h15⟩ := id h
  replace hT : RTK F B n 200 i := hT
  replace h35 : F.1 69 35 = Int32.ofNat o := h35
  replace hC : XC F cs := hC
  replace hK : XK F st := hK
  have hN := hT.2.2.2.1
  have e40 : (40 : Int32).toInt = 40 := rfl
  have dl := zdp_le st
  have p56 : z_is (tok B n 200) i → (20 ≤ o ∨ 8 ≤ zm_dp st) → Pv (ab_T (L_X11_operand Z_X11_isWord Z_X11_isSign Z_X11_leafOf Z_X11_bad Z_X11_next Z_X11_takes Z_X11_code)) N 56 [some (.ref 69), some (.int (b2i (decide ((tok B n 200 i).k = 64 + ((15 : Nat) : Int))))), some (.int (b2i (decide ((tok B n 200 i).k = (40 : Int32).toInt)))), some (.int (zlf (tok B n 200 i).k)), none] [] F Q := fun ci cm => by
    have ez : zm_opd (tok B n 200) i o cs st = .inr (zn 4 i) := (if_pos ci).trans (if_pos cm)
    refine Pv.aload rfl rfl ?_
    refine Pv.lit rfl ?_
    refine Pv.callV (as := [.ref 69, .int 4]) (rest := []) rfl rfl rfl (r_bad (c := 4) hG) (fun r2 G2 p => ?_)
    obtain ⟨rfl, e2⟩ := p
    refine (show Pv (ab_T (L_X11_operand Z_X11_isWord Z_X11_isSign Z_X11_leafOf Z_X11_bad Z_X11_next Z_X11_takes Z_X11_code)) N 61 [some (.ref 69), some (.int (b2i (decide ((tok B n 200 i).k = 64 + ((15 : Nat) : Int))))), some (.int (b2i (decide ((tok B n 200 i).k = (40 : Int32).toInt)))), some (.int (zlf (tok B n 200 i).k)), none] [.int 0] G2 Q from ?_)
    exact Pv.zret rfl (by rw [hQ, ez]; exact x_bad (i := i) hT e2)
  have p84 : ∀ (x : Nat) (v : Int32) (F3 : FW), ((x = 79 ∧ (tok B n 200 i).k = 79) ∨ (x = 40 ∧ (tok B n 200 i).k = 40)) → ZX F3 B n (i + 1, o + 1, cs, st, false) → zm_opd (tok B n 200) i o cs st = .inl (i + 1, o + 1, cs, x :: st, false) → Pv (ab_T (L_X11_operand Z_X11_isWord Z_X11_isSign Z_X11_leafOf Z_X11_bad Z_X11_next Z_X11_takes Z_X11_code)) N 84 [some (.ref 69), some (.int (b2i (decide ((tok B n 200 i).k = 64 + ((15 : Nat) : Int))))), some (.int (b2i (decide ((tok B n 200 i).k = (40 : Int32).toInt)))), some (.int (zlf (tok B n 200 i).k)), none] [] F3 Q := fun x v F3 hx h3 ez => by
    obtain ⟨g3, t3, -, -, k3, -, -⟩ := id h3
    replace k3 : XK F3 st := k3
    have dx : zm_dp (x :: st) = 1 + zm_dp st := zdp_1 (by omega)
    have e36 : ∀ w : Int32, (fp F3 82 st.length w).1 69 36 = Int32.ofNat st.length := fun w => (fp_ne (Or.inl (by decide))).trans k3.1
    refine Pv.aload rfl rfl ?_
    refine Pv.getR (v := .ref 82) rfl rfl (GW.at (a := 69) (k := 33) (b := 82) g3 (by decide)) ?_
    refine Pv.aload rfl rfl ?_
    refine Pv.getI (z := Int32.ofNat st.length) rfl rfl k3.1 ?_
    refine Pv.iload rfl rfl ?_
    have tail : Pv (ab_T (L_X11_operand Z_X11_isWord Z_X11_isSign Z_X11_leafOf Z_X11_bad Z_X11_next Z_X11_takes Z_X11_code)) N 103 [some (.ref 69), some (.int (b2i (decide ((tok B n 200 i).k = 64 + ((15 : Nat) : Int))))), some (.int (b2i (decide ((tok B n 200 i).k = (40 : Int32).toInt)))), some (.int (zlf (tok B n 200 i).k)), none] [.int (zs1 x), .int (Int32.ofNat st.length), .ref 82] F3 Q := by
      refine Pv.astk (k := st.length) (z := zs1 x) rfl (i_toNat (by omega)) rfl ?_
      refine Pv.aload rfl rfl ?_
      refine Pv.dup rfl ?_
      refine Pv.getI (z := Int32.ofNat st.length) rfl rfl (e36 _) ?_
      refine Pv.lit rfl ?_
      refine Pv.bin (z := Int32.ofNat (st.length + 1)) rfl (i_add st.length 1) ?_
      refine Pv.putI rfl rfl ?_
      refine Pv.aload rfl rfl ?_
      refine Pv.dup rfl ?_
      refine Pv.getI (z := Int32.ofNat (1 + zm_dp st)) rfl rfl ((fp_ne (Or.inr (by decide))).trans ((fp_ne (Or.inl (by decide))).trans k3.2.1)) ?_
      refine Pv.lit rfl ?_
      refine Pv.bin (z := Int32.ofNat (1 + (1 + zm_dp st))) rfl ((i_add (1 + zm_dp st) 1).trans (congrArg Int32.ofNat (by omega))) ?_
      refine Pv.putI rfl rfl ?_
      refine Pv.lit rfl ?_
      exact Pv.zret rfl (by rw [hQ, ez]; exact ⟨rfl, h3.pu x dx⟩)
    rcases hx with ⟨rfl, hx⟩ | ⟨rfl, hx⟩
    · rw [show decide ((tok B n 200 i).k = 64 + ((15 : Nat) : Int)) = true from decide_eq_true (by omega)] at tail ⊢
      refine Pv.if0 rfl (fun c => absurd c (by decide)) (fun _ => ?_)
      refine Pv.lit rfl ?_
      refine Pv.goto rfl ?_
      exact tail
    · rw [show decide ((tok B n 200 i).k = 64 + ((15 : Nat) : Int)) = false from decide_eq_false (by omega)] at tail ⊢
      refine Pv.if0 rfl (fun _ => ?_) (fun c => absurd c (by decide))
      refine Pv.lit rfl ?_
      exact tail
  have p126 : (80 ≤ (tok B n 200 i).k ∧ (tok B n 200 i).k ≤ 88) → ∀ F3 : FW, ZX F3 B n (i + 1, o + 1, cs, st, false) → zm_opd (tok B n 200) i o cs st = zm_lf st (z_leaf (tok B n 200) i (o + 1) cs) → Pv (ab_T (L_X11_operand Z_X11_isWord Z_X11_isSign Z_X11_leafOf Z_X11_bad Z_X11_next Z_X11_takes Z_X11_code)) N 126 [some (.ref 69), some (.int (b2i (decide ((tok B n 200 i).k = 64 + ((15 : Nat) : Int))))), some (.int (b2i (decide ((tok B n 200 i).k = (40 : Int32).toInt)))), some (.int (zlf (tok B n 200 i).k)), none] [] F3 Q := fun hk F3 h3 ez => by
    have ek : zlf (tok B n 200 i).k = Int32.ofNat ((tok B n 200 i).k.toNat - 80) := if_pos hk
    refine Pv.aload rfl rfl ?_
    refine Pv.lit rfl ?_
    refine Pv.putI rfl rfl ?_
    have h4 : ZX (fp F3 69 38 1) B n (i + 1, o + 1, cs, st, true) := h3.p38 true
    obtain ⟨F4, hF4⟩ : ∃ F4 : FW, F4 = fp F3 69 38 1 := ⟨_, rfl⟩
    rw [← hF4] at h4 ⊢
    refine (show Pv (ab_T (L_X11_operand Z_X11_isWord Z_X11_isSign Z_X11_leafOf Z_X11_bad Z_X11_next Z_X11_takes Z_X11_code)) N 131 [some (.ref 69), some (.int (b2i (decide ((tok B n 200 i).k = 64 + ((15 : Nat) : Int))))), some (.int (b2i (decide ((tok B n 200 i).k = (40 : Int32).toInt)))), some (.int (zlf (tok B n 200 i).k)), none] [] F4 Q from ?_)
    rw [ek]
    refine Pv.iload rfl rfl ?_
    refine Pv.lit rfl ?_
    refine Pv.icmp rfl (fun c => ?_) (fun c => ?_)
    · have q := (i_le (a := 5) (b := (tok B n 200 i).k.toNat - 80) (by omega) (by omega)).mp (of_decide_eq_true c)
      have h84 : ¬ (tok B n 200 i).k ≤ 84 := by omega
      have hN4 : NTF F4 (tok B n 200 (i + 1)) := h4.2.1.2.2.2.1
      have bad1 : ¬ ((tok B n 200 (i + 1)).k = 60 ∨ (tok B n 200 (i + 1)).k = 61 ∨ (tok B n 200 (i + 1)).k = 62) → Pv (ab_T (L_X11_operand Z_X11_isWord Z_X11_isSign Z_X11_leafOf Z_X11_bad Z_X11_next Z_X11_takes Z_X11_code)) N 185 [some (.ref 69), some (.int (b2i (decide ((tok B n 200 i).k = 64 + ((15 : Nat) : Int))))), some (.int (b2i (decide ((tok B n 200 i).k = (40 : Int32).toInt)))), some (.int (Int32.ofNat ((tok B n 200 i).k.toNat - 80))), none] [] F4 Q := fun cb => by
        have el : z_leaf (tok B n 200) i (o + 1) cs = zn 1 (i + 1) := (if_neg h84).trans (if_neg cb)
        rw [el] at ez
        refine Pv.aload rfl rfl ?_
        refine Pv.lit rfl ?_
        refine Pv.callV (as := [.ref 69, .int 1]) (rest := []) rfl rfl rfl (r_bad (c := 1) h4.1) (fun r2 G2 p => ?_)
        obtain ⟨rfl, e2⟩ := p
        refine (show Pv (ab_T (L_X11_operand Z_X11_isWord Z_X11_isSign Z_X11_leafOf Z_X11_bad Z_X11_next Z_X11_takes Z_X11_code)) N 190 [some (.ref 69), some (.int (b2i (decide ((tok B n 200 i).k = 64 + ((15 : Nat) : Int))))), some (.int (b2i (decide ((tok B n 200 i).k = (40 : Int32).toInt)))), some (.int (Int32.ofNat ((tok B n 200 i).k.toNat - 80))), none] [.int 0] G2 Q from ?_)
        exact Pv.zret rfl (by rw [hQ, ez]; exact x_bad (i := i + 1) h4.2.1 e2)
      have good : ((tok B n 200 (i + 1)).k = 60 ∨ (tok B n 200 (i + 1)).k = 61 ∨ (tok B n 200 (i + 1)).k = 62) → Pv (ab_T (L_X11_operand Z_X11_isWord Z_X11_isSign Z_X11_leafOf Z_X11_bad Z_X11_next Z_X11_takes Z_X11_code)) N 191 [some (.ref 69), some (.int (b2i (decide ((tok B n 200 i).k = 64 + ((15 : Nat) : Int))))), some (.int (b2i (decide ((tok B n 200 i).k = (40 : Int32).toInt)))), some (.int (Int32.ofNat ((tok B n 200 i).k.toNat - 80))), none] [] F4 Q := fun cg => by
        have rk : rkk (tok B n 200 (i + 1)).k = 3 := by rcases cg with e | e | e <;> rw [e] <;> rfl
        have e14 : F4.1 69 14 = Int32.ofNat (tok B n 200 (i + 1)).k.toNat := i_ofv (hN4.2.2.2.2.1 rk) (by omega)
        refine Pv.aload rfl rfl ?_
        refine Pv.getI (z := Int32.ofNat (tok B n 200 (i + 1)).k.toNat) rfl rfl e14 ?_
        refine Pv.istore (lo' := [some (.ref 69), some (.int (b2i (decide ((tok B n 200 i).k = 64 + ((15 : Nat) : Int))))), some (.int (b2i (decide ((tok B n 200 i).k = (40 : Int32).toInt)))), some (.int (Int32.ofNat ((tok B n 200 i).k.toNat - 80))), some (.int (Int32.ofNat (tok B n 200 (i + 1)).k.toNat))]) rfl rfl ?_
        refine Pv.aload rfl rfl ?_
        refine Pv.callV (as := [.ref 69]) (rest := []) rfl rfl rfl (r_next h4.1 h4.2.1) (fun r5 F5 p => ?_)
        obtain ⟨rfl, x5, t5⟩ := p
        have h5 := h4.nx x5 t5
        have hN5 : NTF F5 (tok B n 200 (i + 1 + 1)) := h5.2.1.2.2.2.1
        refine (show Pv (ab_T (L_X11_operand Z_X11_isWord Z_X11_isSign Z_X11_leafOf Z_X11_bad Z_X11_next Z_X11_takes Z_X11_code)) N 201 [some (.ref 69), some (.int (b2i (decide ((tok B n 200 i).k = 64 + ((15 : Nat) : Int))))), some (.int (b2i (decide ((tok B n 200 i).k = (40 : Int32).toInt)))), some (.int (Int32.ofNat ((tok B n 200 i).k.toNat - 80))), some (.int (Int32.ofNat (tok B n 200 (i + 1)).k.toNat))] [] F5 Q from ?_)
        refine Pv.aload rfl rfl ?_
        refine Pv.getI (z := F5.1 69 11) rfl rfl rfl ?_
        refine Pv.lit rfl ?_
        refine Pv.icmp rfl (fun c2 => ?_) (fun c2 => ?_)
        · have k3 : (tok B n 200 (i + 1 + 1)).k = 3 := rkk_2 (hN5.2.2.1.symm.trans (congrArg Int32.toInt (of_decide_eq_true c2)))
          have v5 := tok_v999 B n 200 (i + 1 + 1) k3
          have e14b : F5.1 69 14 = Int32.ofNat (tok B n 200 (i + 1 + 1)).v.toNat := i_ofv (hN5.2.2.2.1 (by rw [k3]; rfl)) v5.1
          have el : z_leaf (tok B n 200) i (o + 1) cs = zy (i + 3) (o + 1) (cs ++ [((tok B n 200 i).k.toNat, (tok B n 200 (i + 1)).k.toNat, (tok B n 200 (i + 1 + 1)).v.toNat)]) := ((if_neg h84).trans (if_pos cg)).trans (if_pos k3)
          rw [el] at ez
          have z3 : zc3 ((tok B n 200 i).k.toNat, (tok B n 200 (i + 1)).k.toNat, (tok B n 200 (i + 1 + 1)).v.toNat) = (Int32.ofNat ((tok B n 200 i).k.toNat - 80), Int32.ofNat (tok B n 200 (i + 1)).k.toNat, Int32.ofNat (tok B n 200 (i + 1 + 1)).v.toNat) := ((((if_neg (by show ¬ (tok B n 200 i).k.toNat = 79; omega)).trans (if_neg (by show ¬ (tok B n 200 i).k.toNat = 78; omega))).trans (if_neg (by show ¬ (tok B n 200 i).k.toNat = 77; omega))).trans (if_neg (by show ¬ (tok B n 200 i).k.toNat ≤ 84; omega)))
          refine Pv.aload rfl rfl ?_
          refine Pv.iload rfl rfl ?_
          refine Pv.iload rfl rfl ?_
          refine Pv.aload rfl rfl ?_
          refine Pv.getI (z := Int32.ofNat (tok B n 200 (i + 1 + 1)).v.toNat) rfl rfl e14b ?_
          refine Pv.callV (as := [.ref 69, .int (Int32.ofNat ((tok B n 200 i).k.toNat - 80)), .int (Int32.ofNat (tok B n 200 (i + 1)).k.toNat), .int (Int32.ofNat (tok B n 200 (i + 1 + 1)).v.toNat)]) (rest := []) rfl rfl rfl (r_code (z := cs.length) h5.1 h5.2.2.2.1.1 (by omega) _ _ _) (fun r6 F6 p => ?_)
          obtain ⟨rfl, e6⟩ := p
          have h6 := h5.cd ((tok B n 200 i).k.toNat, (tok B n 200 (i + 1)).k.toNat, (tok B n 200 (i + 1 + 1)).v.toNat)
          rw [z3] at h6
          replace h6 : ZX F6 B n (i + 1 + 1, o + 1, cs ++ [((tok B n 200 i).k.toNat, (tok B n 200 (i + 1)).k.toNat, (tok B n 200 (i + 1 + 1)).v.toNat)], st, true) := by rw [e6]; exact h6
          refine (show Pv (ab_T (L_X11_operand Z_X11_isWord Z_X11_isSign Z_X11_leafOf Z_X11_bad Z_X11_next Z_X11_takes Z_X11_code)) N 226 [some (.ref 69), some (.int (b2i (decide ((tok B n 200 i).k = 64 + ((15 : Nat) : Int))))), some (.int (b2i (decide ((tok B n 200 i).k = (40 : Int32).toInt)))), some (.int (Int32.ofNat ((tok B n 200 i).k.toNat - 80))), some (.int (Int32.ofNat (tok B n 200 (i + 1)).k.toNat))] [] F6 Q from ?_)
          refine Pv.aload rfl rfl ?_
          refine Pv.callV (as := [.ref 69]) (rest := []) rfl rfl rfl (r_next h6.1 h6.2.1) (fun r7 F7 p => ?_)
          obtain ⟨rfl, x7, t7⟩ := p
          refine (show Pv (ab_T (L_X11_operand Z_X11_isWord Z_X11_isSign Z_X11_leafOf Z_X11_bad Z_X11_next Z_X11_takes Z_X11_code)) N 230 [some (.ref 69), some (.int (b2i (decide ((tok B n 200 i).k = 64 + ((15 : Nat) : Int))))), some (.int (b2i (decide ((tok B n 200 i).k = (40 : Int32).toInt)))), some (.int (Int32.ofNat ((tok B n 200 i).k.toNat - 80))), some (.int (Int32.ofNat (tok B n 200 (i + 1)).k.toNat))] [] F7 Q from ?_)
          refine Pv.lit rfl ?_
          exact Pv.zret rfl (by rw [hQ, ez]; exact ⟨rfl, h6.nx x7 t7⟩)
        · have k3 : ¬ (tok B n 200 (i + 1 + 1)).k = 3 := fun e => of_decide_eq_false c2 (Int32.toInt_inj.mp (hN5.2.2.1.trans (by rw [e]; rfl)))
          have el : z_leaf (tok B n 200) i (o + 1) cs = zn 1 (i + 1 + 1) := ((if_neg h84).trans (if_pos cg)).trans (if_neg k3)
          rw [el] at ez
          refine Pv.aload rfl rfl ?_
          refine Pv.lit rfl ?_
          refine Pv.callV (as := [.ref 69, .int 1]) (rest := []) rfl rfl rfl (r_bad (c := 1) h5.1) (fun r2 G2 p => ?_)
          obtain ⟨rfl, e2⟩ := p
          refine (show Pv (ab_T (L_X11_operand Z_X11_isWord Z_X11_isSign Z_X11_leafOf Z_X11_bad Z_X11_next Z_X11_takes Z_X11_code)) N 214 [some (.ref 69), some (.int (b2i (decide ((tok B n 200 i).k = 64 + ((15 : Nat) : Int))))), some (.int (b2i (decide ((tok B n 200 i).k = (40 : Int32).toInt)))), some (.int (Int32.ofNat ((tok B n 200 i).k.toNat - 80))), some (.int (Int32.ofNat (tok B n 200 (i + 1)).k.toNat))] [.int 0] G2 Q from ?_)
          exact Pv.zret rfl (by rw [hQ, ez]; exact x_bad (i := i + 1 + 1) h5.2.1 e2)
      refine Pv.aload rfl rfl ?_
      refine Pv.getI (z := F4.1 69 11) rfl rfl rfl ?_
      refine Pv.lit rfl ?_
      have e3 : (3 : Int32).toInt = 3 := rfl
      have e60 : (60 : Int32).toInt = 60 := rfl
      have e62 : (62 : Int32).toInt = 62 := rfl
      refine Pv.icmp rfl (fun c2 => ?_) (fun c2 => ?_)
      · replace c2 : decide (F4.1 69 11 = 3) = false := by simpa using c2
        have n3 : ¬ rkk (tok B n 200 (i + 1)).k = 3 := fun e => of_decide_eq_false c2 (Int32.toInt_inj.mp (hN4.2.2.1.trans (e.trans e3.symm)))
        exact bad1 (fun cg => n3 (by rcases cg with e | e | e <;> rw [e] <;> rfl))
      · replace c2 : decide (F4.1 69 11 = 3) = true := by simpa using c2
        have r3 : rkk (tok B n 200 (i + 1)).k = 3 := hN4.2.2.1.symm.trans ((congrArg Int32.toInt (of_decide_eq_true c2)).trans e3)
        have v14 := hN4.2.2.2.2.1 r3
        refine Pv.aload rfl rfl ?_
        refine Pv.getI (z := F4.1 69 14) rfl rfl rfl ?_
        refine Pv.lit rfl ?_
        refine Pv.icmp rfl (fun c3 => ?_) (fun c3 => ?_)
        · have q3 := Int32.lt_iff_toInt_lt.mp (of_decide_eq_true c3)
          rw [v14, e60] at q3
          exact bad1 (by omega)
        · have q3 := mt Int32.lt_iff_toInt_lt.mpr (of_decide_eq_false c3)
          rw [v14, e60] at q3
          refine Pv.aload rfl rfl ?_
          refine Pv.getI (z := F4.1 69 14) rfl rfl rfl ?_
          refine Pv.lit rfl ?_
          refine Pv.icmp rfl (fun c4 => ?_) (fun c4 => ?_)
          · have q4 := Int32.le_iff_toInt_le.mp (of_decide_eq_true c4)
            rw [v14, e62] at q4
            exact good (by omega)
          · have q4 := mt Int32.le_iff_toInt_le.mpr (of_decide_eq_false c4)
            rw [v14, e62] at q4
            exact bad1 (by omega)
    · have q := mt (i_le (a := 5) (b := (tok B n 200 i).k.toNat - 80) (by omega) (by omega)).mpr (of_decide_eq_false c)
      have h84 : (tok B n 200 i).k ≤ 84 := by omega
      refine Pv.aload rfl rfl ?_
      refine Pv.lit rfl ?_
      refine Pv.lit rfl ?_
      refine Pv.callV (as := [.ref 69, .int 0, .int 1]) (rest := []) rfl rfl rfl (r_takes h4.1 h4.2.1 0 1) (fun r5 F5 p => ?_)
      obtain ⟨rfl, sp, v18⟩ := p
      have e0 : (0 : Int32).toInt = 0 := rfl
      have e1 : (1 : Int32).toInt = 1 := rfl
      rw [e0, e1] at sp v18 ⊢
      by_cases ct : tnN (tok B n 200 (i + 1)) 0 1 = 0
      · have kn := tnN_k ct
        obtain ⟨t5, f15⟩ := sp.2.1 ct
        have h5 := h4.lx sp.1 t5 f15
        have e18 : F5.1 69 18 = Int32.ofNat (tok B n 200 (i + 1)).v.toNat := i_ofv (v18 ct) kn.2.1
        have el : z_leaf (tok B n 200) i (o + 1) cs = zy (i + 2) (o + 1) (cs ++ [((tok B n 200 i).k.toNat, (tok B n 200 (i + 1)).v.toNat, 0)]) := (if_pos h84).trans (if_pos ct)
        rw [el] at ez
        have z3 : zc3 ((tok B n 200 i).k.toNat, (tok B n 200 (i + 1)).v.toNat, 0) = (Int32.ofNat ((tok B n 200 i).k.toNat - 80), 0, Int32.ofNat (tok B n 200 (i + 1)).v.toNat) := ((((if_neg (by show ¬ (tok B n 200 i).k.toNat = 79; omega)).trans (if_neg (by show ¬ (tok B n 200 i).k.toNat = 78; omega))).trans (if_neg (by show ¬ (tok B n 200 i).k.toNat = 77; omega))).trans (if_pos (by show (tok B n 200 i).k.toNat ≤ 84; omega)))
        rw [decide_eq_true ct]
        refine (show Pv (ab_T (L_X11_operand Z_X11_isWord Z_X11_isSign Z_X11_leafOf Z_X11_bad Z_X11_next Z_X11_takes Z_X11_code)) N 142 [some (.ref 69), some (.int (b2i (decide ((tok B n 200 i).k = 64 + ((15 : Nat) : Int))))), some (.int (b2i (decide ((tok B n 200 i).k = (40 : Int32).toInt)))), some (.int (Int32.ofNat ((tok B n 200 i).k.toNat - 80))), none] [.int 1] F5 Q from ?_)
        refine Pv.if0 rfl (fun _ => ?_) (fun c => absurd c (by decide))
        refine Pv.aload rfl rfl ?_
        refine Pv.iload rfl rfl ?_
        refine Pv.lit rfl ?_
        refine Pv.aload rfl rfl ?_
        refine Pv.getI (z := Int32.ofNat (tok B n 200 (i + 1)).v.toNat) rfl rfl e18 ?_
        refine Pv.callV (as := [.ref 69, .int (Int32.ofNat ((tok B n 200 i).k.toNat - 80)), .int 0, .int (Int32.ofNat (tok B n 200 (i + 1)).v.toNat)]) (rest := []) rfl rfl rfl (r_code (z := cs.length) h5.1 h5.2.2.2.1.1 (by omega) _ _ _) (fun r6 F6 p => ?_)
        obtain ⟨rfl, e6⟩ := p
        have h6 := h5.cd ((tok B n 200 i).k.toNat, (tok B n 200 (i + 1)).v.toNat, 0)
        rw [z3] at h6
        refine (show Pv (ab_T (L_X11_operand Z_X11_isWord Z_X11_isSign Z_X11_leafOf Z_X11_bad Z_X11_next Z_X11_takes Z_X11_code)) N 157 [some (.ref 69), some (.int (b2i (decide ((tok B n 200 i).k = 64 + ((15 : Nat) : Int))))), some (.int (b2i (decide ((tok B n 200 i).k = (40 : Int32).toInt)))), some (.int (Int32.ofNat ((tok B n 200 i).k.toNat - 80))), none] [] F6 Q from ?_)
        refine Pv.lit rfl ?_
        exact Pv.zret rfl (by rw [hQ, ez]; exact ⟨rfl, by rw [e6]; exact h6⟩)
      · have el : z_leaf (tok B n 200) i (o + 1) cs = zn (tnN (tok B n 200 (i + 1)) 0 1) (i + 1) := (if_pos h84).trans (if_neg ct)
        rw [el] at ez
        have f5 := sp.2.2 ct
        rw [decide_eq_false ct]
        refine (show Pv (ab_T (L_X11_operand Z_X11_isWord Z_X11_isSign Z_X11_leafOf Z_X11_bad Z_X11_next Z_X11_takes Z_X11_code)) N 142 [some (.ref 69), some (.int (b2i (decide ((tok B n 200 i).k = 64 + ((15 : Nat) : Int))))), some (.int (b2i (decide ((tok B n 200 i).k = (40 : Int32).toInt)))), some (.int (Int32.ofNat ((tok B n 200 i).k.toNat - 80))), none] [.int 0] F5 Q from ?_)
        refine Pv.if0 rfl (fun c => absurd c (by decide)) (fun _ => ?_)
        refine Pv.lit rfl ?_
        exact Pv.zret rfl (by rw [hQ, ez]; exact ⟨rfl, f5.1, f5.2⟩)
  have p38 : z_is (tok B n 200) i → Pv (ab_T (L_X11_operand Z_X11_isWord Z_X11_isSign Z_X11_leafOf Z_X11_bad Z_X11_next Z_X11_takes Z_X11_code)) N 38 [some (.ref 69), some (.int (b2i (decide ((tok B n 200 i).k = 64 + ((15 : Nat) : Int))))), some (.int (b2i (decide ((tok B n 200 i).k = (40 : Int32).toInt)))), some (.int (zlf (tok B n 200 i).k)), none] [] F Q := fun ci => by
    refine Pv.aload rfl rfl ?_
    refine Pv.getI (z := Int32.ofNat o) rfl rfl h35 ?_
    refine Pv.lit rfl ?_
    refine Pv.icmp rfl (fun c => ?_) (fun c => ?_)
    · have q := (i_eq (a := o) (b := 20) (by omega) (by omega)).mp (of_decide_eq_true c)
      exact p56 ci (Or.inl (by omega))
    · have q := mt (i_eq (a := o) (b := 20) (by omega) (by omega)).mpr (of_decide_eq_false c)
      refine Pv.aload rfl rfl ?_
      refine Pv.getI (z := Int32.ofNat (1 + zm_dp st)) rfl rfl hK.2.1 ?_
      refine Pv.lit rfl ?_
      refine Pv.icmp rfl (fun c2 => ?_) (fun c2 => ?_)
      · have q2 := (i_le (a := 1 + zm_dp st) (b := 8) (by omega) (by omega)).mp (of_decide_eq_true c2)
        have cn : ¬ (20 ≤ o ∨ 8 ≤ zm_dp st) := by omega
        have ez : zm_opd (tok B n 200) i o cs st = (if (tok B n 200 i).k = 40 then .inl (i + 1, o + 1, cs, 40 :: st, false) else if (tok B n 200 i).k = 79 then .inl (i + 1, o + 1, cs, 79 :: st, false) else zm_lf st (z_leaf (tok B n 200) i (o + 1) cs)) := (if_pos ci).trans (if_neg cn)
        refine Pv.aload rfl rfl ?_
        refine Pv.dup rfl ?_
        refine Pv.getI (z := Int32.ofNat o) rfl rfl h35 ?_
        refine Pv.lit rfl ?_
        refine Pv.bin (z := Int32.ofNat (o + 1)) rfl (i_add o 1) ?_
        refine Pv.putI rfl rfl ?_
        have h2 := h.p35 (o + 1)
        obtain ⟨F2, hF2⟩ : ∃ F2 : FW, F2 = fp F 69 35 (Int32.ofNat (o + 1)) := ⟨_, rfl⟩
        rw [← hF2] at h2 ⊢
        refine (show Pv (ab_T (L_X11_operand Z_X11_isWord Z_X11_isSign Z_X11_leafOf Z_X11_bad Z_X11_next Z_X11_takes Z_X11_code)) N 72 [some (.ref 69), some (.int (b2i (decide ((tok B n 200 i).k = 64 + ((15 : Nat) : Int))))), some (.int (b2i (decide ((tok B n 200 i).k = (40 : Int32).toInt)))), some (.int (zlf (tok B n 200 i).k)), none] [] F2 Q from ?_)
        refine Pv.aload rfl rfl ?_
        refine Pv.callV (as := [.ref 69]) (rest := []) rfl rfl rfl (r_next h2.1 h2.2.1) (fun r3 F3 p => ?_)
        obtain ⟨rfl, x3, t3⟩ := p
        have h3 := h2.nx x3 t3
        refine (show Pv (ab_T (L_X11_operand Z_X11_isWord Z_X11_isSign Z_X11_leafOf Z_X11_bad Z_X11_next Z_X11_takes Z_X11_code)) N 76 [some (.ref 69), some (.int (b2i (decide ((tok B n 200 i).k = 64 + ((15 : Nat) : Int))))), some (.int (b2i (decide ((tok B n 200 i).k = (40 : Int32).toInt)))), some (.int (zlf (tok B n 200 i).k)), none] [] F3 Q from ?_)
        refine Pv.iload rfl rfl ?_
        by_cases k40 : (tok B n 200 i).k = 40
        · rw [if_pos k40] at ez
          have q84 := p84 40 0 F3 (Or.inr ⟨rfl, k40⟩) h3 ez
          rw [show decide ((tok B n 200 i).k = 64 + ((15 : Nat) : Int)) = false from decide_eq_false (by omega)] at q84 ⊢
          refine Pv.if0 rfl (fun c => absurd c (by decide)) (fun _ => ?_)
          refine Pv.iload rfl rfl ?_
          rw [show decide ((tok B n 200 i).k = (40 : Int32).toInt) = true from decide_eq_true (by omega)] at q84 ⊢
          refine Pv.if0 rfl (fun c => absurd c (by decide)) (fun _ => ?_)
          exact q84
        · rw [if_neg k40] at ez
          by_cases k79 : (tok B n 200 i).k = 79
          · rw [if_pos k79] at ez
            have q84 := p84 79 0 F3 (Or.inl ⟨rfl, k79⟩) h3 ez
            rw [show decide ((tok B n 200 i).k = 64 + ((15 : Nat) : Int)) = true from decide_eq_true (by omega)] at q84 ⊢
            refine Pv.if0 rfl (fun _ => ?_) (fun c => absurd c (by decide))
            exact q84
          · rw [if_neg k79] at ez
            have q126 := p126 (by omega) F3 h3 ez
            rw [show decide ((tok B n 200 i).k = 64 + ((15 : Nat) : Int)) = false from decide_eq_false (by omega)] at q126 ⊢
            refine Pv.if0 rfl (fun c => absurd c (by decide)) (fun _ => ?_)
            refine Pv.iload rfl rfl ?_
            rw [show decide ((tok B n 200 i).k = (40 : Int32).toInt) = false from decide_eq_false (by omega)] at q126 ⊢
            refine Pv.if0 rfl (fun _ => ?_) (fun c => absurd c (by decide))
            exact q126
      · have q2 := mt (i_le (a := 1 + zm_dp st) (b := 8) (by omega) (by omega)).mpr (of_decide_eq_false c2)
        exact p56 ci (Or.inr (by omega))
  have p32 : ¬ z_is (tok B n 200) i → Pv (ab_T (L_X11_operand Z_X11_isWord Z_X11_isSign Z_X11_leafOf Z_X11_bad Z_X11_next Z_X11_takes Z_X11_code)) N 32 [some (.ref 69), some (.int (b2i (decide ((tok B n 200 i).k = 64 + ((15 : Nat) : Int))))), some (.int (b2i (decide ((tok B n 200 i).k = (40 : Int32).toInt)))), some (.int (zlf (tok B n 200 i).k)), none] [] F Q := fun ci => by
    have ez : zm_opd (tok B n 200) i o cs st = .inr (zn 1 i) := if_neg ci
    refine Pv.aload rfl rfl ?_
    refine Pv.lit rfl ?_
    refine Pv.callV (as := [.ref 69, .int 1]) (rest := []) rfl rfl rfl (r_bad (c := 1) hG) (fun r2 G2 p => ?_)
    obtain ⟨rfl, e2⟩ := p
    refine (show Pv (ab_T (L_X11_operand Z_X11_isWord Z_X11_isSign Z_X11_leafOf Z_X11_bad Z_X11_next Z_X11_takes Z_X11_code)) N 37 [some (.ref 69), some (.int (b2i (decide ((tok B n 200 i).k = 64 + ((15 : Nat) : Int))))), some (.int (b2i (decide ((tok B n 200 i).k = (40 : Int32).toInt)))), some (.int (zlf (tok B n 200 i).k)), none] [.int 0] G2 Q from ?_)
    exact Pv.zret rfl (by rw [hQ, ez]; exact x_bad (i := i) hT e2)
  refine (show Pv (ab_T (L_X11_operand Z_X11_isWord Z_X11_isSign Z_X11_leafOf Z_X11_bad Z_X11_next Z_X11_takes Z_X11_code)) N 0 [some (.ref 69), none, none, none, none] [] F Q from ?_)
  refine Pv.aload rfl rfl ?_
  refine Pv.lit rfl ?_
  refine Pv.callVI (as := [.ref 69, .long 7237492]) (rest := []) (z := b2i (decide ((tok B n 200 i).k = 64 + ((15 : Nat) : Int)))) rfl rfl rfl (r_isWord (j := 15) hN (tok_wok _ _ _ _) (by decide) (by decide +kernel)) ?_
  refine Pv.istore (lo' := [some (.ref 69), some (.int (b2i (decide ((tok B n 200 i).k = 64 + ((15 : Nat) : Int))))), none, none, none]) rfl rfl ?_
  refine Pv.aload rfl rfl ?_
  refine Pv.lit rfl ?_
  refine Pv.callVI (as := [.ref 69, .int 40]) (rest := []) (z := b2i (decide ((tok B n 200 i).k = (40 : Int32).toInt))) rfl rfl rfl (r_isSign hN rfl) ?_
  refine Pv.istore (lo' := [some (.ref 69), some (.int (b2i (decide ((tok B n 200 i).k = 64 + ((15 : Nat) : Int))))), some (.int (b2i (decide ((tok B n 200 i).k = (40 : Int32).toInt)))), none, none]) rfl rfl ?_
  refine Pv.aload rfl rfl ?_
  refine Pv.callVI (as := [.ref 69]) (rest := []) (z := zlf (tok B n 200 i).k) rfl rfl rfl (r_leafOf hN (tok_wok _ _ _ _)) ?_
  refine Pv.istore (lo' := [some (.ref 69), some (.int (b2i (decide ((tok B n 200 i).k = 64 + ((15 : Nat) : Int))))), some (.int (b2i (decide ((tok B n 200 i).k = (40 : Int32).toInt)))), some (.int (zlf (tok B n 200 i).k)), none]) rfl rfl ?_
  refine Pv.iload rfl rfl ?_
  by_cases k79 : (tok B n 200 i).k = 79
  · have q := p38 (Or.inr ⟨by omega, by omega⟩)
    rw [show decide ((tok B n 200 i).k = 64 + ((15 : Nat) : Int)) = true from decide_eq_true (by omega)] at q ⊢
    refine Pv.if0 rfl (fun _ => ?_) (fun c => absurd c (by decide))
    exact q
  · have e79 : decide ((tok B n 200 i).k = 64 + ((15 : Nat) : Int)) = false := decide_eq_false (by omega)
    by_cases k40 : (tok B n 200 i).k = 40
    · have q := p38 (Or.inl k40)
      rw [e79] at q ⊢
      refine Pv.if0 rfl (fun c => absurd c (by decide)) (fun _ => ?_)
      refine Pv.iload rfl rfl ?_
      rw [show decide ((tok B n 200 i).k = (40 : Int32).toInt) = true from decide_eq_true (by omega)] at q ⊢
      refine Pv.if0 rfl (fun _ => ?_) (fun c => absurd c (by decide))
      exact q
    · have e4 : decide ((tok B n 200 i).k = (40 : Int32).toInt) = false := decide_eq_false (by omega)
      by_cases kl : 80 ≤ (tok B n 200 i).k ∧ (tok B n 200 i).k ≤ 88
      · have q := p38 (Or.inr ⟨by omega, by omega⟩)
        rw [e79, e4] at q
        rw [e79]
        refine Pv.if0 rfl (fun c => absurd c (by decide)) (fun _ => ?_)
        refine Pv.iload rfl rfl ?_
        rw [e4]
        refine Pv.if0 rfl (fun c => absurd c (by decide)) (fun _ => ?_)
        refine Pv.iload rfl rfl ?_
        refine Pv.if0 rfl (fun _ => ?_) (fun c => ?_)
        · exact q
        · rw [show zlf (tok B n 200 i).k = Int32.ofNat ((tok B n 200 i).k.toNat - 80) from if_pos kl] at c
          have c2 := mt (i_le (a := 0) (b := (tok B n 200 i).k.toNat - 80) (by omega) (by omega)).mpr (of_decide_eq_false c)
          omega
      · have q := p32 (by omega)
        rw [e79, e4] at q
        rw [e79]
        refine Pv.if0 rfl (fun c => absurd c (by decide)) (fun _ => ?_)
        refine Pv.iload rfl rfl ?_
        rw [e4]
        refine Pv.if0 rfl (fun c => absurd c (by decide)) (fun _ => ?_)
        refine Pv.iload rfl rfl ?_
        refine Pv.if0 rfl (fun c => ?_) (fun _ => ?_)
        · rw [show zlf (tok B n 200 i).k = -1 from if_neg kl] at c
          exact absurd c (by decide)
        · exact q
end
-- 63.b9zy.sz.lean.txt
section
/-- what a stack can hold -/
def ZV (st : List Nat) : Prop := ∀ x, x ∈ st → x = 40 ∨ x = 77 ∨ x = 78 ∨ x = 79
theorem zn_sum : ∀ (st : List Nat) (cs : List ZO), (zm_nots st cs).1.length + (zm_nots st cs).2.length = cs.length + st.length ∧ ∃ s, st = s ++ (zm_nots st cs).2
  | [], cs => ⟨rfl, [], rfl⟩
  | x :: st, cs => by
    by_cases c : x = 79
    · have e : zm_nots (x :: st) cs = zm_nots st (cs ++ [(79, 0, 0)]) := if_pos c
      obtain ⟨h1, s, h2⟩ := zn_sum st (cs ++ [(79, 0, 0)])
      rw [e]
      refine ⟨?_, x :: s, congrArg (x :: ·) h2⟩
      rw [h1, List.length_append, List.length_singleton, List.length_cons]
      omega
    · have e : zm_nots (x :: st) cs = (cs, x :: st) := if_neg c
      rw [e]
      exact ⟨rfl, [], rfl⟩
theorem zj_sum (b : Bool) : ∀ (st : List Nat) (cs : List ZO), (zm_joins b st cs).1.length + (zm_joins b st cs).2.length = cs.length + st.length ∧ (∃ s, st = s ++ (zm_joins b st cs).2) ∧ (b = true → ∀ x s, (zm_joins b st cs).2 = x :: s → ¬ x = 78 ∧ ¬ x = 77)
  | [], cs => ⟨rfl, ⟨[], rfl⟩, fun _ x s e => by cases e⟩
  | x :: st, cs => by
    by_cases c : x = 78 ∨ (x = 77 ∧ b = true)
    · have e : zm_joins b (x :: st) cs = zm_joins b st (cs ++ [(x, 0, 0)]) := if_pos c
      obtain ⟨h1, ⟨s, h2⟩, h3⟩ := zj_sum b st (cs ++ [(x, 0, 0)])
      rw [e]
      refine ⟨?_, ⟨x :: s, congrArg (x :: ·) h2⟩, h3⟩
      rw [h1, List.length_append, List.length_singleton, List.length_cons]
      omega
    · have e : zm_joins b (x :: st) cs = (cs, x :: st) := if_neg c
      rw [e]
      refine ⟨rfl, ⟨[], rfl⟩, fun hb y s ey => ?_⟩
      have e2 : x = y := by injection ey
      subst e2
      exact ⟨fun h => c (Or.inl h), fun h => c (Or.inr ⟨h, hb⟩)⟩
theorem ZV.sub {s t : List Nat} (h : ZV (s ++ t)) : ZV t := fun x hx => h x (List.mem_append_right s hx)
theorem zv_nots {st : List Nat} {cs : List ZO} (h : ZV st) : ZV (zm_nots st cs).2 := by
  obtain ⟨-, s, e⟩ := zn_sum st cs
  rw [e] at h
  exact h.sub
theorem zv_joins {b : Bool} {st : List Nat} {cs : List ZO} (h : ZV st) : ZV (zm_joins b st cs).2 := by
  obtain ⟨-, ⟨s, e⟩, -⟩ := zj_sum b st cs
  rw [e] at h
  exact h.sub
theorem x_behind {F : FW} {B : Nat → Int} {n i o : Nat} {cs : List ZO} {st : List Nat} (h : ZX F B n (i, o, cs, st, true)) (hb : cs.length + st.length ≤ 50) (hv : ZV st) : Pm Z_X11_behind [.ref 69] F (fun r F' => ZXQ B n F' r (zm_beh (tok B n 200) i o cs st)) := by
  refine Pm.of fun N => ?_
  obtain ⟨Q, hQ⟩ : ∃ Q : Option Value → FW → Prop, Q = (fun r F' => ZXQ B n F' r (zm_beh (tok B n 200) i o cs st)) := ⟨_, rfl⟩
  rw [← hQ]
  obtain ⟨hG, hT, h35, hC, hK, h38, h15⟩ := id h
  replace hC : XC F cs := hC
  replace hK : XK F st := hK
  have s1 := (zn_sum st cs).1
  refine (show Pv (ab_T (L_X11_behind Z_X11_nots Z_X11_isWord Z_X11_joins Z_X11_next Z_X11_isSign Z_X11_bad)) N 0 [some (.ref 69)] [] F Q from ?_)
  refine Pv.aload rfl rfl ?_
  refine Pv.callV (as := [.ref 69]) (rest := []) rfl rfl rfl (x_nots hG hC hK (by omega)) (fun r1 F1 p => ?_)
  obtain ⟨rfl, x1, C1, K1⟩ := p
  have h1 := h.zf x1 C1 K1
  have hN1 : NTF F1 (tok B n 200 i) := h1.2.1.2.2.2.1
  obtain ⟨cs1, ecs1⟩ : ∃ c, c = (zm_nots st cs).1 := ⟨_, rfl⟩
  obtain ⟨st1, est1⟩ : ∃ c, c = (zm_nots st cs).2 := ⟨_, rfl⟩
  have v1 : ZV st1 := by rw [est1]; exact zv_nots hv
  have efl : zm_flush st cs = zm_joins true st1 cs1 := by rw [ecs1, est1]; rfl
  have ejf : zm_joins false (zm_nots st cs).2 (zm_nots st cs).1 = zm_joins false st1 cs1 := by rw [ecs1, est1]
  rw [← ecs1, ← est1] at s1 h1
  rw [← ecs1] at C1
  rw [← est1] at K1
  refine (show Pv (ab_T (L_X11_behind Z_X11_nots Z_X11_isWord Z_X11_joins Z_X11_next Z_X11_isSign Z_X11_bad)) N 4 [some (.ref 69)] [] F1 Q from ?_)
  -- and, or
  have push : ∀ (b : Bool) (w : Nat), ((b = false ∧ w = 78) ∨ (b = true ∧ w = 77)) → (tok B n 200 i).k = (w : Int) → zm_beh (tok B n 200) i o cs st = .inl (i + 1, o, (zm_joins b st1 cs1).1, w :: (zm_joins b st1 cs1).2, false) → Pv (ab_T (L_X11_behind Z_X11_nots Z_X11_isWord Z_X11_joins Z_X11_next Z_X11_isSign Z_X11_bad)) N 24 [some (.ref 69)] [] F1 Q := fun b w hbw kw ez => by
    have s2 := (zj_sum b st1 cs1).1
    have eb : decide ((tok B n 200 i).k = 64 + ((14 : Nat) : Int)) = !b := by
      rcases hbw with ⟨rfl, rfl⟩ | ⟨rfl, rfl⟩
      · exact decide_eq_true (by omega)
      · exact decide_eq_false (by omega)
    have ev : zs1 w = zjt b := by rcases hbw with ⟨rfl, rfl⟩ | ⟨rfl, rfl⟩ <;> rfl
    have hw2 : ¬ (w = 79 ∨ w = 40) := by omega
    refine Pv.aload rfl rfl ?_
    refine Pv.aload rfl rfl ?_
    refine Pv.lit rfl ?_
    refine Pv.callVI (as := [.ref 69, .long 6385252]) (rest := [.ref 69]) (z := b2i (decide ((tok B n 200 i).k = 64 + ((14 : Nat) : Int)))) rfl rfl rfl (r_isWord (j := 14) hN1 (tok_wok _ _ _ _) (by decide) (by decide +kernel)) ?_
    rw [eb]
    have j42 : Pv (ab_T (L_X11_behind Z_X11_nots Z_X11_isWord Z_X11_joins Z_X11_next Z_X11_isSign Z_X11_bad)) N 42 [some (.ref 69)] [.int (zjt b), .ref 69] F1 Q := by
      refine Pv.callV (as := [.ref 69, .int (zjt b)]) (rest := []) rfl rfl rfl (x_joins b h1.1 C1 K1 (by omega)) (fun r2 F2 p => ?_)
      obtain ⟨rfl, x2, C2, K2⟩ := p
      have h2 := h1.zf x2 C2 K2
      have hN2 : NTF F2 (tok B n 200 i) := h2.2.1.2.2.2.1
      obtain ⟨cs2, ecs2⟩ : ∃ c, c = (zm_joins b st1 cs1).1 := ⟨_, rfl⟩
      obtain ⟨st2, est2⟩ : ∃ c, c = (zm_joins b st1 cs1).2 := ⟨_, rfl⟩
      rw [← ecs2, ← est2] at s2 ez h2
      have K2 : XK F2 st2 := h2.2.2.2.2.1
      refine (show Pv (ab_T (L_X11_behind Z_X11_nots Z_X11_isWord Z_X11_joins Z_X11_next Z_X11_isSign Z_X11_bad)) N 45 [some (.ref 69)] [] F2 Q from ?_)
      refine Pv.aload rfl rfl ?_
      refine Pv.getR (v := .ref 82) rfl rfl (GW.at (a := 69) (k := 33) (b := 82) h2.1 (by decide)) ?_
      refine Pv.aload rfl rfl ?_
      refine Pv.getI (z := Int32.ofNat st2.length) rfl rfl K2.1 ?_
      refine Pv.aload rfl rfl ?_
      refine Pv.lit rfl ?_
      refine Pv.callVI (as := [.ref 69, .long 6385252]) (rest := [.int (Int32.ofNat st2.length), .ref 82]) (z := b2i (decide ((tok B n 200 i).k = 64 + ((14 : Nat) : Int)))) rfl rfl rfl (r_isWord (j := 14) hN2 (tok_wok _ _ _ _) (by decide) (by decide +kernel)) ?_
      rw [eb]
      have j70 : Pv (ab_T (L_X11_behind Z_X11_nots Z_X11_isWord Z_X11_joins Z_X11_next Z_X11_isSign Z_X11_bad)) N 70 [some (.ref 69)] [.int (zjt b), .int (Int32.ofNat st2.length), .ref 82] F2 Q := by
        refine Pv.astk (k := st2.length) (z := zs1 w) rfl (i_toNat (by omega)) (ev.symm) ?_
        refine Pv.aload rfl rfl ?_
        refine Pv.dup rfl ?_
        refine Pv.getI (z := Int32.ofNat st2.length) rfl rfl ((fp_ne (Or.inl (by decide))).trans K2.1) ?_
        refine Pv.lit rfl ?_
        refine Pv.bin (z := Int32.ofNat (st2.length + 1)) rfl (i_add st2.length 1) ?_
        refine Pv.putI rfl rfl ?_
        have h3 := h2.pu0 w hw2
        obtain ⟨F3, hF3⟩ : ∃ F3 : FW, F3 = fp (fp F2 82 st2.length (zs1 w)) 69 36 (Int32.ofNat (st2.length + 1)) := ⟨_, rfl⟩
        rw [← hF3] at h3 ⊢
        refine (show Pv (ab_T (L_X11_behind Z_X11_nots Z_X11_isWord Z_X11_joins Z_X11_next Z_X11_isSign Z_X11_bad)) N 81 [some (.ref 69)] [] F3 Q from ?_)
        refine Pv.aload rfl rfl ?_
        refine Pv.lit rfl ?_
        refine Pv.putI rfl rfl ?_
        have h4 : ZX (fp F3 69 38 0) B n (i, o, cs2, w :: st2, false) := h3.p38 false
        obtain ⟨F4, hF4⟩ : ∃ F4 : FW, F4 = fp F3 69 38 0 := ⟨_, rfl⟩
        rw [← hF4] at h4 ⊢
        refine (show Pv (ab_T (L_X11_behind Z_X11_nots Z_X11_isWord Z_X11_joins Z_X11_next Z_X11_isSign Z_X11_bad)) N 86 [some (.ref 69)] [] F4 Q from ?_)
        refine Pv.aload rfl rfl ?_
        refine Pv.callV (as := [.ref 69]) (rest := []) rfl rfl rfl (r_next h4.1 h4.2.1) (fun r5 F5 p => ?_)
        obtain ⟨rfl, x5, t5⟩ := p
        refine (show Pv (ab_T (L_X11_behind Z_X11_nots Z_X11_isWord Z_X11_joins Z_X11_next Z_X11_isSign Z_X11_bad)) N 90 [some (.ref 69)] [] F5 Q from ?_)
        refine Pv.lit rfl ?_
        exact Pv.zret rfl (by rw [hQ, ez]; exact ⟨rfl, h4.nx x5 t5⟩)
      cases b with
      | false =>
        refine Pv.if0 rfl (fun c => absurd c (by decide)) (fun _ => ?_)
        refine Pv.lit rfl ?_
        refine Pv.goto rfl ?_
        exact j70
      | true =>
        refine Pv.if0 rfl (fun _ => ?_) (fun c => absurd c (by decide))
        refine Pv.lit rfl ?_
        exact j70
    cases b with
    | false =>
      refine Pv.if0 rfl (fun c => absurd c (by decide)) (fun _ => ?_)
      refine Pv.lit rfl ?_
      refine Pv.goto rfl ?_
      exact j42
    | true =>
      refine Pv.if0 rfl (fun _ => ?_) (fun c => absurd c (by decide))
      refine Pv.lit rfl ?_
      exact j42
  refine Pv.aload rfl rfl ?_
  refine Pv.lit rfl ?_
  refine Pv.callVI (as := [.ref 69, .long 6385252]) (rest := []) (z := b2i (decide ((tok B n 200 i).k = 64 + ((14 : Nat) : Int)))) rfl rfl rfl (r_isWord (j := 14) hN1 (tok_wok _ _ _ _) (by decide) (by decide +kernel)) ?_
  by_cases k78 : (tok B n 200 i).k = 78
  · rw [show decide ((tok B n 200 i).k = 64 + ((14 : Nat) : Int)) = true from decide_eq_true (by omega)]
    refine Pv.if0 rfl (fun _ => ?_) (fun c => absurd c (by decide))
    exact push false 78 (Or.inl ⟨rfl, rfl⟩) k78 ((if_pos k78).trans (by rw [ejf]))
  rw [show decide ((tok B n 200 i).k = 64 + ((14 : Nat) : Int)) = false from decide_eq_false (by omega)]
  refine Pv.if0 rfl (fun c => absurd c (by decide)) (fun _ => ?_)
  refine Pv.aload rfl rfl ?_
  refine Pv.lit rfl ?_
  refine Pv.callVI (as := [.ref 69, .long 28530]) (rest := []) (z := b2i (decide ((tok B n 200 i).k = 64 + ((13 : Nat) : Int)))) rfl rfl rfl (r_isWord (j := 13) hN1 (tok_wok _ _ _ _) (by decide) (by decide +kernel)) ?_
  by_cases k77 : (tok B n 200 i).k = 77
  · rw [show decide ((tok B n 200 i).k = 64 + ((13 : Nat) : Int)) = true from decide_eq_true (by omega)]
    refine Pv.if0 rfl (fun c => absurd c (by decide)) (fun _ => ?_)
    exact push true 77 (Or.inr ⟨rfl, rfl⟩) k77 (((if_neg k78).trans (if_pos k77)).trans (by rw [efl]))
  rw [show decide ((tok B n 200 i).k = 64 + ((13 : Nat) : Int)) = false from decide_eq_false (by omega)]
  refine Pv.if0 rfl (fun _ => ?_) (fun c => absurd c (by decide))
  have s2 := zj_sum true st1 cs1
  have v2 : ZV (zm_joins true st1 cs1).2 := zv_joins v1
  have ez : zm_beh (tok B n 200) i o cs st = (match (zm_joins true st1 cs1).2 with
    | [] => .inr (zn 1 i)
    | _ :: st3 => if (tok B n 200 i).k = 41 then .inl (i + 1, o, (zm_joins true st1 cs1).1, st3, true) else .inr (zn 1 i)) := by
    unfold zm_beh
    rw [if_neg k78, if_neg k77, efl]
    all_goals (cases (zm_joins true st1 cs1).2 <;> rfl)
  refine Pv.aload rfl rfl ?_
  refine Pv.lit rfl ?_
  refine Pv.callV (as := [.ref 69, .int (zjt true)]) (rest := []) rfl rfl rfl (x_joins true h1.1 C1 K1 (by omega)) (fun r2 F2 p => ?_)
  obtain ⟨rfl, x2, C2, K2⟩ := p
  have h2 := h1.zf x2 C2 K2
  have hN2 : NTF F2 (tok B n 200 i) := h2.2.1.2.2.2.1
  obtain ⟨cs2, ecs2⟩ : ∃ c, c = (zm_joins true st1 cs1).1 := ⟨_, rfl⟩
  obtain ⟨st2, est2⟩ : ∃ c, c = (zm_joins true st1 cs1).2 := ⟨_, rfl⟩
  rw [← ecs2, ← est2] at s2 ez h2
  rw [← est2] at v2 K2
  refine (show Pv (ab_T (L_X11_behind Z_X11_nots Z_X11_isWord Z_X11_joins Z_X11_next Z_X11_isSign Z_X11_bad)) N 98 [some (.ref 69)] [] F2 Q from ?_)
  have bad : zm_beh (tok B n 200) i o cs st = .inr (zn 1 i) → Pv (ab_T (L_X11_behind Z_X11_nots Z_X11_isWord Z_X11_joins Z_X11_next Z_X11_isSign Z_X11_bad)) N 114 [some (.ref 69)] [] F2 Q := fun eb => by
    refine Pv.aload rfl rfl ?_
    refine Pv.lit rfl ?_
    refine Pv.callV (as := [.ref 69, .int 1]) (rest := []) rfl rfl rfl (r_bad (c := 1) h2.1) (fun r3 F3 p => ?_)
    obtain ⟨rfl, e3⟩ := p
    refine (show Pv (ab_T (L_X11_behind Z_X11_nots Z_X11_isWord Z_X11_joins Z_X11_next Z_X11_isSign Z_X11_bad)) N 119 [some (.ref 69)] [.int 0] F3 Q from ?_)
    exact Pv.zret rfl (by rw [hQ, eb]; exact x_bad (i := i) h2.2.1 e3)
  refine Pv.aload rfl rfl ?_
  refine Pv.lit rfl ?_
  refine Pv.callVI (as := [.ref 69, .int 41]) (rest := []) (z := b2i (decide ((tok B n 200 i).k = (41 : Int32).toInt))) rfl rfl rfl (r_isSign hN2 rfl) ?_
  have e41 : (41 : Int32).toInt = 41 := rfl
  by_cases k41 : (tok B n 200 i).k = 41
  · rw [show decide ((tok B n 200 i).k = (41 : Int32).toInt) = true from decide_eq_true (by omega)]
    refine Pv.if0 rfl (fun c => absurd c (by decide)) (fun _ => ?_)
    refine Pv.aload rfl rfl ?_
    refine Pv.getI (z := Int32.ofNat st2.length) rfl rfl K2.1 ?_
    cases hst : st2 with
    | nil =>
      rw [hst] at ez
      refine Pv.if0 rfl (fun c => absurd c (by decide)) (fun _ => ?_)
      exact bad ez
    | cons x t =>
      rw [hst] at ez K2 h2 v2 s2
      have ez2 : zm_beh (tok B n 200) i o cs st = .inl (i + 1, o, cs2, t, true) := ez.trans (if_pos k41)
      have sl := s2.1
      rw [List.length_cons] at sl
      have x49 : x = 79 ∨ x = 40 := by
        have a := v2 x List.mem_cons_self
        have b := s2.2.2 rfl x t rfl
        omega
      have d1 : zm_dp (x :: t) = 1 + zm_dp t := zdp_1 x49
      have dl := zdp_le t
      refine Pv.if0 rfl (fun _ => ?_) (fun c => ?_)
      · refine Pv.aload rfl rfl ?_
        refine Pv.dup rfl ?_
        refine Pv.getI (z := Int32.ofNat (t.length + 1)) rfl rfl K2.1 ?_
        refine Pv.lit rfl ?_
        refine Pv.bin (z := Int32.ofNat t.length) rfl (i_pre (by omega)) ?_
        refine Pv.putI rfl rfl ?_
        refine Pv.aload rfl rfl ?_
        refine Pv.dup rfl ?_
        refine Pv.getI (z := Int32.ofNat ((1 + zm_dp t) + 1)) rfl rfl ((fp_ne (Or.inr (by decide))).trans (K2.2.1.trans (congrArg Int32.ofNat (by omega)))) ?_
        refine Pv.lit rfl ?_
        refine Pv.bin (z := Int32.ofNat (1 + zm_dp t)) rfl (i_pre (by omega)) ?_
        refine Pv.putI rfl rfl ?_
        have h3 : ZX (fp (fp F2 69 36 (Int32.ofNat t.length)) 69 37 (Int32.ofNat (1 + zm_dp t))) B n (i, o, cs2, t, true) := h2.zf ((ZF1.rf.p (Or.inr (Or.inl rfl))).p (Or.inr (Or.inr rfl))) (h2.2.2.2.1.of ((fp_ne (Or.inr (by decide))).trans (fp_ne (Or.inr (by decide)))) (fun k => (fp_ne (Or.inl (by decide))).trans (fp_ne (Or.inl (by decide))))) (K2.tl ((fp_ne (Or.inr (by decide))).trans fp_eq) fp_eq (fun k => (fp_ne (Or.inl (by decide))).trans (fp_ne (Or.inl (by decide)))))
        obtain ⟨F3, hF3⟩ : ∃ F3 : FW, F3 = fp (fp F2 69 36 (Int32.ofNat t.length)) 69 37 (Int32.ofNat (1 + zm_dp t)) := ⟨_, rfl⟩
        rw [← hF3] at h3 ⊢
        refine (show Pv (ab_T (L_X11_behind Z_X11_nots Z_X11_isWord Z_X11_joins Z_X11_next Z_X11_isSign Z_X11_bad)) N 140 [some (.ref 69)] [] F3 Q from ?_)
        refine Pv.aload rfl rfl ?_
        refine Pv.callV (as := [.ref 69]) (rest := []) rfl rfl rfl (r_next h3.1 h3.2.1) (fun r5 F5 p => ?_)
        obtain ⟨rfl, x5, t5⟩ := p
        refine (show Pv (ab_T (L_X11_behind Z_X11_nots Z_X11_isWord Z_X11_joins Z_X11_next Z_X11_isSign Z_X11_bad)) N 144 [some (.ref 69)] [] F5 Q from ?_)
        refine Pv.lit rfl ?_
        exact Pv.zret rfl (by rw [hQ, ez2]; exact ⟨rfl, h3.nx x5 t5⟩)
      · exfalso
        have c2 : decide (Int32.ofNat (t.length + 1) = 0) = true := by simpa using c
        have q := (i_eq (a := t.length + 1) (b := 0) (by omega) (by omega)).mp (of_decide_eq_true c2)
        omega
  · rw [show decide ((tok B n 200 i).k = (41 : Int32).toInt) = false from decide_eq_false (by omega)]
    refine Pv.if0 rfl (fun _ => ?_) (fun c => absurd c (by decide))
    refine bad ?_
    rw [ez]
    cases hst : st2 with
    | nil => rfl
    | cons x t => exact if_neg k41
end
-- 63.b9zya.se.lean.txt
section
theorem TKF.fxu {F G : FW} {u m : Nat} {K : Nat → TT} (h : TKF F K m) (x : FX (fun q => u ≤ q ∧ q ≤ u + 3) F G) (hu : u = 61 ∨ u = 65) : TKF G K m := by
  have n3 : ¬ (u ≤ 3 ∧ 3 ≤ u + 3) := by omega
  have n4 : ¬ (u ≤ 4 ∧ 4 ≤ u + 3) := by omega
  have n5 : ¬ (u ≤ 5 ∧ 5 ≤ u + 3) := by omega
  have n6 : ¬ (u ≤ 6 ∧ 6 ≤ u + 3) := by omega
  refine ⟨h.1, h.2.1, (x.1 3 3 n3).trans h.2.2.1, fun j hj => ?_, h.2.2.2.2⟩
  rw [x.1 4 j n4, x.1 5 j n5, x.2.1 6 j n6]
  exact h.2.2.2.1 j hj
/-- what a Sentence's text came to: read; or what is wrong -/
def ZW (u : Nat) (K : Nat → TT) (F' : FW) : Prop := match z_sen K with
  | .inl y => F'.1 3 9 = 0 ∧ ZL F' u y.2.1 y.2.2 ∧ F'.1 u 5 = 1
  | .inr e => F'.1 3 9 = e.1 ∧ (F'.1 3 6).toInt = (K e.2).pl
theorem ZL.p5 {F : FW} {u o : Nat} {l : List ZO} {v : Int32} (h : ZL F u o l) : ZL (fp F u 5 v) u o l := by
  have x : FX (fun q => q = u) F (fp F u 5 v) := FX.fp FX.rf rfl
  exact ⟨FX.O3 x h.1, (fp_ne (Or.inr (by decide))).trans h.2.1, (fp_ne (Or.inr (by decide))).trans h.2.2.1, fun j y hj => ⟨(fp_ne (Or.inl (by omega))).trans (h.2.2.2 j y hj).1, (fp_ne (Or.inl (by omega))).trans (h.2.2.2 j y hj).2.1, (fp_ne (Or.inl (by omega))).trans (h.2.2.2 j y hj).2.2⟩⟩
theorem zc_text {F : FW} {u m : Nat} {K : Nat → TT} (hG : GW F) (hO : O3 F u) (hu : u = 61 ∨ u = 65) (hT : TKF F K m) (h4 : F.1 3 4 = Int32.ofNat 0) (h9 : F.1 3 9 = 0) : Pm Z_X5_readText [.ref u, .ref 3] F (fun r F' => r = none ∧ FSX u F F' ∧ ZW u K F') := by
  refine Pm.of fun N => ?_
  obtain ⟨Q, hQ⟩ : ∃ Q : Option Value → FW → Prop, Q = (fun r F' => r = none ∧ FSX u F F' ∧ ZW u K F') := ⟨_, rfl⟩
  rw [← hQ]
  refine (show Pv (ab_T (L_X5_readText Z_X9_step Z_X5_readCond_1 Z_X9_fail)) N 0 [some (.ref u), some (.ref 3)] [] F Q from ?_)
  refine Pv.aload rfl rfl ?_
  refine Pv.lit rfl ?_
  refine Pv.putI rfl rfl ?_
  refine Pv.aload rfl rfl ?_
  refine Pv.lit rfl ?_
  refine Pv.putI rfl rfl ?_
  have x0 : FX (fun q => u ≤ q ∧ q ≤ u + 3) F (fp (fp F u 3 0) u 4 0) := FX.fp (FX.fp FX.rf (show u ≤ u ∧ u ≤ u + 3 by omega)) (show u ≤ u ∧ u ≤ u + 3 by omega)
  have a3 : (fp (fp F u 3 0) u 4 0).1 u 3 = 0 := (fp_ne (Or.inr (by decide))).trans fp_eq
  have a4 : (fp (fp F u 3 0) u 4 0).1 u 4 = 0 := fp_eq
  obtain ⟨F1, hF1⟩ : ∃ F1 : FW, F1 = fp (fp F u 3 0) u 4 0 := ⟨_, rfl⟩
  rw [← hF1] at x0 a3 a4 ⊢
  have n3 : ¬ (u ≤ 3 ∧ 3 ≤ u + 3) := by omega
  have G1 := hG.fx x0
  have T1 := hT.fxu x0 hu
  have f4 : F1.1 3 4 = Int32.ofNat 0 := (x0.1 3 4 n3).trans h4
  have f9 : F1.1 3 9 = 0 := (x0.1 3 9 n3).trans h9
  have m1 : 0 < m := hT.1
  have y0 : FSX u F F1 := FSX.ou x0
  refine (show Pv (ab_T (L_X5_readText Z_X9_step Z_X5_readCond_1 Z_X9_fail)) N 10 [some (.ref u), some (.ref 3)] [] F1 Q from ?_)
  refine Pv.aload rfl rfl ?_
  refine Pv.callV (as := [.ref 3]) (rest := []) rfl rfl rfl (c_step G1 T1 f4 m1) (fun r G p => ?_)
  obtain ⟨rfl, hd⟩ := p
  have x2 : FX (fun q => q = 3) F1 G := hd.1.1
  have hs : ZS G u K m 0 0 [] := ⟨hd.1.G G1, ⟨hd.1.TK T1, m1, hd.2.1, hd.2.2.1, hd.2.2.2.trans ((if_pos rfl).trans f9)⟩, ⟨FX.O3 x2 (FX.O3 x0 hO), (x2.1 u 3 (show ¬ u = 3 by omega)).trans a3, (x2.1 u 4 (show ¬ u = 3 by omega)).trans a4, fun j y hj => by cases hj⟩, hu⟩
  have y1 : FSX u F G := y0.tr (FSX.of x2)
  refine (show Pv (ab_T (L_X5_readText Z_X9_step Z_X5_readCond_1 Z_X9_fail)) N 14 [some (.ref u), some (.ref 3)] [] G Q from ?_)
  refine Pv.aload rfl rfl ?_
  refine Pv.aload rfl rfl ?_
  refine Pv.aload rfl rfl ?_
  refine Pv.lit rfl ?_
  refine Pv.callV (as := [.ref u, .ref 3, .int (Int32.ofNat 1)]) (rest := [.ref u]) rfl rfl rfl (zv_cond_1 (u := u) (m := m) (K := K) G 0 0 [] hs (by omega) (Nat.le_refl _)) (fun r2 G2 q => ?_)
  obtain ⟨x3, q⟩ := q
  cases ef : z_cond K (z_one K 8) 0 0 [] with
  | inr e =>
    rw [ef] at q
    obtain ⟨rfl, q1, q2⟩ := q
    have ez : z_sen K = .inr e := congrArg (z_top K) ef
    refine (show Pv (ab_T (L_X5_readText Z_X9_step Z_X5_readCond_1 Z_X9_fail)) N 21 [some (.ref u), some (.ref 3)] [.int 0, .ref u] G2 Q from ?_)
    refine Pv.if0 rfl (fun _ => ?_) (fun c => absurd c (by decide))
    refine Pv.lit rfl ?_
    refine Pv.putI rfl rfl ?_
    exact Pv.vret rfl (by rw [hQ]; exact ⟨rfl, (y1.tr x3).pu, by unfold ZW; rw [ez]; exact ⟨(fp_ne (Or.inl (by omega))).trans q1, (congrArg Int32.toInt (fp_ne (Or.inl (by omega)))).trans q2⟩⟩)
  | inl y =>
    rw [ef] at q
    obtain ⟨rfl, hs2⟩ := q
    refine (show Pv (ab_T (L_X5_readText Z_X9_step Z_X5_readCond_1 Z_X9_fail)) N 21 [some (.ref u), some (.ref 3)] [.int 1, .ref u] G2 Q from ?_)
    refine Pv.if0 rfl (fun c => absurd c (by decide)) (fun _ => ?_)
    refine Pv.aload rfl rfl ?_
    refine Pv.getI (z := G2.1 3 5) rfl rfl rfl ?_
    refine Pv.if0 rfl (fun c => ?_) (fun c => ?_)
    · have k0 : (K y.1).k = 0 := hs2.k.symm.trans (congrArg Int32.toInt (of_decide_eq_true c))
      have ez : z_sen K = .inl y := (congrArg (z_top K) ef).trans (if_pos k0)
      refine Pv.lit rfl ?_
      refine Pv.goto rfl ?_
      refine Pv.putI rfl rfl ?_
      exact Pv.vret rfl (by rw [hQ]; exact ⟨rfl, (y1.tr x3).pu, by unfold ZW; rw [ez]; exact ⟨(fp_ne (Or.inl (by omega))).trans hs2.2.1.2.2.2.2, hs2.2.2.1.p5, fp_eq⟩⟩)
    · have k0 : ¬ (K y.1).k = 0 := fun e => of_decide_eq_false c (Int32.toInt_inj.mp (hs2.k.trans e))
      have ez : z_sen K = zn 1 y.1 := (congrArg (z_top K) ef).trans (if_neg k0)
      refine Pv.aload rfl rfl ?_
      refine Pv.lit rfl ?_
      refine Pv.callV (as := [.ref 3, .int 1]) (rest := [.ref u]) rfl rfl rfl (c_fail (c := 1)) (fun r3 G3 p => ?_)
      obtain ⟨rfl, e3⟩ := p
      obtain ⟨b1, -, b2, b3⟩ := z_bad hs2 e3
      refine (show Pv (ab_T (L_X5_readText Z_X9_step Z_X5_readCond_1 Z_X9_fail)) N 36 [some (.ref u), some (.ref 3)] [.int 0, .ref u] G3 Q from ?_)
      refine Pv.if0 rfl (fun _ => ?_) (fun c => absurd c (by decide))
      refine Pv.lit rfl ?_
      refine Pv.putI rfl rfl ?_
      exact Pv.vret rfl (by rw [hQ]; exact ⟨rfl, ((y1.tr x3).tr b1).pu, by unfold ZW; rw [ez]; exact ⟨(fp_ne (Or.inl (by omega))).trans b2, (congrArg Int32.toInt (fp_ne (Or.inl (by omega)))).trans b3⟩⟩)
/-- what a sentence answers; its fault at f -/
def ZA (K : Nat → TT) (r : Option Value) (f : Int32) : Prop := match z_sen K with
  | .inl y => r = some (.int (Int32.ofNat y.2.1)) ∧ f = 0
  | .inr e => ∃ v : Int32, r = some (.int (-1 - v)) ∧ v.toInt = (K e.2).pl ∧ f = e.1
theorem zr_nz {K : Nat → TT} {w : Nat} {f : Nat → Nat → List ZO → ZR} (hf : ∀ i o l e, f i o l = .inr e → ¬ e.1 = 0) : ∀ (n : Nat) (r : ZR), (∀ e, r = .inr e → ¬ e.1 = 0) → ∀ e, z_join K w f n r = .inr e → ¬ e.1 = 0
  | 0, r, h, e, he => h e he
  | n + 1, .inr e0, h, e, he => h e he
  | n + 1, .inl y, h, e, he => by
    by_cases c : (K y.1).k = (w : Int)
    · have q : z_join K w f (n + 1) (.inl y) = z_join K w f n (z_op w (f (y.1 + 1) y.2.1 y.2.2)) := if_pos c
      rw [q] at he
      refine zr_nz hf n _ (fun e2 h2 => ?_) e he
      cases ef : f (y.1 + 1) y.2.1 y.2.2 with
      | inl y2 =>
        rw [ef] at h2
        cases h2
      | inr e3 =>
        rw [ef] at h2
        obtain rfl := Sum.inr.inj h2
        exact hf _ _ _ _ ef
    · have q : z_join K w f (n + 1) (.inl y) = .inl y := if_neg c
      rw [q] at he
      cases he
theorem zl_nz {K : Nat → TT} {i o : Nat} {l : List ZO} {e : Int32 × Nat} (h : z_leaf K i o l = .inr e) : ¬ e.1 = 0 := by
  unfold z_leaf at h
  split at h
  · split at h
    · cases h
    · rename_i c
      obtain rfl := Sum.inr.inj h
      exact c
  · split at h
    · split at h
      · cases h
      · obtain rfl := Sum.inr.inj h
        show ¬ (1 : Int32) = 0
        decide
    · obtain rfl := Sum.inr.inj h
      show ¬ (1 : Int32) = 0
      decide
theorem zo_nz {K : Nat → TT} : ∀ (d i o : Nat) (l : List ZO) (e : Int32 × Nat), z_one K d i o l = .inr e → ¬ e.1 = 0
  | 0, i, o, l, e, h => by
    have h : (if z_is K i then zn 4 i else zn 1 i) = Sum.inr e := h
    split at h
    · obtain rfl := Sum.inr.inj h
      show ¬ (4 : Int32) = 0
      decide
    · obtain rfl := Sum.inr.inj h
      show ¬ (1 : Int32) = 0
      decide
  | d + 1, i, o, l, e, h => by
    have h : (if z_is K i then (if 20 ≤ o then zn 4 i else if (K i).k = 40 then z_close K (z_cond K (z_one K d) (i + 1) (o + 1) l) else if (K i).k = 79 then z_op 79 (z_one K d (i + 1) (o + 1) l) else z_leaf K i (o + 1) l) else zn 1 i) = Sum.inr e := h
    have hA : ∀ i o l e, z_all K (z_one K d) i o l = .inr e → ¬ e.1 = 0 := fun i o l e h => zr_nz (fun i o l e => zo_nz d i o l e) 20 _ (fun e h => zo_nz d _ _ _ e h) e h
    split at h
    · split at h
      · obtain rfl := Sum.inr.inj h
        show ¬ (4 : Int32) = 0
        decide
      · split at h
        · cases ec : z_cond K (z_one K d) (i + 1) (o + 1) l with
          | inl y =>
            rw [ec] at h
            have h : (if (K y.1).k = 41 then zy (y.1 + 1) y.2.1 y.2.2 else zn 1 y.1) = Sum.inr e := h
            split at h
            · cases h
            · obtain rfl := Sum.inr.inj h
              show ¬ (1 : Int32) = 0
              decide
          | inr e2 =>
            rw [ec] at h
            obtain rfl := Sum.inr.inj h
            exact zr_nz hA 20 _ (fun e h => hA _ _ _ e h) _ ec
        · split at h
          · cases ec : z_one K d (i + 1) (o + 1) l with
            | inl y =>
              rw [ec] at h
              cases h
            | inr e2 =>
              rw [ec] at h
              obtain rfl := Sum.inr.inj h
              exact zo_nz d _ _ _ _ ec
          · exact zl_nz h
    · obtain rfl := Sum.inr.inj h
      show ¬ (1 : Int32) = 0
      decide
theorem zsen_nz {K : Nat → TT} {e : Int32 × Nat} (h : z_sen K = .inr e) : ¬ e.1 = 0 := by
  have hA : ∀ i o l e, z_all K (z_one K 8) i o l = .inr e → ¬ e.1 = 0 := fun i o l e h => zr_nz (fun i o l e => zo_nz 8 i o l e) 20 _ (fun e h => zo_nz 8 _ _ _ e h) e h
  unfold z_sen at h
  cases ec : z_cond K (z_one K 8) 0 0 [] with
  | inl y =>
    rw [ec] at h
    have h : (if (K y.1).k = 0 then Sum.inl y else zn 1 y.1) = Sum.inr e := h
    split at h
    · cases h
    · obtain rfl := Sum.inr.inj h
      show ¬ (1 : Int32) = 0
      decide
  | inr e2 =>
    rw [ec] at h
    obtain rfl := Sum.inr.inj h
    exact zr_nz hA 20 _ (fun e h => hA _ _ _ e h) _ ec
theorem o_se14v {F : FW} {p u m : Nat} {K : Nat → TT} (hG : GW F) (hp : F.2.1 0 15 = .ref p) (hu : F.2.1 0 16 = .ref u) (hO : O3 F u) (ju : u = 61 ∨ u = 65) (hT : TKF F K m) (h4 : F.1 3 4 = Int32.ofNat 0) (h9 : F.1 3 9 = 0) (N : Nat) : Pv (ab_T (L_X10_sentence Z_X8_moveInto Z_X5_readText)) N 14 [some (.ref 0), none] [] F (fun r F' => ZA K r (F'.1 0 18)) := by
  obtain ⟨Q, hQ⟩ : ∃ Q : Option Value → FW → Prop, Q = (fun r F' => ZA K r (F'.1 0 18)) := ⟨_, rfl⟩
  rw [← hQ]
  refine Pv.aload rfl rfl ?_
  refine Pv.getR (v := .ref u) rfl rfl hu ?_
  refine Pv.aload rfl rfl ?_
  refine Pv.getR (v := .ref 3) rfl rfl (GW.at (a := 0) (k := 1) (b := 3) hG (by decide)) ?_
  refine Pv.callV (as := [.ref u, .ref 3]) (rest := []) rfl rfl rfl (zc_text hG hO ju hT h4 h9) (fun r0 G q => ?_)
  obtain ⟨rfl, x, w⟩ := q
  refine (show Pv (ab_T (L_X10_sentence Z_X8_moveInto Z_X5_readText)) N 25 [some (.ref 0), none] [] G Q from ?_)
  refine Pv.aload rfl rfl ?_
  refine Pv.aload rfl rfl ?_
  refine Pv.getR (v := .ref 3) rfl rfl (GW.at (a := 0) (k := 1) (b := 3) (x.G hG) (by decide)) ?_
  refine Pv.getI (z := G.1 3 9) rfl rfl rfl ?_
  refine Pv.putI rfl rfl ?_
  refine Pv.aload rfl rfl ?_
  refine Pv.getI (z := G.1 3 9) rfl rfl fp_eq ?_
  unfold ZW at w
  cases ez : z_sen K with
  | inl y =>
    rw [ez] at w
    obtain ⟨w9, wl, w5⟩ := w
    rw [w9]
    refine Pv.if0 rfl (fun _ => ?_) (fun c => absurd c (by decide))
    refine Pv.aload rfl rfl ?_
    refine Pv.getR (v := .ref p) rfl rfl ((congrArg (fun z => z 0 15) x.2.2.1).trans hp) ?_
    refine Pv.astore (lo' := [some (.ref 0), some (.ref p)]) rfl rfl ?_
    refine Pv.aload rfl rfl ?_
    refine Pv.aload rfl rfl ?_
    refine Pv.getR (v := .ref u) rfl rfl ((congrArg (fun z => z 0 16) x.2.2.1).trans hu) ?_
    refine Pv.putR rfl rfl (Or.inr ⟨_, rfl⟩) ?_
    refine Pv.aload rfl rfl ?_
    refine Pv.aload rfl rfl ?_
    refine Pv.putR rfl rfl (Or.inr ⟨_, rfl⟩) ?_
    refine Pv.aload rfl rfl ?_
    refine Pv.getR (v := .ref u) rfl rfl ((fpr_ne (Or.inr (by decide))).trans (fpr_eq)) ?_
    refine Pv.getI (z := Int32.ofNat y.2.1) rfl rfl ((fp_ne (Or.inl (by omega))).trans wl.2.2.1) ?_
    exact Pv.ret rfl (by rw [hQ]; unfold ZA; rw [ez]; exact ⟨rfl, (show (fp G 0 18 0).1 0 18 = 0 from fp_eq)⟩)
  | inr e =>
    rw [ez] at w
    have nz := zsen_nz ez
    refine Pv.if0 rfl (fun c => absurd (w.1.symm.trans (of_decide_eq_true c)) nz) (fun _ => ?_)
    refine Pv.lit rfl ?_
    refine Pv.aload rfl rfl ?_
    refine Pv.getR (v := .ref 3) rfl rfl (GW.at (a := 0) (k := 1) (b := 3) (x.G hG) (by decide)) ?_
    refine Pv.getI (z := G.1 3 6) rfl rfl (fp_ne (Or.inl (by decide))) ?_
    refine Pv.bin (z := -1 - G.1 3 6) rfl rfl ?_
    exact Pv.ret rfl (by rw [hQ]; unfold ZA; rw [ez]; exact ⟨_, rfl, w.2, fp_eq.trans w.1⟩)
theorem d_senV {tt : Nat → Nat} {hp : ab_H} {tn : Nat} {D : DD} (Hs : sf_h tt hp) (hce : sf_cE kq_X8_moveInto_v Z_X8_moveInto ke_X8_moveInto_v) (hn : sf_rd hp 1 1 = some (tn : Int)) (h : CR (fl hp) D) : Pj Z_X10_sentence [.ref 0] hp (fun r F' => ZA (tok (bv hp 2 tn) tn 200) r (F'.1 0 18)) := by
  have hw := wt_of Hs
  refine Pj.of fun N => ?_
  obtain ⟨Q, hQ⟩ : ∃ Q : Option Value → FW → Prop, Q = (fun r F' => ZA (tok (bv hp 2 tn) tn 200) r (F'.1 0 18)) := ⟨_, rfl⟩
  rw [← hQ]
  obtain ⟨p, u, ju, h15, h16⟩ := h.e
  refine (show Pw (ab_T (L_X10_sentence Z_X8_moveInto Z_X5_readText)) N 0 [some (.ref 0), none] [] hp Q from ?_)
  refine Pw.aload rfl rfl ?_
  refine Pw.getR (v := .ref 1) hw rfl rfl (GW.at (a := 0) (k := 0) (b := 1) h.G (by decide)) ?_
  refine Pw.aload rfl rfl ?_
  refine Pw.getR (v := .ref 3) hw rfl rfl (GW.at (a := 0) (k := 1) (b := 3) h.G (by decide)) ?_
  refine Pw.lit rfl ?_
  refine Pw.callV (as := [.ref 1, .ref 3, .int (Int32.ofNat 200)]) (rest := []) rfl rfl rfl (fun o e => ?_)
  obtain ⟨w, r0, q⟩ := mv_flat (x := 200) Hs (by omega) hce h.G h.c hn o e
  rw [r0]
  refine Pw.v w ?_
  refine (show Pv (ab_T (L_X10_sentence Z_X8_moveInto Z_X5_readText)) N 14 [some (.ref 0), none] [] (fl o.2) Q from ?_)
  have h1 := h.mv q
  have z0 := (q.1.2 0 (by have := h.c; omega) (by decide)).2.1
  have o3 := o3w h1.G
  obtain ⟨-, -, q4, q9, -, mm, qT⟩ := q
  rw [hQ]
  exact o_se14v (p := p) (u := u) h1.G ((z0 15).trans h15) ((z0 16).trans h16) (by rcases ju with ⟨-, rfl⟩ | ⟨-, rfl⟩; exact o3.2; exact o3.1) (by omega) qT q4 q9 N
end
-- 63.b9zyb.se.lean.txt
section
/-- what the stack's way keeps -/
def ZMI (M : ZM) : Prop := M.2.1 ≤ 20 ∧ M.2.2.1.length + M.2.2.2.1.length + (if M.2.2.2.2 = true then 1 else 0) ≤ 2 * M.2.1 ∧ ZV M.2.2.2.1
theorem zf_sum (st : List Nat) (cs : List ZO) : (zm_flush st cs).1.length + (zm_flush st cs).2.length = cs.length + st.length :=
  (zj_sum true _ _).1.trans (zn_sum st cs).1
theorem zmi_step {K : Nat → TT} {M M' : ZM} (h : ZMI M) (e : zm_step K M = .inl M') : ZMI M' := by
  obtain ⟨i, o, cs, st, wh⟩ := M
  obtain ⟨ho, hs, hv⟩ := h
  replace ho : o ≤ 20 := ho
  replace hv : ZV st := hv
  cases wh with
  | true =>
    replace hs : cs.length + st.length + 1 ≤ 2 * o := hs
    have e : (if (K i).k = 0 then zm_fin i o cs st else zm_beh K i o cs st) = .inl M' := e
    by_cases k0 : (K i).k = 0
    · rw [if_pos k0] at e
      unfold zm_fin at e
      split at e <;> cases e
    · rw [if_neg k0] at e
      unfold zm_beh at e
      by_cases k78 : (K i).k = 78
      · rw [if_pos k78] at e
        obtain rfl := Sum.inl.inj e
        have s1 := (zj_sum false (zm_nots st cs).2 (zm_nots st cs).1).1
        have s2 := (zn_sum st cs).1
        refine ⟨ho, ?_, fun x hx => ?_⟩
        · show (zm_joins false (zm_nots st cs).2 (zm_nots st cs).1).1.length + (78 :: (zm_joins false (zm_nots st cs).2 (zm_nots st cs).1).2).length + 0 ≤ 2 * o
          rw [List.length_cons]
          omega
        · rcases List.mem_cons.mp hx with hx | hx
          · omega
          · exact zv_joins (zv_nots hv) x hx
      · rw [if_neg k78] at e
        have s1 := zf_sum st cs
        have v1 : ZV (zm_flush st cs).2 := zv_joins (zv_nots hv)
        by_cases k77 : (K i).k = 77
        · rw [if_pos k77] at e
          obtain rfl := Sum.inl.inj e
          refine ⟨ho, ?_, fun x hx => ?_⟩
          · show (zm_flush st cs).1.length + (77 :: (zm_flush st cs).2).length + 0 ≤ 2 * o
            rw [List.length_cons]
            omega
          · rcases List.mem_cons.mp hx with hx | hx
            · omega
            · exact v1 x hx
        · rw [if_neg k77] at e
          cases hst : (zm_flush st cs).2 with
          | nil =>
            rw [hst] at e
            cases e
          | cons x t =>
            rw [hst] at e s1 v1
            have e : (if (K i).k = 41 then Sum.inl (i + 1, o, (zm_flush st cs).1, t, true) else Sum.inr (zn 1 i)) = (Sum.inl M' : ZM ⊕ ZR) := e
            split at e
            · obtain rfl := Sum.inl.inj e
              rw [List.length_cons] at s1
              refine ⟨ho, ?_, fun y hy => v1 y (List.mem_cons_of_mem _ hy)⟩
              show (zm_flush st cs).1.length + t.length + 1 ≤ 2 * o
              omega
            · cases e
  | false =>
    replace hs : cs.length + st.length + 0 ≤ 2 * o := hs
    have e : zm_opd K i o cs st = .inl M' := e
    unfold zm_opd at e
    by_cases c : z_is K i
    · rw [if_pos c] at e
      by_cases c2 : 20 ≤ o ∨ 8 ≤ zm_dp st
      · rw [if_pos c2] at e
        cases e
      · rw [if_neg c2] at e
        by_cases k40 : (K i).k = 40
        · rw [if_pos k40] at e
          obtain rfl := Sum.inl.inj e
          refine ⟨(show o + 1 ≤ 20 by omega), ?_, fun x hx => ?_⟩
          · show cs.length + (40 :: st).length + 0 ≤ 2 * (o + 1)
            rw [List.length_cons]
            omega
          · rcases List.mem_cons.mp hx with hx | hx
            · omega
            · exact hv x hx
        · rw [if_neg k40] at e
          by_cases k79 : (K i).k = 79
          · rw [if_pos k79] at e
            obtain rfl := Sum.inl.inj e
            refine ⟨(show o + 1 ≤ 20 by omega), ?_, fun x hx => ?_⟩
            · show cs.length + (79 :: st).length + 0 ≤ 2 * (o + 1)
              rw [List.length_cons]
              omega
            · rcases List.mem_cons.mp hx with hx | hx
              · omega
              · exact hv x hx
          · rw [if_neg k79] at e
            cases ef : z_leaf K i (o + 1) cs with
            | inl y =>
              rw [ef] at e
              obtain rfl := Sum.inl.inj e
              have g := z_leaf_g ef
              refine ⟨(show y.2.1 ≤ 20 by omega), ?_, hv⟩
              show y.2.2.length + st.length + 1 ≤ 2 * y.2.1
              omega
            | inr e2 =>
              rw [ef] at e
              cases e
    · rw [if_neg c] at e
      cases e
theorem zmi0 : ZMI (0, 0, [], [], false) := ⟨(show (0 : Nat) ≤ 20 by decide), (show ([] : List ZO).length + ([] : List Nat).length + (if false = true then 1 else 0) ≤ 2 * 0 by decide), fun x hx => by cases hx⟩
/-- the loop of the reference's sentence -/
theorem x_sen48 {F : FW} {B : Nat → Int} {n : Nat} (h : ZX F B n (0, 0, [], [], false)) (N : Nat) : Pv (ab_T (L_X11_sentence Z_X11_taken Z_X11_next Z_X11_nots Z_X11_joins Z_X11_bad Z_X11_behind Z_X11_operand)) N 48 [some (.ref 69), some (.int 1), none] [] F (fun r F' => ZA (tok B n 200) r (F'.1 69 15)) := by
  obtain ⟨Q, hQ⟩ : ∃ Q : Option Value → FW → Prop, Q = (fun r F' => ZA (tok B n 200) r (F'.1 69 15)) := ⟨_, rfl⟩
  rw [← hQ]
  have hz := zs_sen (K := tok B n 200)
  -- wrong
  have stop : ∀ (N1 : Nat) (g : Int32) (G : FW) (e : Int32 × Nat), ZT (tok B n 200) (0, 0, [], [], false) (.inr e) → G.1 69 15 = e.1 → (G.1 69 16).toInt = (tok B n 200 e.2).pl → Pv (ab_T (L_X11_sentence Z_X11_taken Z_X11_next Z_X11_nots Z_X11_joins Z_X11_bad Z_X11_behind Z_X11_operand)) N1 125 [some (.ref 69), some (.int g), none] [] G Q := fun N1 g G e hz2 h15 h16 => by
    have ez := ZT.one hz hz2
    refine Pv.lit rfl ?_
    refine Pv.aload rfl rfl ?_
    refine Pv.getI (z := G.1 69 16) rfl rfl rfl ?_
    refine Pv.bin (z := -1 - G.1 69 16) rfl rfl ?_
    exact Pv.ret rfl (by rw [hQ]; unfold ZA; rw [ez]; exact ⟨_, rfl, h16, h15⟩)
  refine Pv.lp (ι := FW × Bool × ZM) (lof := fun x => [some (.ref 69), some (.int (cond x.2.1 1 0)), none]) (Ff := fun x => x.1) (P := fun x => ZX x.1 B n x.2.2 ∧ ZMI x.2.2 ∧ (x.2.1 = true → Zr (tok B n 200) (0, 0, [], [], false) x.2.2) ∧ (x.2.1 = false → ZT (tok B n 200) (0, 0, [], [], false) (zy x.2.2.1 x.2.2.2.1 x.2.2.2.2.1))) ?_ (F, true, (0, 0, [], [], false)) ⟨h, zmi0, fun _ => Zr.rf, fun e => (by cases e)⟩
  rintro N1 hN1 ⟨G, g, i, o, cs, st, wh⟩ ⟨hx, hmi, hr, ht⟩ ih
  replace hx : ZX G B n (i, o, cs, st, wh) := hx
  replace hmi : ZMI (i, o, cs, st, wh) := hmi
  obtain ⟨ho, hsum, hv⟩ := id hmi
  replace ho : o ≤ 20 := ho
  replace hsum : cs.length + st.length + (if wh = true then 1 else 0) ≤ 2 * o := hsum
  replace hv : ZV st := hv
  refine (show Pv (ab_T (L_X11_sentence Z_X11_taken Z_X11_next Z_X11_nots Z_X11_joins Z_X11_bad Z_X11_behind Z_X11_operand)) (N1 + 1) 48 [some (.ref 69), some (.int (cond g 1 0)), none] [] G Q from ?_)
  refine Pv.iloadS rfl rfl ?_
  cases g with
  | false =>
    have ez : z_sen (tok B n 200) = zy i o cs := ZT.one hz (ht rfl)
    have f35 : G.1 69 35 = Int32.ofNat o := hx.2.2.1
    have f34 : G.1 69 34 = Int32.ofNat cs.length := hx.2.2.2.1.1
    have f15 : G.1 69 15 = 0 := hx.2.2.2.2.2.2
    refine Pv.if0 rfl (fun _ => ?_) (fun c => absurd c (by decide))
    refine Pv.aload rfl rfl ?_
    refine Pv.getR (v := .ref 71) rfl rfl (GW.at (a := 69) (k := 6) (b := 71) hx.1 (by decide)) ?_
    refine Pv.lit rfl ?_
    refine Pv.aload rfl rfl ?_
    refine Pv.getI (z := Int32.ofNat cs.length) rfl rfl f34 ?_
    refine Pv.astk (k := 253) (z := Int32.ofNat cs.length) rfl rfl rfl ?_
    refine Pv.lit rfl ?_
    refine Pv.istore (lo' := [some (.ref 69), some (.int 0), some (.int 0)]) rfl rfl ?_
    refine Pv.lp (ι := Nat × FW) (lof := fun x => [some (.ref 69), some (.int 0), some (.int (Int32.ofNat x.1))]) (Ff := fun x => x.2) (P := fun x => x.1 ≤ 3 * cs.length ∧ FX (fun q => q = 71) G x.2) ?_ (0, fp G 71 253 (Int32.ofNat cs.length)) ⟨Nat.zero_le _, FX.fp FX.rf rfl⟩
    rintro N2 hN2 ⟨k, G2⟩ ⟨hk, x2⟩ ih2
    replace hk : k ≤ 3 * cs.length := hk
    replace x2 : FX (fun q => q = 71) G G2 := x2
    have e : ∀ j, G2.1 69 j = G.1 69 j := fun j => x2.1 69 j (by decide)
    refine (show Pv (ab_T (L_X11_sentence Z_X11_taken Z_X11_next Z_X11_nots Z_X11_joins Z_X11_bad Z_X11_behind Z_X11_operand)) (N2 + 1) 146 [some (.ref 69), some (.int 0), some (.int (Int32.ofNat k))] [] G2 Q from ?_)
    refine Pv.iloadS rfl rfl ?_
    refine Pv.lit rfl ?_
    refine Pv.aload rfl rfl ?_
    refine Pv.getI (z := Int32.ofNat cs.length) rfl rfl ((e 34).trans f34) ?_
    refine Pv.bin (z := Int32.ofNat (3 * cs.length)) rfl (i_mul 3 cs.length) ?_
    have hcs : cs.length ≤ 40 := by
      split at hsum <;> omega
    refine Pv.icmp rfl (fun c => ?_) (fun c => ?_)
    · refine Pv.aload rfl rfl ?_
      refine Pv.getI (z := Int32.ofNat o) rfl rfl ((e 35).trans f35) ?_
      exact Pv.ret rfl (by rw [hQ]; unfold ZA; rw [ez]; exact ⟨rfl, (e 15).trans f15⟩)
    · have c2 := mt (i_le (a := 3 * cs.length) (b := k) (by omega) (by omega)).mpr (of_decide_eq_false c)
      refine Pv.aload rfl rfl ?_
      refine Pv.getR (v := .ref 71) rfl rfl (GW.at (a := 69) (k := 6) (b := 71) (hx.1.fx x2) (by decide)) ?_
      refine Pv.lit rfl ?_
      refine Pv.iload rfl rfl ?_
      refine Pv.bin (z := Int32.ofNat (254 + k)) rfl (i_add 254 k) ?_
      refine Pv.aload rfl rfl ?_
      refine Pv.getR (v := .ref 73) rfl rfl (GW.at (a := 69) (k := 8) (b := 73) (hx.1.fx x2) (by decide)) ?_
      refine Pv.iload rfl rfl ?_
      refine Pv.ald (z := G2.1 73 k) rfl (by rw [i_toNat (by omega)]) ?_
      refine Pv.astk (k := 254 + k) (z := G2.1 73 k) rfl (i_toNat (by omega)) rfl ?_
      refine Pv.iinc (y := Int32.ofNat (k + 1)) (lo' := [some (.ref 69), some (.int 0), some (.int (Int32.ofNat (k + 1)))]) rfl rfl (i_add k 1) rfl ?_
      refine Pv.goto rfl ?_
      exact ih2 (k + 1, fp G2 71 (254 + k) (G2.1 73 k)) ⟨(show k + 1 ≤ 3 * cs.length by omega), FX.fp x2 rfl⟩
  | true =>
    have zr := hr rfl
    replace zr : Zr (tok B n 200) (0, 0, [], [], false) (i, o, cs, st, wh) := zr
    have f38 := hx.2.2.2.2.2.1
    have hN := hx.2.1.2.2.2.1
    replace hN : NTF G (tok B n 200 i) := hN
    refine Pv.if0 rfl (fun c => absurd c (by decide)) (fun _ => ?_)
    refine Pv.aload rfl rfl ?_
    refine Pv.getI (z := cond wh 1 0) rfl rfl f38 ?_
    -- a step went well
    have next : ∀ (G2 : FW) (M2 : ZM), zm_step (tok B n 200) (i, o, cs, st, wh) = .inl M2 → ZX G2 B n M2 → Pv (ab_T (L_X11_sentence Z_X11_taken Z_X11_next Z_X11_nots Z_X11_joins Z_X11_bad Z_X11_behind Z_X11_operand)) N1 48 [some (.ref 69), some (.int 1), none] [] G2 Q := fun G2 M2 es h2 => ih (G2, true, M2) ⟨h2, zmi_step hmi es, fun _ => zr.tr (Zr.st es), fun q => (by cases q)⟩
    cases wh with
    | true =>
      replace hsum : cs.length + st.length + 1 ≤ 2 * o := hsum
      refine Pv.if0 rfl (fun c => absurd c (by decide)) (fun _ => ?_)
      refine Pv.aload rfl rfl ?_
      refine Pv.getI (z := G.1 69 11) rfl rfl rfl ?_
      by_cases k0 : (tok B n 200 i).k = 0
      · have e11 : G.1 69 11 = 0 := Int32.toInt_inj.mp (hN.2.2.1.trans (by rw [k0]; rfl))
        rw [e11]
        refine Pv.if0 rfl (fun c => absurd c (by decide)) (fun _ => ?_)
        have es : zm_step (tok B n 200) (i, o, cs, st, true) = zm_fin i o cs st := (if_pos rfl).trans (if_pos k0)
        refine Pv.aload rfl rfl ?_
        refine Pv.callV (as := [.ref 69]) (rest := []) rfl rfl rfl (x_nots hx.1 hx.2.2.2.1 hx.2.2.2.2.1 (by show cs.length + st.length ≤ 60; omega)) (fun r1 G1 p => ?_)
        obtain ⟨rfl, y1, C1, K1⟩ := p
        have h1 := hx.zf y1 C1 K1
        have s1 := (zn_sum st cs).1
        refine (show Pv (ab_T (L_X11_sentence Z_X11_taken Z_X11_next Z_X11_nots Z_X11_joins Z_X11_bad Z_X11_behind Z_X11_operand)) N1 70 [some (.ref 69), some (.int 1), none] [] G1 Q from ?_)
        refine Pv.aload rfl rfl ?_
        refine Pv.lit rfl ?_
        refine Pv.callV (as := [.ref 69, .int (zjt true)]) (rest := []) rfl rfl rfl (x_joins true h1.1 C1 K1 (by show (zm_nots st cs).1.length + (zm_nots st cs).2.length ≤ 60; omega)) (fun r2 G2 p => ?_)
        obtain ⟨rfl, y2, C2, K2⟩ := p
        have h2 := h1.zf y2 C2 K2
        have s2 := zf_sum st cs
        replace C2 : XC G2 (zm_flush st cs).1 := C2
        replace K2 : XK G2 (zm_flush st cs).2 := K2
        replace h2 : ZX G2 B n (i, o, (zm_flush st cs).1, (zm_flush st cs).2, true) := h2
        refine (show Pv (ab_T (L_X11_sentence Z_X11_taken Z_X11_next Z_X11_nots Z_X11_joins Z_X11_bad Z_X11_behind Z_X11_operand)) N1 76 [some (.ref 69), some (.int 1), none] [] G2 Q from ?_)
        refine Pv.aload rfl rfl ?_
        refine Pv.getI (z := Int32.ofNat (zm_flush st cs).2.length) rfl rfl K2.1 ?_
        cases hst : (zm_flush st cs).2 with
        | nil =>
          have es2 : zm_step (tok B n 200) (i, o, cs, st, true) = .inr (zy i o (zm_flush st cs).1) := by
            rw [es]
            unfold zm_fin
            rw [hst]
          rw [hst] at h2 s2
          refine Pv.if0 rfl (fun _ => ?_) (fun c => absurd c (by decide))
          refine Pv.lit rfl ?_
          refine Pv.istore (lo' := [some (.ref 69), some (.int 0), none]) rfl rfl ?_
          refine Pv.goto rfl ?_
          refine ih (G2, false, (i, o, (zm_flush st cs).1, [], true)) ⟨h2, ⟨ho, ?_, fun x hx => (by cases hx)⟩, fun q => (by cases q), fun _ => zr.fin (ZT.st es2)⟩
          show (zm_flush st cs).1.length + 0 + 1 ≤ 2 * o
          have s3 : (zm_flush st cs).1.length + 0 = cs.length + st.length := s2
          omega
        | cons x t =>
          have es2 : zm_step (tok B n 200) (i, o, cs, st, true) = .inr (zn 1 i) := by
            rw [es]
            unfold zm_fin
            rw [hst]
          rw [hst] at s2
          rw [List.length_cons] at s2
          refine Pv.if0 rfl (fun c => ?_) (fun _ => ?_)
          · have q := (i_le (a := t.length + 1) (b := 0) (by omega) (by omega)).mp (of_decide_eq_true c)
            omega
          · refine Pv.aload rfl rfl ?_
            refine Pv.lit rfl ?_
            refine Pv.callV (as := [.ref 69, .int 1]) (rest := []) rfl rfl rfl (r_bad (c := 1) h2.1) (fun r3 G3 p => ?_)
            obtain ⟨rfl, e3⟩ := p
            obtain ⟨-, b1, b2⟩ := x_bad (i := i) h2.2.1 e3
            have ez := ZT.one hz (zr.fin (ZT.st es2))
            refine (show Pv (ab_T (L_X11_sentence Z_X11_taken Z_X11_next Z_X11_nots Z_X11_joins Z_X11_bad Z_X11_behind Z_X11_operand)) N1 88 [some (.ref 69), some (.int 1), none] [.int 0] G3 Q from ?_)
            refine Pv.pop rfl ?_
            refine Pv.lit rfl ?_
            refine Pv.aload rfl rfl ?_
            refine Pv.getI (z := G3.1 69 16) rfl rfl rfl ?_
            refine Pv.bin (z := -1 - G3.1 69 16) rfl rfl ?_
            exact Pv.ret rfl (by rw [hQ]; unfold ZA; rw [ez]; exact ⟨_, rfl, b2, b1⟩)
      · have e11 : ¬ G.1 69 11 = 0 := fun q => k0 (rkk_0 (hN.2.2.1.symm.trans (congrArg Int32.toInt q)))
        refine Pv.if0 rfl (fun _ => ?_) (fun c => absurd (by simpa using c) e11)
        refine Pv.aload rfl rfl ?_
        refine Pv.getI (z := 1) rfl rfl f38 ?_
        refine Pv.if0 rfl (fun c => absurd c (by decide)) (fun _ => ?_)
        refine Pv.aload rfl rfl ?_
        refine Pv.callV (as := [.ref 69]) (rest := []) rfl rfl rfl (x_behind hx (by omega) hv) (fun r1 G1 p => ?_)
        have es : zm_step (tok B n 200) (i, o, cs, st, true) = zm_beh (tok B n 200) i o cs st := (if_pos rfl).trans (if_neg k0)
        cases eb : zm_beh (tok B n 200) i o cs st with
        | inl M2 =>
          rw [eb] at p es
          obtain ⟨rfl, h2⟩ := p
          refine (show Pv (ab_T (L_X11_sentence Z_X11_taken Z_X11_next Z_X11_nots Z_X11_joins Z_X11_bad Z_X11_behind Z_X11_operand)) N1 112 [some (.ref 69), some (.int 1), none] [.int 1] G1 Q from ?_)
          refine Pv.if0 rfl (fun _ => ?_) (fun c => absurd c (by decide))
          exact next G1 M2 es h2
        | inr e =>
          rw [eb] at p es
          cases e with
          | inl y => exact p.elim
          | inr e =>
            obtain ⟨rfl, q1, q2⟩ := p
            refine (show Pv (ab_T (L_X11_sentence Z_X11_taken Z_X11_next Z_X11_nots Z_X11_joins Z_X11_bad Z_X11_behind Z_X11_operand)) N1 112 [some (.ref 69), some (.int 1), none] [.int 0] G1 Q from ?_)
            refine Pv.if0 rfl (fun c => absurd c (by decide)) (fun _ => ?_)
            refine Pv.goto rfl ?_
            exact stop N1 1 G1 e (zr.fin (ZT.st es)) q1 q2
    | false =>
      replace hsum : cs.length + st.length + 0 ≤ 2 * o := hsum
      refine Pv.if0 rfl (fun _ => ?_) (fun c => absurd c (by decide))
      refine Pv.aload rfl rfl ?_
      refine Pv.getI (z := 0) rfl rfl f38 ?_
      refine Pv.if0 rfl (fun _ => ?_) (fun c => absurd c (by decide))
      refine Pv.aload rfl rfl ?_
      refine Pv.callV (as := [.ref 69]) (rest := []) rfl rfl rfl (x_operand hx ho (by omega)) (fun r1 G1 p => ?_)
      have es : zm_step (tok B n 200) (i, o, cs, st, false) = zm_opd (tok B n 200) i o cs st := if_neg (show ¬ (false = true) by decide)
      cases eb : zm_opd (tok B n 200) i o cs st with
      | inl M2 =>
        rw [eb] at p es
        obtain ⟨rfl, h2⟩ := p
        refine (show Pv (ab_T (L_X11_sentence Z_X11_taken Z_X11_next Z_X11_nots Z_X11_joins Z_X11_bad Z_X11_behind Z_X11_operand)) N1 122 [some (.ref 69), some (.int 1), none] [.int 1] G1 Q from ?_)
        refine Pv.if0 rfl (fun _ => ?_) (fun c => absurd c (by decide))
        exact next G1 M2 es h2
      | inr e =>
        rw [eb] at p es
        cases e with
        | inl y => exact p.elim
        | inr e =>
          obtain ⟨rfl, q1, q2⟩ := p
          refine (show Pv (ab_T (L_X11_sentence Z_X11_taken Z_X11_next Z_X11_nots Z_X11_joins Z_X11_bad Z_X11_behind Z_X11_operand)) N1 122 [some (.ref 69), some (.int 1), none] [.int 0] G1 Q from ?_)
          refine Pv.if0 rfl (fun c => absurd c (by decide)) (fun _ => ?_)
          exact stop N1 1 G1 e (zr.fin (ZT.st es)) q1 q2
theorem q_sen {F : FW} {tn : Nat} (hG : GW F) (h2 : F.1 69 2 = Int32.ofNat tn) (htn : tn ≤ 940) : Pm Z_X11_sentence [.ref 69] F (fun r F' => ZA (tok (RBF F tn) tn 200) r (F'.1 69 15)) := by
  refine Pm.of fun N => ?_
  refine (show Pv (ab_T (L_X11_sentence Z_X11_taken Z_X11_next Z_X11_nots Z_X11_joins Z_X11_bad Z_X11_behind Z_X11_operand)) N 0 [some (.ref 69), none, none] [] F _ from ?_)
  refine Pv.aload rfl rfl ?_
  refine Pv.lit rfl ?_
  refine Pv.putI rfl rfl ?_
  refine Pv.aload rfl rfl ?_
  refine Pv.lit rfl ?_
  refine Pv.callV (as := [.ref 69, .int (Int32.ofNat 200)]) (rest := []) rfl rfl rfl (r_taken (tn := tn) ((fp_ne (Or.inr (by decide))).trans h2) (Int32.ofNat 200)) (fun r1 F1 p => ?_)
  obtain ⟨rfl, e1⟩ := p
  refine (show Pv (ab_T (L_X11_sentence Z_X11_taken Z_X11_next Z_X11_nots Z_X11_joins Z_X11_bad Z_X11_behind Z_X11_operand)) N 12 [some (.ref 69), none, none] [] F1 _ from ?_)
  refine Pv.aload rfl rfl ?_
  refine Pv.lit rfl ?_
  refine Pv.putI rfl rfl ?_
  refine Pv.aload rfl rfl ?_
  refine Pv.lit rfl ?_
  refine Pv.putI rfl rfl ?_
  refine Pv.aload rfl rfl ?_
  refine Pv.lit rfl ?_
  refine Pv.putI rfl rfl ?_
  refine Pv.aload rfl rfl ?_
  refine Pv.lit rfl ?_
  refine Pv.putI rfl rfl ?_
  refine Pv.aload rfl rfl ?_
  refine Pv.lit rfl ?_
  refine Pv.putI rfl rfl ?_
  refine Pv.aload rfl rfl ?_
  refine Pv.lit rfl ?_
  refine Pv.putI rfl rfl ?_
  have x1 : FX (fun q => q = 69) F F1 := by rw [e1]; exact FX.fp (FX.fp (FX.fp (FX.fp (FX.fp FX.rf rfl) rfl) rfl) rfl) rfl
  have a3 : F1.1 69 3 = Int32.ofNat tn := by rw [e1]; exact (fp_ne (Or.inr (by decide))).trans ((fp_ne (Or.inr (by decide))).trans ((fp_ne (Or.inr (by decide))).trans fp_eq))
  have a4 : F1.1 69 4 = Int32.ofNat 0 := by rw [e1]; exact (fp_ne (Or.inr (by decide))).trans fp_eq
  have a5 : F1.1 69 5 = Int32.ofNat 200 := by rw [e1]; exact fp_eq
  obtain ⟨F2, hF2⟩ : ∃ F2 : FW, F2 = fp (fp (fp (fp (fp (fp F1 69 15 0) 69 34 0) 69 35 0) 69 36 0) 69 37 1) 69 38 0 := ⟨_, rfl⟩
  have x2 : FX (fun q => q = 69) F F2 := by rw [hF2]; exact FX.fp (FX.fp (FX.fp (FX.fp (FX.fp (FX.fp x1 rfl) rfl) rfl) rfl) rfl) rfl
  have k0 : ∀ k, k ≠ 15 → k ≠ 34 → k ≠ 35 → k ≠ 36 → k ≠ 37 → k ≠ 38 → F2.1 69 k = F1.1 69 k := fun k b1 b2 b3 b4 b5 b6 => by
    rw [hF2]
    exact (fp_ne (Or.inr b6)).trans ((fp_ne (Or.inr b5)).trans ((fp_ne (Or.inr b4)).trans ((fp_ne (Or.inr b3)).trans ((fp_ne (Or.inr b2)).trans (fp_ne (Or.inr b1))))))
  have b3 : F2.1 69 3 = Int32.ofNat tn := (k0 3 (by decide) (by decide) (by decide) (by decide) (by decide) (by decide)).trans a3
  have b4 : F2.1 69 4 = Int32.ofNat 0 := (k0 4 (by decide) (by decide) (by decide) (by decide) (by decide) (by decide)).trans a4
  have b5 : F2.1 69 5 = Int32.ofNat 200 := (k0 5 (by decide) (by decide) (by decide) (by decide) (by decide) (by decide)).trans a5
  have c15 : F2.1 69 15 = 0 := by rw [hF2]; exact (fp_ne (Or.inr (by decide))).trans ((fp_ne (Or.inr (by decide))).trans ((fp_ne (Or.inr (by decide))).trans ((fp_ne (Or.inr (by decide))).trans ((fp_ne (Or.inr (by decide))).trans fp_eq))))
  have c34 : F2.1 69 34 = 0 := by rw [hF2]; exact (fp_ne (Or.inr (by decide))).trans ((fp_ne (Or.inr (by decide))).trans ((fp_ne (Or.inr (by decide))).trans ((fp_ne (Or.inr (by decide))).trans fp_eq)))
  have c35 : F2.1 69 35 = 0 := by rw [hF2]; exact (fp_ne (Or.inr (by decide))).trans ((fp_ne (Or.inr (by decide))).trans ((fp_ne (Or.inr (by decide))).trans fp_eq))
  have c36 : F2.1 69 36 = 0 := by rw [hF2]; exact (fp_ne (Or.inr (by decide))).trans ((fp_ne (Or.inr (by decide))).trans fp_eq)
  have c37 : F2.1 69 37 = 1 := by rw [hF2]; exact (fp_ne (Or.inr (by decide))).trans fp_eq
  have c38 : F2.1 69 38 = 0 := by rw [hF2]; exact fp_eq
  rw [← hF2]
  refine (show Pv (ab_T (L_X11_sentence Z_X11_taken Z_X11_next Z_X11_nots Z_X11_joins Z_X11_bad Z_X11_behind Z_X11_operand)) N 42 [some (.ref 69), none, none] [] F2 _ from ?_)
  refine Pv.aload rfl rfl ?_
  refine Pv.callV (as := [.ref 69]) (rest := []) rfl rfl rfl (g_next (n := tn) (p := 0) (lim := 200) (hG.fx x2) b3 b4 b5 htn (Nat.zero_le _) (by omega)) (fun r3 F3 p => ?_)
  obtain ⟨rfl, y1, y2⟩ := p
  have ht : RTK F3 (RBF F tn) tn 200 0 := RTK.of0 y1 (fun k => x2.1 70 k (by decide)) b3 b5 y2 htn (by omega)
  have e : ∀ k, k ≠ 4 → k ≠ 11 → k ≠ 12 → k ≠ 13 → k ≠ 14 → F3.1 69 k = F2.1 69 k := y1.2.1
  refine (show Pv (ab_T (L_X11_sentence Z_X11_taken Z_X11_next Z_X11_nots Z_X11_joins Z_X11_bad Z_X11_behind Z_X11_operand)) N 46 [some (.ref 69), none, none] [] F3 _ from ?_)
  refine Pv.lit rfl ?_
  refine Pv.istore (lo' := [some (.ref 69), some (.int 1), none]) rfl rfl ?_
  exact x_sen48 ⟨y1.G (hG.fx x2), ht, (e 35 (by decide) (by decide) (by decide) (by decide) (by decide)).trans c35, ⟨(e 34 (by decide) (by decide) (by decide) (by decide) (by decide)).trans c34, fun j x hj => by cases hj⟩, ⟨(e 36 (by decide) (by decide) (by decide) (by decide) (by decide)).trans c36, (e 37 (by decide) (by decide) (by decide) (by decide) (by decide)).trans c37, fun s x t he => by cases s <;> cases he⟩, (e 38 (by decide) (by decide) (by decide) (by decide) (by decide)).trans c38, (e 15 (by decide) (by decide) (by decide) (by decide) (by decide)).trans c15⟩ N
/-- a Sentence on both sides: the answers; the faults -/
theorem lw_sen {t t1 : Nat → Nat} {hp hp1 hp2 : ab_H} {r1 r2 : Option Value} {D : DD} {tn : Nat} (H : sf_h t hp) (H1 : sf_h t1 hp1) (hce : sf_cE kq_X8_moveInto_v Z_X8_moveInto ke_X8_moveInto_v) (hC : CR (fl hp) D) (hX1 : XR (fl hp1) D) (htn : tn ≤ 940) (hn : sf_rd hp 1 1 = some (tn : Int)) (hm : sf_rd hp1 69 2 = some (tn : Int)) (hb : bv hp1 70 tn = bv hp 2 tn) (x1 : sf_eqn Z_X10_sentence [.ref 0] hp r1 hp1) (x2 : sf_eqn Z_X11_sentence [.ref 69] hp1 r2 hp2) : r1 = r2 ∧ (fl hp1).1 0 18 = (fl hp2).1 69 15 := by
  obtain ⟨-, a⟩ := d_senV H hce hn hC _ x1
  have b := pE H1 (q_sen hX1.G (nat_rd hm htn) htn) x2
  replace a : ZA (tok (bv hp 2 tn) tn 200) r1 ((fl hp1).1 0 18) := a
  replace b : ZA (tok (RBF (fl hp1) tn) tn 200) r2 ((fl hp2).1 69 15) := b
  rw [RBF_bv H1 htn, hb] at b
  unfold ZA at a b
  cases ez : z_sen (tok (bv hp 2 tn) tn 200) with
  | inl y =>
    rw [ez] at a b
    exact ⟨a.1.trans b.1.symm, a.2.trans b.2.symm⟩
  | inr e =>
    rw [ez] at a b
    obtain ⟨v, a1, a2, a3⟩ := a
    obtain ⟨w, b1, b2, b3⟩ := b
    have q : v = w := Int32.toInt_inj.mp (a2.trans b2.symm)
    rw [← q] at b1
    exact ⟨a1.trans b1.symm, a3.trans b3.symm⟩
end
-- 64.fresh.lean.txt
section
/-! ===== the fresh heap ===== -/
def FLl : List ab_E := [
  .inr (10, [.ref 1, .ref 3, .ref 7, .ref 10, .ref 12, .ref 20, .ref 28, .ref 36, .ref 40, .ref 41, .ref 42, .ref 43, .ref 44, .ref 45, .ref 53, .ref 61, .ref 65, .int 0, .int 0]),
  .inr (8, [.ref 2, .int 0, .int 0]),
  .inl (0, 940, .inl (fun _ => 0)),
  .inr (9, [.ref 4, .ref 5, .ref 6, .int 0, .int 0, .int 0, .int 0, .int 0, .long 0, .int 0]),
  .inl (1, 901, .inl (fun _ => 0)),
  .inl (1, 901, .inl (fun _ => 0)),
  .inl (2, 901, .inr (.inl (fun _ => 0))),
  .inr (1, [.ref 8, .ref 9, .int 0, .int 0]),
  .inl (1, 6, .inl (fun _ => 0)),
  .inl (1, 6, .inl (fun _ => 0)),
  .inr (2, [.ref 11, .int 0]),
  .inl (5, 8, .inr (.inr (.inr (.inr (fun _ => none))))),
  .inr (6, [.ref 13, .ref 14, .ref 15, .ref 16, .ref 17, .ref 18, .ref 19, .int 0, .int 0, .int 0]),
  .inl (1, 12, .inl (fun _ => 0)),
  .inl (1, 12, .inl (fun _ => 0)),
  .inl (1, 12, .inl (fun _ => 0)),
  .inl (1, 12, .inl (fun _ => 0)),
  .inl (1, 8, .inl (fun _ => 0)),
  .inl (1, 8, .inl (fun _ => 0)),
  .inl (1, 64, .inl (fun _ => 0)),
  .inr (6, [.ref 21, .ref 22, .ref 23, .ref 24, .ref 25, .ref 26, .ref 27, .int 0, .int 0, .int 0]),
  .inl (1, 12, .inl (fun _ => 0)),
  .inl (1, 12, .inl (fun _ => 0)),
  .inl (1, 12, .inl (fun _ => 0)),
  .inl (1, 12, .inl (fun _ => 0)),
  .inl (1, 8, .inl (fun _ => 0)),
  .inl (1, 8, .inl (fun _ => 0)),
  .inl (1, 64, .inl (fun _ => 0)),
  .inr (6, [.ref 29, .ref 30, .ref 31, .ref 32, .ref 33, .ref 34, .ref 35, .int 0, .int 0, .int 0]),
  .inl (1, 12, .inl (fun _ => 0)),
  .inl (1, 12, .inl (fun _ => 0)),
  .inl (1, 12, .inl (fun _ => 0)),
  .inl (1, 12, .inl (fun _ => 0)),
  .inl (1, 8, .inl (fun _ => 0)),
  .inl (1, 8, .inl (fun _ => 0)),
  .inl (1, 64, .inl (fun _ => 0)),
  .inr (4, [.ref 37, .ref 38, .ref 39, .int 0]),
  .inl (1, 40, .inl (fun _ => 0)),
  .inl (1, 40, .inl (fun _ => 0)),
  .inl (1, 40, .inl (fun _ => 0)),
  .inr (0, [.int 0]),
  .inl (4, 2, .inr (.inr (.inr (.inr (fun _ => none))))),
  .inl (1, 12, .inl (fun _ => 0)),
  .inl (1, 60, .inl (fun _ => 0)),
  .inl (1, 4, .inl (upd (upd (upd (upd (fun _ => 0) 0 (-1)) 1 (-1)) 2 (-1)) 3 (-1))),
  .inr (7, [.ref 46, .ref 47, .ref 48, .ref 49, .ref 50, .ref 51, .ref 52, .int 10, .int 0, .int 0, .int 0, .int 0, .long 0]),
  .inl (2, 6, .inr (.inl (fun _ => 0))),
  .inl (2, 8, .inr (.inl (fun _ => 0))),
  .inl (1, 8, .inl (fun _ => 0)),
  .inl (1, 48, .inl (fun _ => 0)),
  .inl (1, 20, .inl (fun _ => 0)),
  .inl (1, 20, .inl (fun _ => 0)),
  .inl (1, 20, .inl (fun _ => 0)),
  .inr (7, [.ref 54, .ref 55, .ref 56, .ref 57, .ref 58, .ref 59, .ref 60, .int 10, .int 0, .int 0, .int 0, .int 0, .long 0]),
  .inl (2, 6, .inr (.inl (fun _ => 0))),
  .inl (2, 8, .inr (.inl (fun _ => 0))),
  .inl (1, 8, .inl (fun _ => 0)),
  .inl (1, 48, .inl (fun _ => 0)),
  .inl (1, 20, .inl (fun _ => 0)),
  .inl (1, 20, .inl (fun _ => 0)),
  .inl (1, 20, .inl (fun _ => 0)),
  .inr (5, [.ref 62, .ref 63, .ref 64, .int 0, .int 0, .int 0]),
  .inl (1, 40, .inl (fun _ => 0)),
  .inl (1, 40, .inl (fun _ => 0)),
  .inl (1, 40, .inl (fun _ => 0)),
  .inr (5, [.ref 66, .ref 67, .ref 68, .int 0, .int 0, .int 0]),
  .inl (1, 40, .inl (fun _ => 0)),
  .inl (1, 40, .inl (fun _ => 0)),
  .inl (1, 40, .inl (fun _ => 0)),
  .inr (11, [.int 0, .ref 70, .int 0, .int 0, .int 0, .int 0, .ref 71, .ref 72, .ref 73, .ref 74, .ref 75, .int 0, .int 0, .int 0, .int 0, .int 0, .int 0, .long 0, .int 0, .int 0, .int 0, .ref 76, .int 0, .ref 77, .ref 78, .int 0, .ref 79, .ref 80, .int (-1), .int 0, .int 0, .ref 81, .int 0, .ref 82, .int 0, .int 0, .int 0, .int 0, .int 0, .ref 83, .ref 84, .ref 85, .ref 86]),
  .inl (0, 940, .inl (fun _ => 0)),
  .inl (1, 434, .inl (upd (fun _ => 0) 2 10)),
  .inl (1, 120, .inl (fun _ => 0)),
  .inl (1, 160, .inl (fun _ => 0)),
  .inl (2, 28, .inr (.inl (fun _ => 0))),
  .inl (2, 25, .inr (.inl (vp_updL (vp_updL (vp_updL (vp_updL (vp_updL (vp_updL (vp_updL (vp_updL (vp_updL (vp_updL (vp_updL (vp_updL (vp_updL (vp_updL (vp_updL (vp_updL (vp_updL (vp_updL (vp_updL (vp_updL (vp_updL (vp_updL (vp_updL (vp_updL (vp_updL (fun _ => 0) 0 1819238756) 1 1735356260) 2 495874696043) 3 512735736947) 4 1700885619) 5 469785863539) 6 7168366) 7 120299675936115) 8 114827585545331) 9 422541682035) 10 131260432541043) 11 1684628851) 12 6578553) 13 28530) 14 6385252) 15 7237492) 16 119165535610212) 17 29395861899601252) 18 1835099237) 19 435426714990) 20 439721161573) 21 1852137842) 22 6709618) 23 27991845698233700) 24 121450625394034))),
  .inl (1, 4, .inl (fun _ => 0)),
  .inl (1, 1064, .inl (fun _ => 0)),
  .inl (1, 133, .inl (fun _ => 0)),
  .inl (1, 60, .inl (fun _ => 0)),
  .inl (1, 12, .inl (fun _ => 0)),
  .inl (1, 4, .inl (fun _ => 0)),
  .inl (1, 45, .inl (fun _ => 0)),
  .inl (3, 45, .inl (fun _ => 0)),
  .inl (1, 868, .inl (fun _ => 0)),
  .inl (2, 28, .inr (.inl (fun _ => 0))),
  .inl (3, 2, .inl (fun _ => 0)),
  .inl (2, 1, .inr (.inl (fun _ => 0)))]
def FL (n k : Nat) : ab_E := cond (decide (k < n)) ((FLl[k]?).getD (ab_h0 k)) (ab_h0 k)
set_option maxRecDepth 100000 in
set_option maxHeartbeats 4000000 in
theorem fr_X10 : Z_X10_init [.ref 0] (ab_push (0, ab_h0) (.inr (10, [.null, .null, .null, .null, .null, .null, .null, .null, .null, .null, .null, .null, .null, .null, .null, .null, .null, .int 0, .int 0]))) = some (none, (69, FL 69)) := by
  refine ab_X_eq (Nat.le_of_ble_eq_true rfl) ?_
  refine Ev.step rfl rfl ?_
  refine Ev.step rfl rfl ?_
  refine Ev.step rfl rfl ?_
  refine Ev.step rfl rfl ?_
  refine Ev.step rfl rfl ?_
  refine Ev.inlS (L := L_X8_init) (nL := 1) rfl rfl (Nat.le_of_ble_eq_true rfl) ?_
  refine Ev.step rfl rfl ?_
  refine Ev.step rfl rfl ?_
  refine Ev.step rfl rfl ?_
  refine Ev.step rfl rfl ?_
  refine Ev.step rfl rfl ?_
  refine Ev.step rfl rfl ?_
  refine Ev.ret rfl rfl ?_
  refine (show Ev _ 12 _ _ from ?_)
  refine Ev.step rfl rfl ?_
  refine Ev.step rfl rfl ?_
  refine Ev.step rfl rfl ?_
  refine Ev.step rfl rfl ?_
  refine Ev.inlS (L := L_X9_init) (nL := 1) rfl rfl (Nat.le_of_ble_eq_true rfl) ?_
  refine Ev.step rfl rfl ?_
  refine Ev.step rfl rfl ?_
  refine Ev.step rfl rfl ?_
  refine Ev.step rfl rfl ?_
  refine Ev.step rfl rfl ?_
  refine Ev.step rfl rfl ?_
  refine Ev.step rfl rfl ?_
  refine Ev.step rfl rfl ?_
  refine Ev.step rfl rfl ?_
  refine Ev.step rfl rfl ?_
  refine Ev.step rfl rfl ?_
  refine Ev.step rfl rfl ?_
  refine Ev.step rfl rfl ?_
  refine Ev.step rfl rfl ?_
  refine Ev.ret rfl rfl ?_
  refine (show Ev _ 23 _ _ from ?_)
  refine Ev.step rfl rfl ?_
  refine Ev.step rfl rfl ?_
  refine Ev.step rfl rfl ?_
  refine Ev.step rfl rfl ?_
  refine Ev.inlS (L := L_X1_init) (nL := 1) rfl rfl (Nat.le_of_ble_eq_true rfl) ?_
  refine Ev.step rfl rfl ?_
  refine Ev.step rfl rfl ?_
  refine Ev.step rfl rfl ?_
  refine Ev.step rfl rfl ?_
  refine Ev.step rfl rfl ?_
  refine Ev.step rfl rfl ?_
  refine Ev.step rfl rfl ?_
  refine Ev.step rfl rfl ?_
  refine Ev.step rfl rfl ?_
  refine Ev.step rfl rfl ?_
  refine Ev.ret rfl rfl ?_
  refine (show Ev _ 34 _ _ from ?_)
  refine Ev.step rfl rfl ?_
  refine Ev.step rfl rfl ?_
  refine Ev.step rfl rfl ?_
  refine Ev.step rfl rfl ?_
  refine Ev.inlS (L := L_X2_init) (nL := 1) rfl rfl (Nat.le_of_ble_eq_true rfl) ?_
  refine Ev.step rfl rfl ?_
  refine Ev.step rfl rfl ?_
  refine Ev.step rfl rfl ?_
  refine Ev.step rfl rfl ?_
  refine Ev.step rfl rfl ?_
  refine Ev.step rfl rfl ?_
  refine Ev.ret rfl rfl ?_
  refine (show Ev _ 45 _ _ from ?_)
  refine Ev.step rfl rfl ?_
  refine Ev.step rfl rfl ?_
  refine Ev.step rfl rfl ?_
  refine Ev.step rfl rfl ?_
  refine Ev.inlS (L := L_X6_init) (nL := 1) rfl rfl (Nat.le_of_ble_eq_true rfl) ?_
  refine Ev.step rfl rfl ?_
  refine Ev.step rfl rfl ?_
  refine Ev.step rfl rfl ?_
  refine Ev.step rfl rfl ?_
  refine Ev.step rfl rfl ?_
  refine Ev.step rfl rfl ?_
  refine Ev.step rfl rfl ?_
  refine Ev.step rfl rfl ?_
  refine Ev.step rfl rfl ?_
  refine Ev.step rfl rfl ?_
  refine Ev.step rfl rfl ?_
  refine Ev.step rfl rfl ?_
  refine Ev.step rfl rfl ?_
  refine Ev.step rfl rfl ?_
  refine Ev.step rfl rfl ?_
  refine Ev.step rfl rfl ?_
  refine Ev.step rfl rfl ?_
  refine Ev.step rfl rfl ?_
  refine Ev.step rfl rfl ?_
  refine Ev.step rfl rfl ?_
  refine Ev.step rfl rfl ?_
  refine Ev.step rfl rfl ?_
  refine Ev.step rfl rfl ?_
  refine Ev.step rfl rfl ?_
  refine Ev.step rfl rfl ?_
  refine Ev.step rfl rfl ?_
  refine Ev.step rfl rfl ?_
  refine Ev.step rfl rfl ?_
  refine Ev.step rfl rfl ?_
  refine Ev.step rfl rfl ?_
  refine Ev.ret rfl rfl ?_
  refine (show Ev _ 56 _ _ from ?_)
  refine Ev.step rfl rfl ?_
  refine Ev.step rfl rfl ?_
  refine Ev.step rfl rfl ?_
  refine Ev.step rfl rfl ?_
  refine Ev.inlS (L := L_X6_init) (nL := 1) rfl rfl (Nat.le_of_ble_eq_true rfl) ?_
  refine Ev.step rfl rfl ?_
  refine Ev.step rfl rfl ?_
  refine Ev.step rfl rfl ?_
  refine Ev.step rfl rfl ?_
  refine Ev.step rfl rfl ?_
  refine Ev.step rfl rfl ?_
  refine Ev.step rfl rfl ?_
  refine Ev.step rfl rfl ?_
  refine Ev.step rfl rfl ?_
  refine Ev.step rfl rfl ?_
  refine Ev.step rfl rfl ?_
  refine Ev.step rfl rfl ?_
  refine Ev.step rfl rfl ?_
  refine Ev.step rfl rfl ?_
  refine Ev.step rfl rfl ?_
  refine Ev.step rfl rfl ?_
  refine Ev.step rfl rfl ?_
  refine Ev.step rfl rfl ?_
  refine Ev.step rfl rfl ?_
  refine Ev.step rfl rfl ?_
  refine Ev.step rfl rfl ?_
  refine Ev.step rfl rfl ?_
  refine Ev.step rfl rfl ?_
  refine Ev.step rfl rfl ?_
  refine Ev.step rfl rfl ?_
  refine Ev.step rfl rfl ?_
  refine Ev.step rfl rfl ?_
  refine Ev.step rfl rfl ?_
  refine Ev.step rfl rfl ?_
  refine Ev.step rfl rfl ?_
  refine Ev.ret rfl rfl ?_
  refine (show Ev _ 67 _ _ from ?_)
  refine Ev.step rfl rfl ?_
  refine Ev.step rfl rfl ?_
  refine Ev.step rfl rfl ?_
  refine Ev.step rfl rfl ?_
  refine Ev.inlS (L := L_X6_init) (nL := 1) rfl rfl (Nat.le_of_ble_eq_true rfl) ?_
  refine Ev.step rfl rfl ?_
  refine Ev.step rfl rfl ?_
  refine Ev.step rfl rfl ?_
  refine Ev.step rfl rfl ?_
  refine Ev.step rfl rfl ?_
  refine Ev.step rfl rfl ?_
  refine Ev.step rfl rfl ?_
  refine Ev.step rfl rfl ?_
  refine Ev.step rfl rfl ?_
  refine Ev.step rfl rfl ?_
  refine Ev.step rfl rfl ?_
  refine Ev.step rfl rfl ?_
  refine Ev.step rfl rfl ?_
  refine Ev.step rfl rfl ?_
  refine Ev.step rfl rfl ?_
  refine Ev.step rfl rfl ?_
  refine Ev.step rfl rfl ?_
  refine Ev.step rfl rfl ?_
  refine Ev.step rfl rfl ?_
  refine Ev.step rfl rfl ?_
  refine Ev.step rfl rfl ?_
  refine Ev.step rfl rfl ?_
  refine Ev.step rfl rfl ?_
  refine Ev.step rfl rfl ?_
  refine Ev.step rfl rfl ?_
  refine Ev.step rfl rfl ?_
  refine Ev.step rfl rfl ?_
  refine Ev.step rfl rfl ?_
  refine Ev.step rfl rfl ?_
  refine Ev.step rfl rfl ?_
  refine Ev.ret rfl rfl ?_
  refine (show Ev _ 78 _ _ from ?_)
  refine Ev.step rfl rfl ?_
  refine Ev.step rfl rfl ?_
  refine Ev.step rfl rfl ?_
  refine Ev.step rfl rfl ?_
  refine Ev.inlS (L := L_X4_init) (nL := 1) rfl rfl (Nat.le_of_ble_eq_true rfl) ?_
  refine Ev.step rfl rfl ?_
  refine Ev.step rfl rfl ?_
  refine Ev.step rfl rfl ?_
  refine Ev.step rfl rfl ?_
  refine Ev.step rfl rfl ?_
  refine Ev.step rfl rfl ?_
  refine Ev.step rfl rfl ?_
  refine Ev.step rfl rfl ?_
  refine Ev.step rfl rfl ?_
  refine Ev.step rfl rfl ?_
  refine Ev.step rfl rfl ?_
  refine Ev.step rfl rfl ?_
  refine Ev.step rfl rfl ?_
  refine Ev.step rfl rfl ?_
  refine Ev.ret rfl rfl ?_
  refine (show Ev _ 89 _ _ from ?_)
  refine Ev.step rfl rfl ?_
  refine Ev.step rfl rfl ?_
  refine Ev.step rfl rfl ?_
  refine Ev.step rfl rfl ?_
  refine Ev.inlS (L := L_X0_init) (nL := 1) rfl rfl (Nat.le_of_ble_eq_true rfl) ?_
  refine Ev.step rfl rfl ?_
  refine Ev.step rfl rfl ?_
  refine Ev.ret rfl rfl ?_
  refine (show Ev _ 100 _ _ from ?_)
  refine Ev.step rfl rfl ?_
  refine Ev.step rfl rfl ?_
  refine Ev.step rfl rfl ?_
  refine Ev.step rfl rfl ?_
  refine Ev.step rfl rfl ?_
  refine Ev.step rfl rfl ?_
  refine Ev.step rfl rfl ?_
  refine Ev.step rfl rfl ?_
  refine Ev.step rfl rfl ?_
  refine Ev.step rfl rfl ?_
  refine Ev.step rfl rfl ?_
  refine Ev.step rfl rfl ?_
  refine Ev.step rfl rfl ?_
  refine Ev.step rfl rfl ?_
  refine Ev.step rfl rfl ?_
  refine Ev.step rfl rfl ?_
  refine Ev.step rfl rfl ?_
  refine Ev.step rfl rfl ?_
  refine Ev.step rfl rfl ?_
  refine Ev.step rfl rfl ?_
  refine Ev.step rfl rfl ?_
  refine Ev.step rfl rfl ?_
  refine Ev.step rfl rfl ?_
  refine Ev.step rfl rfl ?_
  refine Ev.step rfl rfl ?_
  refine Ev.step rfl rfl ?_
  refine Ev.step rfl rfl ?_
  refine Ev.step rfl rfl ?_
  refine Ev.step rfl rfl ?_
  refine Ev.step rfl rfl ?_
  refine Ev.step rfl rfl ?_
  refine Ev.step rfl rfl ?_
  refine Ev.step rfl rfl ?_
  refine Ev.step rfl rfl ?_
  refine Ev.step rfl rfl ?_
  refine Ev.step rfl rfl ?_
  refine Ev.inlS (L := L_X7_init) (nL := 1) rfl rfl (Nat.le_of_ble_eq_true rfl) ?_
  refine Ev.step rfl rfl ?_
  refine Ev.step rfl rfl ?_
  refine Ev.step rfl rfl ?_
  refine Ev.step rfl rfl ?_
  refine Ev.step rfl rfl ?_
  refine Ev.step rfl rfl ?_
  refine Ev.step rfl rfl ?_
  refine Ev.step rfl rfl ?_
  refine Ev.step rfl rfl ?_
  refine Ev.step rfl rfl ?_
  refine Ev.step rfl rfl ?_
  refine Ev.step rfl rfl ?_
  refine Ev.step rfl rfl ?_
  refine Ev.step rfl rfl ?_
  refine Ev.step rfl rfl ?_
  refine Ev.step rfl rfl ?_
  refine Ev.step rfl rfl ?_
  refine Ev.step rfl rfl ?_
  refine Ev.step rfl rfl ?_
  refine Ev.step rfl rfl ?_
  refine Ev.step rfl rfl ?_
  refine Ev.step rfl rfl ?_
  refine Ev.step rfl rfl ?_
  refine Ev.step rfl rfl ?_
  refine Ev.step rfl rfl ?_
  refine Ev.step rfl rfl ?_
  refine Ev.step rfl rfl ?_
  refine Ev.step rfl rfl ?_
  refine Ev.step rfl rfl ?_
  refine Ev.step rfl rfl ?_
  refine Ev.step rfl rfl ?_
  refine Ev.step rfl rfl ?_
  refine Ev.step rfl rfl ?_
  refine Ev.ret rfl rfl ?_
  refine (show Ev _ 158 _ _ from ?_)
  refine Ev.step rfl rfl ?_
  refine Ev.step rfl rfl ?_
  refine Ev.step rfl rfl ?_
  refine Ev.step rfl rfl ?_
  refine Ev.inlS (L := L_X7_init) (nL := 1) rfl rfl (Nat.le_of_ble_eq_true rfl) ?_
  refine Ev.step rfl rfl ?_
  refine Ev.step rfl rfl ?_
  refine Ev.step rfl rfl ?_
  refine Ev.step rfl rfl ?_
  refine Ev.step rfl rfl ?_
  refine Ev.step rfl rfl ?_
  refine Ev.step rfl rfl ?_
  refine Ev.step rfl rfl ?_
  refine Ev.step rfl rfl ?_
  refine Ev.step rfl rfl ?_
  refine Ev.step rfl rfl ?_
  refine Ev.step rfl rfl ?_
  refine Ev.step rfl rfl ?_
  refine Ev.step rfl rfl ?_
  refine Ev.step rfl rfl ?_
  refine Ev.step rfl rfl ?_
  refine Ev.step rfl rfl ?_
  refine Ev.step rfl rfl ?_
  refine Ev.step rfl rfl ?_
  refine Ev.step rfl rfl ?_
  refine Ev.step rfl rfl ?_
  refine Ev.step rfl rfl ?_
  refine Ev.step rfl rfl ?_
  refine Ev.step rfl rfl ?_
  refine Ev.step rfl rfl ?_
  refine Ev.step rfl rfl ?_
  refine Ev.step rfl rfl ?_
  refine Ev.step rfl rfl ?_
  refine Ev.step rfl rfl ?_
  refine Ev.step rfl rfl ?_
  refine Ev.step rfl rfl ?_
  refine Ev.step rfl rfl ?_
  refine Ev.step rfl rfl ?_
  refine Ev.ret rfl rfl ?_
  refine (show Ev _ 169 _ _ from ?_)
  refine Ev.step rfl rfl ?_
  refine Ev.step rfl rfl ?_
  refine Ev.step rfl rfl ?_
  refine Ev.step rfl rfl ?_
  refine Ev.inlS (L := L_X5_init) (nL := 1) rfl rfl (Nat.le_of_ble_eq_true rfl) ?_
  refine Ev.step rfl rfl ?_
  refine Ev.step rfl rfl ?_
  refine Ev.step rfl rfl ?_
  refine Ev.step rfl rfl ?_
  refine Ev.step rfl rfl ?_
  refine Ev.step rfl rfl ?_
  refine Ev.step rfl rfl ?_
  refine Ev.step rfl rfl ?_
  refine Ev.step rfl rfl ?_
  refine Ev.step rfl rfl ?_
  refine Ev.step rfl rfl ?_
  refine Ev.step rfl rfl ?_
  refine Ev.step rfl rfl ?_
  refine Ev.step rfl rfl ?_
  refine Ev.ret rfl rfl ?_
  refine (show Ev _ 180 _ _ from ?_)
  refine Ev.step rfl rfl ?_
  refine Ev.step rfl rfl ?_
  refine Ev.step rfl rfl ?_
  refine Ev.step rfl rfl ?_
  refine Ev.inlS (L := L_X5_init) (nL := 1) rfl rfl (Nat.le_of_ble_eq_true rfl) ?_
  refine Ev.step rfl rfl ?_
  refine Ev.step rfl rfl ?_
  refine Ev.step rfl rfl ?_
  refine Ev.step rfl rfl ?_
  refine Ev.step rfl rfl ?_
  refine Ev.step rfl rfl ?_
  refine Ev.step rfl rfl ?_
  refine Ev.step rfl rfl ?_
  refine Ev.step rfl rfl ?_
  refine Ev.step rfl rfl ?_
  refine Ev.step rfl rfl ?_
  refine Ev.step rfl rfl ?_
  refine Ev.step rfl rfl ?_
  refine Ev.step rfl rfl ?_
  refine Ev.ret rfl rfl ?_
  refine (show Ev _ 191 _ _ from ?_)
  refine Ev.step rfl rfl ?_
  refine Ev.ret rfl rfl ?_
  refine Prod.ext rfl (Prod.ext rfl (funext fun k => ?_))
  match k with
  | 0 => rfl
  | 1 => rfl
  | 2 => rfl
  | 3 => rfl
  | 4 => rfl
  | 5 => rfl
  | 6 => rfl
  | 7 => rfl
  | 8 => rfl
  | 9 => rfl
  | 10 => rfl
  | 11 => rfl
  | 12 => rfl
  | 13 => rfl
  | 14 => rfl
  | 15 => rfl
  | 16 => rfl
  | 17 => rfl
  | 18 => rfl
  | 19 => rfl
  | 20 => rfl
  | 21 => rfl
  | 22 => rfl
  | 23 => rfl
  | 24 => rfl
  | 25 => rfl
  | 26 => rfl
  | 27 => rfl
  | 28 => rfl
  | 29 => rfl
  | 30 => rfl
  | 31 => rfl
  | 32 => rfl
  | 33 => rfl
  | 34 => rfl
  | 35 => rfl
  | 36 => rfl
  | 37 => rfl
  | 38 => rfl
  | 39 => rfl
  | 40 => rfl
  | 41 => rfl
  | 42 => rfl
  | 43 => rfl
  | 44 => rfl
  | 45 => rfl
  | 46 => rfl
  | 47 => rfl
  | 48 => rfl
  | 49 => rfl
  | 50 => rfl
  | 51 => rfl
  | 52 => rfl
  | 53 => rfl
  | 54 => rfl
  | 55 => rfl
  | 56 => rfl
  | 57 => rfl
  | 58 => rfl
  | 59 => rfl
  | 60 => rfl
  | 61 => rfl
  | 62 => rfl
  | 63 => rfl
  | 64 => rfl
  | 65 => rfl
  | 66 => rfl
  | 67 => rfl
  | 68 => rfl
  | k + 69 => rfl
set_option maxRecDepth 100000 in
set_option maxHeartbeats 4000000 in
theorem fr_X11 : Z_X11_init [.ref 69] (ab_push (69, FL 69) (.inr (11, [.int 0, .null, .int 0, .int 0, .int 0, .int 0, .null, .null, .null, .null, .null, .int 0, .int 0, .int 0, .int 0, .int 0, .int 0, .long 0, .int 0, .int 0, .int 0, .null, .int 0, .null, .null, .int 0, .null, .null, .int 0, .int 0, .int 0, .null, .int 0, .null, .int 0, .int 0, .int 0, .int 0, .int 0, .null, .null, .null, .null]))) = some (none, (87, FL 87)) := by
  refine ab_X_eq (Nat.le_of_ble_eq_true rfl) ?_
  refine Ev.step rfl rfl ?_
  refine Ev.step rfl rfl ?_
  refine Ev.step rfl rfl ?_
  refine Ev.step rfl rfl ?_
  refine Ev.step rfl rfl ?_
  refine Ev.step rfl rfl ?_
  refine Ev.step rfl rfl ?_
  refine Ev.step rfl rfl ?_
  refine Ev.step rfl rfl ?_
  refine Ev.step rfl rfl ?_
  refine Ev.step rfl rfl ?_
  refine Ev.step rfl rfl ?_
  refine Ev.step rfl rfl ?_
  refine Ev.step rfl rfl ?_
  refine Ev.step rfl rfl ?_
  refine Ev.step rfl rfl ?_
  refine Ev.step rfl rfl ?_
  refine Ev.step rfl rfl ?_
  refine Ev.step rfl rfl ?_
  refine Ev.step rfl rfl ?_
  refine Ev.step rfl rfl ?_
  refine Ev.step rfl rfl ?_
  refine Ev.step rfl rfl ?_
  refine Ev.step rfl rfl ?_
  refine Ev.step rfl rfl ?_
  refine Ev.step rfl rfl ?_
  refine Ev.step rfl rfl ?_
  refine Ev.step rfl rfl ?_
  refine Ev.step rfl rfl ?_
  refine Ev.step rfl rfl ?_
  refine Ev.step rfl rfl ?_
  refine Ev.step rfl rfl ?_
  refine Ev.step rfl rfl ?_
  refine Ev.step rfl rfl ?_
  refine Ev.step rfl rfl ?_
  refine Ev.step rfl rfl ?_
  refine Ev.step rfl rfl ?_
  refine Ev.step rfl rfl ?_
  refine Ev.step rfl rfl ?_
  refine Ev.step rfl rfl ?_
  refine Ev.step rfl rfl ?_
  refine Ev.step rfl rfl ?_
  refine Ev.step rfl rfl ?_
  refine Ev.step rfl rfl ?_
  refine Ev.step rfl rfl ?_
  refine Ev.step rfl rfl ?_
  refine Ev.step rfl rfl ?_
  refine Ev.step rfl rfl ?_
  refine Ev.step rfl rfl ?_
  refine Ev.step rfl rfl ?_
  refine Ev.step rfl rfl ?_
  refine Ev.step rfl rfl ?_
  refine Ev.step rfl rfl ?_
  refine Ev.step rfl rfl ?_
  refine Ev.step rfl rfl ?_
  refine Ev.step rfl rfl ?_
  refine Ev.step rfl rfl ?_
  refine Ev.step rfl rfl ?_
  refine Ev.step rfl rfl ?_
  refine Ev.step rfl rfl ?_
  refine Ev.step rfl rfl ?_
  refine Ev.step rfl rfl ?_
  refine Ev.step rfl rfl ?_
  refine Ev.step rfl rfl ?_
  refine Ev.step rfl rfl ?_
  refine Ev.step rfl rfl ?_
  refine Ev.step rfl rfl ?_
  refine Ev.step rfl rfl ?_
  refine Ev.step rfl rfl ?_
  refine Ev.step rfl rfl ?_
  refine Ev.step rfl rfl ?_
  refine Ev.step rfl rfl ?_
  refine Ev.step rfl rfl ?_
  refine Ev.step rfl rfl ?_
  refine Ev.step rfl rfl ?_
  refine Ev.step rfl rfl ?_
  refine Ev.step rfl rfl ?_
  refine Ev.step rfl rfl ?_
  refine Ev.step rfl rfl ?_
  refine Ev.step rfl rfl ?_
  refine Ev.step rfl rfl ?_
  refine Ev.step rfl rfl ?_
  refine Ev.step rfl rfl ?_
  refine Ev.step rfl rfl ?_
  refine Ev.step rfl rfl ?_
  refine Ev.step rfl rfl ?_
  refine Ev.step rfl rfl ?_
  refine Ev.step rfl rfl ?_
  refine Ev.step rfl rfl ?_
  refine Ev.step rfl rfl ?_
  refine Ev.step rfl rfl ?_
  refine Ev.step rfl rfl ?_
  refine Ev.step rfl rfl ?_
  refine Ev.step rfl rfl ?_
  refine Ev.step rfl rfl ?_
  refine Ev.step rfl rfl ?_
  refine Ev.step rfl rfl ?_
  refine Ev.step rfl rfl ?_
  refine Ev.step rfl rfl ?_
  refine Ev.step rfl rfl ?_
  refine Ev.step rfl rfl ?_
  refine Ev.step rfl rfl ?_
  refine Ev.step rfl rfl ?_
  refine Ev.step rfl rfl ?_
  refine Ev.step rfl rfl ?_
  refine Ev.step rfl rfl ?_
  refine Ev.step rfl rfl ?_
  refine Ev.step rfl rfl ?_
  refine Ev.step rfl rfl ?_
  refine Ev.step rfl rfl ?_
  refine Ev.step rfl rfl ?_
  refine Ev.step rfl rfl ?_
  refine Ev.step rfl rfl ?_
  refine Ev.step rfl rfl ?_
  refine Ev.step rfl rfl ?_
  refine Ev.step rfl rfl ?_
  refine Ev.step rfl rfl ?_
  refine Ev.step rfl rfl ?_
  refine Ev.step rfl rfl ?_
  refine Ev.step rfl rfl ?_
  refine Ev.step rfl rfl ?_
  refine Ev.step rfl rfl ?_
  refine Ev.step rfl rfl ?_
  refine Ev.step rfl rfl ?_
  refine Ev.step rfl rfl ?_
  refine Ev.step rfl rfl ?_
  refine Ev.step rfl rfl ?_
  refine Ev.step rfl rfl ?_
  refine Ev.step rfl rfl ?_
  refine Ev.step rfl rfl ?_
  refine Ev.step rfl rfl ?_
  refine Ev.step rfl rfl ?_
  refine Ev.step rfl rfl ?_
  refine Ev.step rfl rfl ?_
  refine Ev.step rfl rfl ?_
  refine Ev.step rfl rfl ?_
  refine Ev.step rfl rfl ?_
  refine Ev.step rfl rfl ?_
  refine Ev.step rfl rfl ?_
  refine Ev.step rfl rfl ?_
  refine Ev.step rfl rfl ?_
  refine Ev.step rfl rfl ?_
  refine Ev.step rfl rfl ?_
  refine Ev.step rfl rfl ?_
  refine Ev.step rfl rfl ?_
  refine Ev.step rfl rfl ?_
  refine Ev.step rfl rfl ?_
  refine Ev.step rfl rfl ?_
  refine Ev.step rfl rfl ?_
  refine Ev.step rfl rfl ?_
  refine Ev.step rfl rfl ?_
  refine Ev.step rfl rfl ?_
  refine Ev.step rfl rfl ?_
  refine Ev.step rfl rfl ?_
  refine Ev.step rfl rfl ?_
  refine Ev.step rfl rfl ?_
  refine Ev.step rfl rfl ?_
  refine Ev.step rfl rfl ?_
  refine Ev.step rfl rfl ?_
  refine Ev.step rfl rfl ?_
  refine Ev.step rfl rfl ?_
  refine Ev.step rfl rfl ?_
  refine Ev.step rfl rfl ?_
  refine Ev.step rfl rfl ?_
  refine Ev.step rfl rfl ?_
  refine Ev.step rfl rfl ?_
  refine Ev.step rfl rfl ?_
  refine Ev.step rfl rfl ?_
  refine Ev.step rfl rfl ?_
  refine Ev.step rfl rfl ?_
  refine Ev.step rfl rfl ?_
  refine Ev.step rfl rfl ?_
  refine Ev.step rfl rfl ?_
  refine Ev.step rfl rfl ?_
  refine Ev.step rfl rfl ?_
  refine Ev.step rfl rfl ?_
  refine Ev.step rfl rfl ?_
  refine Ev.step rfl rfl ?_
  refine Ev.step rfl rfl ?_
  refine Ev.step rfl rfl ?_
  refine Ev.step rfl rfl ?_
  refine Ev.step rfl rfl ?_
  refine Ev.step rfl rfl ?_
  refine Ev.step rfl rfl ?_
  refine Ev.step rfl rfl ?_
  refine Ev.step rfl rfl ?_
  refine Ev.step rfl rfl ?_
  refine Ev.step rfl rfl ?_
  refine Ev.step rfl rfl ?_
  refine Ev.step rfl rfl ?_
  refine Ev.step rfl rfl ?_
  refine Ev.step rfl rfl ?_
  refine Ev.step rfl rfl ?_
  refine Ev.step rfl rfl ?_
  refine Ev.step rfl rfl ?_
  refine Ev.step rfl rfl ?_
  refine Ev.step rfl rfl ?_
  refine Ev.step rfl rfl ?_
  refine Ev.step rfl rfl ?_
  refine Ev.step rfl rfl ?_
  refine Ev.step rfl rfl ?_
  refine Ev.step rfl rfl ?_
  refine Ev.step rfl rfl ?_
  refine Ev.ret rfl rfl ?_
  refine Prod.ext rfl (Prod.ext rfl (funext fun k => ?_))
  match k with
  | 0 => rfl
  | 1 => rfl
  | 2 => rfl
  | 3 => rfl
  | 4 => rfl
  | 5 => rfl
  | 6 => rfl
  | 7 => rfl
  | 8 => rfl
  | 9 => rfl
  | 10 => rfl
  | 11 => rfl
  | 12 => rfl
  | 13 => rfl
  | 14 => rfl
  | 15 => rfl
  | 16 => rfl
  | 17 => rfl
  | 18 => rfl
  | 19 => rfl
  | 20 => rfl
  | 21 => rfl
  | 22 => rfl
  | 23 => rfl
  | 24 => rfl
  | 25 => rfl
  | 26 => rfl
  | 27 => rfl
  | 28 => rfl
  | 29 => rfl
  | 30 => rfl
  | 31 => rfl
  | 32 => rfl
  | 33 => rfl
  | 34 => rfl
  | 35 => rfl
  | 36 => rfl
  | 37 => rfl
  | 38 => rfl
  | 39 => rfl
  | 40 => rfl
  | 41 => rfl
  | 42 => rfl
  | 43 => rfl
  | 44 => rfl
  | 45 => rfl
  | 46 => rfl
  | 47 => rfl
  | 48 => rfl
  | 49 => rfl
  | 50 => rfl
  | 51 => rfl
  | 52 => rfl
  | 53 => rfl
  | 54 => rfl
  | 55 => rfl
  | 56 => rfl
  | 57 => rfl
  | 58 => rfl
  | 59 => rfl
  | 60 => rfl
  | 61 => rfl
  | 62 => rfl
  | 63 => rfl
  | 64 => rfl
  | 65 => rfl
  | 66 => rfl
  | 67 => rfl
  | 68 => rfl
  | 69 => rfl
  | 70 => rfl
  | 71 => rfl
  | 72 => rfl
  | 73 => rfl
  | 74 => rfl
  | 75 => rfl
  | 76 => rfl
  | 77 => rfl
  | 78 => rfl
  | 79 => rfl
  | 80 => rfl
  | 81 => rfl
  | 82 => rfl
  | 83 => rfl
  | 84 => rfl
  | 85 => rfl
  | 86 => rfl
  | k + 87 => rfl
def H0 : ab_H := (88, FL 88)
set_option maxRecDepth 100000 in
theorem fr_out : ab_push (87, FL 87) (.inl (2, 1, .inr (.inl (fun _ => 0)))) = H0 := by
  refine Prod.ext rfl (funext fun k => ?_)
  match k with
  | 0 => rfl
  | 1 => rfl
  | 2 => rfl
  | 3 => rfl
  | 4 => rfl
  | 5 => rfl
  | 6 => rfl
  | 7 => rfl
  | 8 => rfl
  | 9 => rfl
  | 10 => rfl
  | 11 => rfl
  | 12 => rfl
  | 13 => rfl
  | 14 => rfl
  | 15 => rfl
  | 16 => rfl
  | 17 => rfl
  | 18 => rfl
  | 19 => rfl
  | 20 => rfl
  | 21 => rfl
  | 22 => rfl
  | 23 => rfl
  | 24 => rfl
  | 25 => rfl
  | 26 => rfl
  | 27 => rfl
  | 28 => rfl
  | 29 => rfl
  | 30 => rfl
  | 31 => rfl
  | 32 => rfl
  | 33 => rfl
  | 34 => rfl
  | 35 => rfl
  | 36 => rfl
  | 37 => rfl
  | 38 => rfl
  | 39 => rfl
  | 40 => rfl
  | 41 => rfl
  | 42 => rfl
  | 43 => rfl
  | 44 => rfl
  | 45 => rfl
  | 46 => rfl
  | 47 => rfl
  | 48 => rfl
  | 49 => rfl
  | 50 => rfl
  | 51 => rfl
  | 52 => rfl
  | 53 => rfl
  | 54 => rfl
  | 55 => rfl
  | 56 => rfl
  | 57 => rfl
  | 58 => rfl
  | 59 => rfl
  | 60 => rfl
  | 61 => rfl
  | 62 => rfl
  | 63 => rfl
  | 64 => rfl
  | 65 => rfl
  | 66 => rfl
  | 67 => rfl
  | 68 => rfl
  | 69 => rfl
  | 70 => rfl
  | 71 => rfl
  | 72 => rfl
  | 73 => rfl
  | 74 => rfl
  | 75 => rfl
  | 76 => rfl
  | 77 => rfl
  | 78 => rfl
  | 79 => rfl
  | 80 => rfl
  | 81 => rfl
  | 82 => rfl
  | 83 => rfl
  | 84 => rfl
  | 85 => rfl
  | 86 => rfl
  | 87 => rfl
  | k + 88 => rfl
end
-- 64a.kinds.lean.txt
section
/-! ===== the fresh heap keeps its kinds ===== -/
def T0 (k : Nat) : Nat := sf_Tl.getD k 0
def v0b (k : sf_K) (v : Value) : Bool := match v with
  | .int x => decide (k.1 = 0) && decide (k.2.1 ≤ x.toInt) && decide (x.toInt ≤ k.2.2)
  | .ref a => decide (k.1 = 1) && decide (a < 88) && decide ((T0 a : Int) = k.2.1)
  | .null => decide (k.1 = 1) && decide (k.2.2 = 1)
  | .long _ => decide (k.1 = 2)
  | _ => false
theorem v0b_ok {k : sf_K} {v : Value} (h : v0b k v = true) : sf_v T0 88 k v := by
  cases v with
  | int x =>
    simp only [v0b, Bool.and_eq_true, decide_eq_true_eq] at h
    exact ⟨h.1.1, h.1.2, h.2⟩
  | ref a =>
    simp only [v0b, Bool.and_eq_true, decide_eq_true_eq] at h
    exact ⟨h.1.1, h.1.2, h.2⟩
  | null =>
    simp only [v0b, Bool.and_eq_true, decide_eq_true_eq] at h
    exact h
  | long x =>
    simp only [v0b, decide_eq_true_eq] at h
    exact h
  | _ => cases h
def f0b : List sf_K → List Value → Bool
  | [], _ => true
  | k :: ks, v :: vs => v0b k v && f0b ks vs
  | _ :: _, [] => false
theorem f0b_ok : ∀ (ks : List sf_K) (vs : List Value), f0b ks vs = true → ∀ (i : Nat) (k : sf_K), ks[i]? = some k → ∃ v, vs[i]? = some v ∧ sf_v T0 88 k v
  | [], _, _, i, k, hk => by simp at hk
  | k0 :: ks, [], h, _, _, _ => by cases h
  | k0 :: ks, v0 :: vs, h, 0, k, hk => by
    have hk' : k0 = k := Option.some.inj hk
    subst hk'
    have h' : (v0b k0 v0 && f0b ks vs) = true := h
    rw [Bool.and_eq_true] at h'
    exact ⟨v0, rfl, v0b_ok h'.1⟩
  | k0 :: ks, v0 :: vs, h, i + 1, k, hk => by
    have h' : (v0b k0 v0 && f0b ks vs) = true := h
    rw [Bool.and_eq_true] at h'
    exact f0b_ok ks vs h'.2 i k hk
theorem c0_o {g c : Nat} {fs : List Value} (h1 : c = sf_o g) (h2 : g < 100) (h3 : f0b (sf_C g) fs = true) : sf_c T0 88 g (.inr (c, fs)) := ⟨h1, h2, fun i k hk => f0b_ok _ _ h3 i k hk⟩
theorem c0_a {g kd len : Nat} (hg : 100 ≤ g) (h1 : kd = (sf_A g).1) (h2 : len = (sf_A g).2.1) (h3 : kd ≠ 2) (h4 : kd < 4) (h5 : sf_al (sf_A g).2.2 0 (len - 1) (0, 0) = true) : sf_c T0 88 g (.inl (kd, len, .inl (fun _ => 0))) :=
  ⟨hg, h1, h2, h3, h4, fun j hj => sf_al_ok (i := (0, 0)) (lo := 0) (hi := len - 1) ⟨by show (0 : Int) ≤ (0 : Int32).toInt; decide, by show (0 : Int32).toInt ≤ (0 : Int); decide⟩ (Nat.zero_le _) (by have : j < len := hj; omega) h5⟩
theorem c0_t {g kd len : Nat} {f : Nat → Int32} (hg : 100 ≤ g) (h1 : kd = (sf_A g).1) (h2 : len = (sf_A g).2.1) (h3 : kd ≠ 2) (h4 : kd < 4) (h5 : sf_al (sf_A g).2.2 0 (len - 1) (-2147483648, 2147483647) = true) : sf_c T0 88 g (.inl (kd, len, .inl f)) :=
  ⟨hg, h1, h2, h3, h4, fun j hj => sf_al_ok (i := (-2147483648, 2147483647)) (lo := 0) (hi := len - 1) ⟨(n_range (f j)).1, (n_range (f j)).2⟩ (Nat.zero_le _) (by have : j < len := hj; omega) h5⟩
theorem c0_l {g len : Nat} {f : Nat → Int64} (hg : 100 ≤ g) (h1 : 2 = (sf_A g).1) (h2 : len = (sf_A g).2.1) : sf_c T0 88 g (.inl (2, len, .inr (.inl f))) := ⟨hg, h1, h2, rfl⟩
theorem c0_r {g kd len g1 : Nat} (hg : 100 ≤ g) (h1 : kd = (sf_A g).1) (h2 : len = (sf_A g).2.1) (h3 : 4 ≤ kd) (h4 : kd < 6) (h5 : (sf_A g).2.2 = [(len, (1, (g1 : Int), 1))]) : sf_c T0 88 g (.inl (kd, len, .inr (.inr (.inr (.inr (fun _ => none)))))) := by
  refine ⟨hg, h1, h2, h3, h4, fun j hj => ?_⟩
  rw [h5]
  show sf_v T0 88 (cond (decide (j < len)) (1, (g1 : Int), 1) (9, 0, 0)) .null
  rw [decide_eq_true hj]
  exact ⟨rfl, rfl⟩
theorem c0_s : sf_c T0 88 132 (.inl (1, 434, .inl (upd (fun _ => 0) 2 10))) := by
  refine ⟨by decide, rfl, rfl, by decide, by decide, fun j hj => ?_⟩
  show sf_v T0 88 _ (.int (if j = 2 then 10 else 0))
  by_cases e : j = 2
  · rw [if_pos e, e]
    exact ⟨rfl, by decide, by decide⟩
  · rw [if_neg e]
    exact sf_al_ok (i := (0, 0)) (lo := 0) (hi := 433) ⟨by show (0 : Int) ≤ (0 : Int32).toInt; decide, by show (0 : Int32).toInt ≤ (0 : Int); decide⟩ (Nat.zero_le _) (by have : j < 434 := hj; omega) (by decide +kernel)
theorem P_mem {g q : Nat} (h : sf_P g = some q) : (g, q) ∈ sf_Pl := by
  unfold sf_P at h
  cases hx : sf_Pl.find? (fun q => q.1 == g) with
  | none =>
    rw [hx] at h
    cases h
  | some x =>
    rw [hx] at h
    have e2 : x.2 = q := Option.some.inj h
    have e1 : (x.1 == g) = true := List.find?_some (p := fun q : Nat × Nat => q.1 == g) hx
    have e1' : x.1 = g := by simpa using e1
    have hm := List.mem_of_find?_eq_some hx
    rw [← e1', ← e2]
    exact hm
set_option maxRecDepth 100000 in
theorem P_2 : ∀ k, k < 88 → ∀ x ∈ sf_Pl, x.1 = T0 k → k = x.2 := by decide +kernel
set_option maxRecDepth 100000 in
theorem P_3 : ∀ x ∈ sf_Pl, x.2 < 88 ∧ T0 x.2 = x.1 := by decide +kernel
set_option maxRecDepth 100000 in
theorem P_5 : ∀ a, a < 88 → T0 a = 5 → a = 61 ∨ a = 65 := by decide +kernel
theorem z_rd {a i : Nat} (h : H0.2 a = .inl (1, 40, .inl (fun _ => 0))) (hi : i < 40) : sf_rd H0 a i = some 0 := sf_rd_arr h hi
theorem IV_0 : sf_IV T0 H0 := by
  refine ⟨fun a ha h5 => ?_, fun i hi hx => ?_, cd_ok_0 rfl, cd_ok_0 rfl, cd_ok_0 rfl⟩
  · rcases P_5 a ha h5 with rfl | rfl
    · exact ⟨by decide, rfl, rfl, rfl, rfl, fun i hi x hx hx2 => ⟨0, z_rd (a := 63) rfl hi, by decide, by decide⟩⟩
    · exact ⟨by decide, rfl, rfl, rfl, rfl, fun i hi x hx hx2 => ⟨0, z_rd (a := 67) rfl hi, by decide, by decide⟩⟩
  · rw [z_rd (a := 37) rfl hi] at hx
    exact absurd (Option.some.inj hx) (by decide)
set_option maxRecDepth 100000 in
set_option maxHeartbeats 4000000 in
theorem sf_h0 : sf_h T0 H0 := by
  refine ⟨fun k hk => ?_, fun k q hk hP => P_2 k hk _ (P_mem hP) rfl, fun g q hP => P_3 _ (P_mem hP), IV_0⟩
  match k, hk with
  | 0, _ => exact (show sf_c T0 88 10 (.inr (10, [.ref 1, .ref 3, .ref 7, .ref 10, .ref 12, .ref 20, .ref 28, .ref 36, .ref 40, .ref 41, .ref 42, .ref 43, .ref 44, .ref 45, .ref 53, .ref 61, .ref 65, .int 0, .int 0])) from c0_o rfl (by decide) (by decide +kernel))
  | 1, _ => exact (show sf_c T0 88 8 (.inr (8, [.ref 2, .int 0, .int 0])) from c0_o rfl (by decide) (by decide +kernel))
  | 2, _ => exact (show sf_c T0 88 123 (.inl (0, 940, .inl (fun _ => 0))) from c0_a (by decide) rfl rfl (by decide) (by decide) (by decide +kernel))
  | 3, _ => exact (show sf_c T0 88 9 (.inr (9, [.ref 4, .ref 5, .ref 6, .int 0, .int 0, .int 0, .int 0, .int 0, .long 0, .int 0])) from c0_o rfl (by decide) (by decide +kernel))
  | 4, _ => exact (show sf_c T0 88 124 (.inl (1, 901, .inl (fun _ => 0))) from c0_a (by decide) rfl rfl (by decide) (by decide) (by decide +kernel))
  | 5, _ => exact (show sf_c T0 88 125 (.inl (1, 901, .inl (fun _ => 0))) from c0_a (by decide) rfl rfl (by decide) (by decide) (by decide +kernel))
  | 6, _ => exact (show sf_c T0 88 126 (.inl (2, 901, .inr (.inl (fun _ => 0)))) from c0_l (by decide) rfl rfl)
  | 7, _ => exact (show sf_c T0 88 1 (.inr (1, [.ref 8, .ref 9, .int 0, .int 0])) from c0_o rfl (by decide) (by decide +kernel))
  | 8, _ => exact (show sf_c T0 88 100 (.inl (1, 6, .inl (fun _ => 0))) from c0_a (by decide) rfl rfl (by decide) (by decide) (by decide +kernel))
  | 9, _ => exact (show sf_c T0 88 101 (.inl (1, 6, .inl (fun _ => 0))) from c0_a (by decide) rfl rfl (by decide) (by decide) (by decide +kernel))
  | 10, _ => exact (show sf_c T0 88 2 (.inr (2, [.ref 11, .int 0])) from c0_o rfl (by decide) (by decide +kernel))
  | 11, _ => exact (show sf_c T0 88 102 (.inl (5, 8, .inr (.inr (.inr (.inr (fun _ => none)))))) from c0_r (g1 := 15) (by decide) rfl rfl (by decide) (by decide) rfl)
  | 12, _ => exact (show sf_c T0 88 6 (.inr (6, [.ref 13, .ref 14, .ref 15, .ref 16, .ref 17, .ref 18, .ref 19, .int 0, .int 0, .int 0])) from c0_o rfl (by decide) (by decide +kernel))
  | 13, _ => exact (show sf_c T0 88 149 (.inl (1, 12, .inl (fun _ => 0))) from c0_a (by decide) rfl rfl (by decide) (by decide) (by decide +kernel))
  | 14, _ => exact (show sf_c T0 88 150 (.inl (1, 12, .inl (fun _ => 0))) from c0_a (by decide) rfl rfl (by decide) (by decide) (by decide +kernel))
  | 15, _ => exact (show sf_c T0 88 151 (.inl (1, 12, .inl (fun _ => 0))) from c0_a (by decide) rfl rfl (by decide) (by decide) (by decide +kernel))
  | 16, _ => exact (show sf_c T0 88 152 (.inl (1, 12, .inl (fun _ => 0))) from c0_a (by decide) rfl rfl (by decide) (by decide) (by decide +kernel))
  | 17, _ => exact (show sf_c T0 88 153 (.inl (1, 8, .inl (fun _ => 0))) from c0_a (by decide) rfl rfl (by decide) (by decide) (by decide +kernel))
  | 18, _ => exact (show sf_c T0 88 154 (.inl (1, 8, .inl (fun _ => 0))) from c0_a (by decide) rfl rfl (by decide) (by decide) (by decide +kernel))
  | 19, _ => exact (show sf_c T0 88 155 (.inl (1, 64, .inl (fun _ => 0))) from c0_a (by decide) rfl rfl (by decide) (by decide) (by decide +kernel))
  | 20, _ => exact (show sf_c T0 88 13 (.inr (6, [.ref 21, .ref 22, .ref 23, .ref 24, .ref 25, .ref 26, .ref 27, .int 0, .int 0, .int 0])) from c0_o rfl (by decide) (by decide +kernel))
  | 21, _ => exact (show sf_c T0 88 156 (.inl (1, 12, .inl (fun _ => 0))) from c0_a (by decide) rfl rfl (by decide) (by decide) (by decide +kernel))
  | 22, _ => exact (show sf_c T0 88 157 (.inl (1, 12, .inl (fun _ => 0))) from c0_a (by decide) rfl rfl (by decide) (by decide) (by decide +kernel))
  | 23, _ => exact (show sf_c T0 88 158 (.inl (1, 12, .inl (fun _ => 0))) from c0_a (by decide) rfl rfl (by decide) (by decide) (by decide +kernel))
  | 24, _ => exact (show sf_c T0 88 159 (.inl (1, 12, .inl (fun _ => 0))) from c0_a (by decide) rfl rfl (by decide) (by decide) (by decide +kernel))
  | 25, _ => exact (show sf_c T0 88 160 (.inl (1, 8, .inl (fun _ => 0))) from c0_a (by decide) rfl rfl (by decide) (by decide) (by decide +kernel))
  | 26, _ => exact (show sf_c T0 88 161 (.inl (1, 8, .inl (fun _ => 0))) from c0_a (by decide) rfl rfl (by decide) (by decide) (by decide +kernel))
  | 27, _ => exact (show sf_c T0 88 162 (.inl (1, 64, .inl (fun _ => 0))) from c0_a (by decide) rfl rfl (by decide) (by decide) (by decide +kernel))
  | 28, _ => exact (show sf_c T0 88 14 (.inr (6, [.ref 29, .ref 30, .ref 31, .ref 32, .ref 33, .ref 34, .ref 35, .int 0, .int 0, .int 0])) from c0_o rfl (by decide) (by decide +kernel))
  | 29, _ => exact (show sf_c T0 88 163 (.inl (1, 12, .inl (fun _ => 0))) from c0_a (by decide) rfl rfl (by decide) (by decide) (by decide +kernel))
  | 30, _ => exact (show sf_c T0 88 164 (.inl (1, 12, .inl (fun _ => 0))) from c0_a (by decide) rfl rfl (by decide) (by decide) (by decide +kernel))
  | 31, _ => exact (show sf_c T0 88 165 (.inl (1, 12, .inl (fun _ => 0))) from c0_a (by decide) rfl rfl (by decide) (by decide) (by decide +kernel))
  | 32, _ => exact (show sf_c T0 88 166 (.inl (1, 12, .inl (fun _ => 0))) from c0_a (by decide) rfl rfl (by decide) (by decide) (by decide +kernel))
  | 33, _ => exact (show sf_c T0 88 167 (.inl (1, 8, .inl (fun _ => 0))) from c0_a (by decide) rfl rfl (by decide) (by decide) (by decide +kernel))
  | 34, _ => exact (show sf_c T0 88 168 (.inl (1, 8, .inl (fun _ => 0))) from c0_a (by decide) rfl rfl (by decide) (by decide) (by decide +kernel))
  | 35, _ => exact (show sf_c T0 88 169 (.inl (1, 64, .inl (fun _ => 0))) from c0_a (by decide) rfl rfl (by decide) (by decide) (by decide +kernel))
  | 36, _ => exact (show sf_c T0 88 4 (.inr (4, [.ref 37, .ref 38, .ref 39, .int 0])) from c0_o rfl (by decide) (by decide +kernel))
  | 37, _ => exact (show sf_c T0 88 103 (.inl (1, 40, .inl (fun _ => 0))) from c0_a (by decide) rfl rfl (by decide) (by decide) (by decide +kernel))
  | 38, _ => exact (show sf_c T0 88 104 (.inl (1, 40, .inl (fun _ => 0))) from c0_a (by decide) rfl rfl (by decide) (by decide) (by decide +kernel))
  | 39, _ => exact (show sf_c T0 88 105 (.inl (1, 40, .inl (fun _ => 0))) from c0_a (by decide) rfl rfl (by decide) (by decide) (by decide +kernel))
  | 40, _ => exact (show sf_c T0 88 0 (.inr (0, [.int 0])) from c0_o rfl (by decide) (by decide +kernel))
  | 41, _ => exact (show sf_c T0 88 127 (.inl (4, 2, .inr (.inr (.inr (.inr (fun _ => none)))))) from c0_r (g1 := 3) (by decide) rfl rfl (by decide) (by decide) rfl)
  | 42, _ => exact (show sf_c T0 88 128 (.inl (1, 12, .inl (fun _ => 0))) from c0_a (by decide) rfl rfl (by decide) (by decide) (by decide +kernel))
  | 43, _ => exact (show sf_c T0 88 129 (.inl (1, 60, .inl (fun _ => 0))) from c0_a (by decide) rfl rfl (by decide) (by decide) (by decide +kernel))
  | 44, _ => exact c0_t (by decide) rfl rfl (by decide) (by decide) (by decide +kernel)
  | 45, _ => exact (show sf_c T0 88 7 (.inr (7, [.ref 46, .ref 47, .ref 48, .ref 49, .ref 50, .ref 51, .ref 52, .int 10, .int 0, .int 0, .int 0, .int 0, .long 0])) from c0_o rfl (by decide) (by decide +kernel))
  | 46, _ => exact (show sf_c T0 88 116 (.inl (2, 6, .inr (.inl (fun _ => 0)))) from c0_l (by decide) rfl rfl)
  | 47, _ => exact (show sf_c T0 88 117 (.inl (2, 8, .inr (.inl (fun _ => 0)))) from c0_l (by decide) rfl rfl)
  | 48, _ => exact (show sf_c T0 88 118 (.inl (1, 8, .inl (fun _ => 0))) from c0_a (by decide) rfl rfl (by decide) (by decide) (by decide +kernel))
  | 49, _ => exact (show sf_c T0 88 119 (.inl (1, 48, .inl (fun _ => 0))) from c0_a (by decide) rfl rfl (by decide) (by decide) (by decide +kernel))
  | 50, _ => exact (show sf_c T0 88 120 (.inl (1, 20, .inl (fun _ => 0))) from c0_a (by decide) rfl rfl (by decide) (by decide) (by decide +kernel))
  | 51, _ => exact (show sf_c T0 88 121 (.inl (1, 20, .inl (fun _ => 0))) from c0_a (by decide) rfl rfl (by decide) (by decide) (by decide +kernel))
  | 52, _ => exact (show sf_c T0 88 122 (.inl (1, 20, .inl (fun _ => 0))) from c0_a (by decide) rfl rfl (by decide) (by decide) (by decide +kernel))
  | 53, _ => exact (show sf_c T0 88 7 (.inr (7, [.ref 54, .ref 55, .ref 56, .ref 57, .ref 58, .ref 59, .ref 60, .int 10, .int 0, .int 0, .int 0, .int 0, .long 0])) from c0_o rfl (by decide) (by decide +kernel))
  | 54, _ => exact (show sf_c T0 88 116 (.inl (2, 6, .inr (.inl (fun _ => 0)))) from c0_l (by decide) rfl rfl)
  | 55, _ => exact (show sf_c T0 88 117 (.inl (2, 8, .inr (.inl (fun _ => 0)))) from c0_l (by decide) rfl rfl)
  | 56, _ => exact (show sf_c T0 88 118 (.inl (1, 8, .inl (fun _ => 0))) from c0_a (by decide) rfl rfl (by decide) (by decide) (by decide +kernel))
  | 57, _ => exact (show sf_c T0 88 119 (.inl (1, 48, .inl (fun _ => 0))) from c0_a (by decide) rfl rfl (by decide) (by decide) (by decide +kernel))
  | 58, _ => exact (show sf_c T0 88 120 (.inl (1, 20, .inl (fun _ => 0))) from c0_a (by decide) rfl rfl (by decide) (by decide) (by decide +kernel))
  | 59, _ => exact (show sf_c T0 88 121 (.inl (1, 20, .inl (fun _ => 0))) from c0_a (by decide) rfl rfl (by decide) (by decide) (by decide +kernel))
  | 60, _ => exact (show sf_c T0 88 122 (.inl (1, 20, .inl (fun _ => 0))) from c0_a (by decide) rfl rfl (by decide) (by decide) (by decide +kernel))
  | 61, _ => exact (show sf_c T0 88 5 (.inr (5, [.ref 62, .ref 63, .ref 64, .int 0, .int 0, .int 0])) from c0_o rfl (by decide) (by decide +kernel))
  | 62, _ => exact (show sf_c T0 88 106 (.inl (1, 40, .inl (fun _ => 0))) from c0_a (by decide) rfl rfl (by decide) (by decide) (by decide +kernel))
  | 63, _ => exact (show sf_c T0 88 107 (.inl (1, 40, .inl (fun _ => 0))) from c0_a (by decide) rfl rfl (by decide) (by decide) (by decide +kernel))
  | 64, _ => exact (show sf_c T0 88 108 (.inl (1, 40, .inl (fun _ => 0))) from c0_a (by decide) rfl rfl (by decide) (by decide) (by decide +kernel))
  | 65, _ => exact (show sf_c T0 88 5 (.inr (5, [.ref 66, .ref 67, .ref 68, .int 0, .int 0, .int 0])) from c0_o rfl (by decide) (by decide +kernel))
  | 66, _ => exact (show sf_c T0 88 106 (.inl (1, 40, .inl (fun _ => 0))) from c0_a (by decide) rfl rfl (by decide) (by decide) (by decide +kernel))
  | 67, _ => exact (show sf_c T0 88 107 (.inl (1, 40, .inl (fun _ => 0))) from c0_a (by decide) rfl rfl (by decide) (by decide) (by decide +kernel))
  | 68, _ => exact (show sf_c T0 88 108 (.inl (1, 40, .inl (fun _ => 0))) from c0_a (by decide) rfl rfl (by decide) (by decide) (by decide +kernel))
  | 69, _ => exact (show sf_c T0 88 11 (.inr (11, [.int 0, .ref 70, .int 0, .int 0, .int 0, .int 0, .ref 71, .ref 72, .ref 73, .ref 74, .ref 75, .int 0, .int 0, .int 0, .int 0, .int 0, .int 0, .long 0, .int 0, .int 0, .int 0, .ref 76, .int 0, .ref 77, .ref 78, .int 0, .ref 79, .ref 80, .int (-1), .int 0, .int 0, .ref 81, .int 0, .ref 82, .int 0, .int 0, .int 0, .int 0, .int 0, .ref 83, .ref 84, .ref 85, .ref 86])) from c0_o rfl (by decide) (by decide +kernel))
  | 70, _ => exact (show sf_c T0 88 131 (.inl (0, 940, .inl (fun _ => 0))) from c0_a (by decide) rfl rfl (by decide) (by decide) (by decide +kernel))
  | 71, _ => exact c0_s
  | 72, _ => exact (show sf_c T0 88 133 (.inl (1, 120, .inl (fun _ => 0))) from c0_a (by decide) rfl rfl (by decide) (by decide) (by decide +kernel))
  | 73, _ => exact (show sf_c T0 88 134 (.inl (1, 160, .inl (fun _ => 0))) from c0_a (by decide) rfl rfl (by decide) (by decide) (by decide +kernel))
  | 74, _ => exact (show sf_c T0 88 135 (.inl (2, 28, .inr (.inl (fun _ => 0)))) from c0_l (by decide) rfl rfl)
  | 75, _ => exact c0_l (by decide) rfl rfl
  | 76, _ => exact (show sf_c T0 88 137 (.inl (1, 4, .inl (fun _ => 0))) from c0_a (by decide) rfl rfl (by decide) (by decide) (by decide +kernel))
  | 77, _ => exact (show sf_c T0 88 138 (.inl (1, 1064, .inl (fun _ => 0))) from c0_a (by decide) rfl rfl (by decide) (by decide) (by decide +kernel))
  | 78, _ => exact (show sf_c T0 88 139 (.inl (1, 133, .inl (fun _ => 0))) from c0_a (by decide) rfl rfl (by decide) (by decide) (by decide +kernel))
  | 79, _ => exact (show sf_c T0 88 140 (.inl (1, 60, .inl (fun _ => 0))) from c0_a (by decide) rfl rfl (by decide) (by decide) (by decide +kernel))
  | 80, _ => exact (show sf_c T0 88 141 (.inl (1, 12, .inl (fun _ => 0))) from c0_a (by decide) rfl rfl (by decide) (by decide) (by decide +kernel))
  | 81, _ => exact (show sf_c T0 88 142 (.inl (1, 4, .inl (fun _ => 0))) from c0_a (by decide) rfl rfl (by decide) (by decide) (by decide +kernel))
  | 82, _ => exact (show sf_c T0 88 143 (.inl (1, 45, .inl (fun _ => 0))) from c0_a (by decide) rfl rfl (by decide) (by decide) (by decide +kernel))
  | 83, _ => exact (show sf_c T0 88 144 (.inl (3, 45, .inl (fun _ => 0))) from c0_a (by decide) rfl rfl (by decide) (by decide) (by decide +kernel))
  | 84, _ => exact (show sf_c T0 88 145 (.inl (1, 868, .inl (fun _ => 0))) from c0_a (by decide) rfl rfl (by decide) (by decide) (by decide +kernel))
  | 85, _ => exact (show sf_c T0 88 146 (.inl (2, 28, .inr (.inl (fun _ => 0)))) from c0_l (by decide) rfl rfl)
  | 86, _ => exact (show sf_c T0 88 147 (.inl (3, 2, .inl (fun _ => 0))) from c0_a (by decide) rfl rfl (by decide) (by decide) (by decide +kernel))
  | 87, _ => exact (show sf_c T0 88 148 (.inl (2, 1, .inr (.inl (fun _ => 0)))) from c0_l (by decide) rfl rfl)
  | k + 88, h => exact absurd (show k + 88 < 88 from h) (by omega)
end
-- 64b.cx0.lean.txt
section
/-! ===== the fresh heap: both sides over nothing ===== -/
def S00 : Sh := (fun _ => 0, fun _ => 0, fun _ => 0, fun _ => 0, fun _ => 0, fun _ => 0, fun _ => 0, 0, 0, 0)
def T00 : St := (0, 0, 0, 10, fun _ => 0, fun _ => 0, fun _ => 0, fun _ => 0, fun _ => 0)
def D00 : DD := (T00, fun _ => 0, S00, 0, fun _ => S00, fun _ => none)
theorem inv00 : INV T00 S00 := ⟨fun k _ => by show 0 ≤ (0 : Int32).toInt ∧ (0 : Int32).toInt ≤ 999; decide, fun k _ => by show 0 ≤ (0 : Int32).toInt ∧ (0 : Int32).toInt + (0 : Int32).toInt ≤ 250 + 290 * ((0 : Nat) : Int); decide, fun k h => absurd h (Nat.not_lt_zero k), fun k h => absurd h (Nat.not_lt_zero k), fun k _ => by show 0 ≤ (0 : Int32).toInt ∧ (0 : Int32).toInt ≤ 40 * ((0 : Nat) : Int); decide, by decide⟩
theorem dok00 : DOK D00 := ⟨⟨by decide, by decide, fun k _ => by show 0 ≤ (0 : Int32).toInt ∧ (0 : Int32).toInt ≤ 250; decide⟩, inv00, fun j h => absurd h (Nat.not_lt_zero j), fun k x e => by cases e⟩
theorem tw00 : TW T00 := ⟨by decide, by decide, by decide, fun i h => absurd h (Nat.not_lt_zero i), fun i j h => absurd h (Nat.not_lt_zero i)⟩
set_option maxRecDepth 100000 in
set_option maxHeartbeats 4000000 in
theorem gw00 : GW (fl H0) := by
  intro y my
  unfold wires at my
  simp only [List.mem_cons, List.not_mem_nil, or_false] at my
  repeat' (rcases my with my | my)
  all_goals rfl
theorem o7_00 {p : Nat} (h : p = 12 ∨ p = 45) : O7 (fl H0) p := fun j hj => by
  rcases h with rfl | rfl
  · exact (o7w gw00).1 j hj
  · exact (o7w gw00).2.2.1 j hj
theorem tr00 : TR (fl H0) 45 T00 := ⟨o7_00 (Or.inr rfl), tw00, rfl, rfl, rfl, rfl, fun j _ => rfl, fun j h => absurd h (Nat.not_lt_zero j), fun j h => absurd h (Nat.not_lt_zero j), fun j h => absurd h (Nat.not_lt_zero j), fun j h => absurd h (Nat.not_lt_zero j)⟩
theorem shr00 : SHR (fl H0) 12 0 S00 := ⟨o7_00 (Or.inl rfl), by decide, fun j _ => rfl, fun j _ => rfl, fun j _ => rfl, fun j _ => rfl, fun j h => absurd h (Nat.not_lt_zero j), fun j h => absurd h (Nat.not_lt_zero j), fun j _ => rfl, rfl, rfl, rfl⟩
theorem hst00 : HST (fl H0) 0 0 (fun _ => S00) := ⟨0, fun _ => 0, ⟨Nat.zero_le _, fun j h => absurd h (Nat.not_lt_zero j), fun j _ _ => rfl, fun i j h => absurd h (Nat.not_lt_zero i)⟩, Nat.le_refl _, rfl, fun j h => absurd h (Nat.not_lt_zero j)⟩
theorem cr00 : CR (fl H0) D00 := ⟨gw00, Nat.le_refl _, ⟨45, 53, Or.inl ⟨rfl, rfl⟩, rfl, rfl, tr00, fun g h => absurd h (Nat.not_lt_zero g), fun g h => absurd h (Nat.not_lt_zero g)⟩, ⟨61, 65, Or.inl ⟨rfl, rfl⟩, rfl, rfl⟩, shr00, hst00, fun _ => 0, fun k _ => (show (fl H0).2.1 41 k = .null from rfl), fun h => by cases h⟩
theorem x71_00 {k : Nat} (h : k ≠ 2) : (fl H0).1 71 k = 0 := by
  show upd (fun _ => 0) 2 10 k = 0
  unfold upd
  simp [h]
theorem xt00 : XT (fl H0) T00 := ⟨tw00, x71_00 (by decide), x71_00 (by decide), rfl, x71_00 (by decide), fun j _ => x71_00 (by omega), fun j _ => x71_00 (by omega), fun j _ => x71_00 (by omega), fun j _ => x71_00 (by omega), fun j h => absurd h (Nat.not_lt_zero j), fun j h => absurd h (Nat.not_lt_zero j), fun j h => absurd h (Nat.not_lt_zero j), fun j h => absurd h (Nat.not_lt_zero j)⟩
theorem xs00 : XS (fl H0) 0 S00 := ⟨by decide, x71_00 (by decide), x71_00 (by decide), x71_00 (by decide), (x71_00 (by decide)).trans (by decide), fun j _ => x71_00 (by omega), fun j _ => x71_00 (by omega), fun j _ => x71_00 (by omega), fun j _ => x71_00 (by omega), fun k h => absurd h (Nat.not_lt_zero k), fun k h => absurd h (Nat.not_lt_zero k), fun k h => absurd h (Nat.not_lt_zero k), fun k j h => absurd h (Nat.not_lt_zero k)⟩
set_option maxRecDepth 100000 in
theorem rwf00 : RWF (fl H0) := fun j hj => match j, hj with
  | 0, _ => by decide
  | 1, _ => by decide
  | 2, _ => by decide
  | 3, _ => by decide
  | 4, _ => by decide
  | 5, _ => by decide
  | 6, _ => by decide
  | 7, _ => by decide
  | 8, _ => by decide
  | 9, _ => by decide
  | 10, _ => by decide
  | 11, _ => by decide
  | 12, _ => by decide
  | 13, _ => by decide
  | 14, _ => by decide
  | 15, _ => by decide
  | 16, _ => by decide
  | 17, _ => by decide
  | 18, _ => by decide
  | 19, _ => by decide
  | 20, _ => by decide
  | 21, _ => by decide
  | 22, _ => by decide
  | 23, _ => by decide
  | 24, _ => by decide
  | j + 25, h => absurd h (by omega)
theorem xr00 : XR (fl H0) D00 := ⟨gw00, xt00, xs00, ⟨rfl, by decide, fun j h => absurd h (Nat.not_lt_zero j)⟩, ⟨fun g h => absurd h (Nat.not_lt_zero g), fun g h => absurd h (Nat.not_lt_zero g)⟩, rwf00, fun k _ => (show (fl H0).1 86 k = 0 from rfl)⟩
theorem cx00 : ∃ D : DD, DOK D ∧ CR (fl H0) D ∧ XR (fl H0) D := ⟨D00, dok00, cr00, xr00⟩
end
-- 65.o0.lean.txt
section
/-! ===== the law: one operation ===== -/
noncomputable def LT (xs : Nat → Int32) (n : Nat) : Nat → Option ab_A := ab_T (LZ_law xs n)
abbrev lw_tb (hp : ab_H) : Prop := TB hp ∧ RES hp
theorem lw_keep {W : List (Nat × Nat × Nat)} {t t' : Nat → Nat} {hp hp' : ab_H} (H : sf_h t hp) (f : sf_fr W t hp t' hp') (h1 : sf_inW W 8 1 = false) (h2 : sf_inW W 11 2 = false) (h3 : W.all (fun w => decide (w.1 ≠ 123)) = true) (h4 : W.all (fun w => decide (w.1 ≠ 131)) = true) (h5 : W.all (fun w => decide (w.1 ≠ 136)) = true) (h : lw_tb hp) : lw_tb hp' := by
  obtain ⟨⟨v, a, b, c, d, e⟩, r⟩ := h
  obtain ⟨a1, a2⟩ := H.2.2.1 8 1 rfl
  obtain ⟨b1, b2⟩ := H.2.2.1 11 69 rfl
  obtain ⟨c1, c2⟩ := H.2.2.1 123 2 rfl
  obtain ⟨d1, d2⟩ := H.2.2.1 131 70 rfl
  refine ⟨⟨v, (f.2.2.1 1 a1 1 (by rw [a2]; exact h1)).trans a, (f.2.2.1 69 b1 2 (by rw [b2]; exact h2)).trans b, c, d, fun q hq => ?_⟩, RES_fr H f h5 r⟩
  rw [sf_rd_cell (f.2.2.2.1 2 c1 (by rw [c2]; exact h3)), sf_rd_cell (f.2.2.2.1 70 d1 (by rw [d2]; exact h4))]
  exact e q hq
/-- both sides are alike: the tapes, the words, and all that the days are made of -/
abbrev lw_eq (hp : ab_H) : Prop := lw_tb hp ∧ ∃ D : DD, DOK D ∧ CR (fl hp) D ∧ XR (fl hp) D
theorem TB_n {hp : ab_H} (h : TB hp) : ∃ tn : Nat, tn ≤ 940 ∧ sf_rd hp 1 1 = some (tn : Int) ∧ sf_rd hp 69 2 = some (tn : Int) ∧ bv hp 70 tn = bv hp 2 tn := by
  obtain ⟨v, a, b, c, d, e⟩ := h
  obtain ⟨tn, rfl⟩ := Int.eq_ofNat_of_zero_le c
  exact ⟨tn, by omega, a, b, TB_bv e⟩
def lw_K (xs : Nat → Int32) (n : Nat) (z : Int32) (m k : Nat) (Q : ab_O → Prop) : Prop := ∀ (hp' : ab_H) (t' : Nat → Nat) (a5 a6 : Option Value) (m' k' : Nat), sf_h t' hp' → lw_eq hp' → m' ≤ m + 21 → k' ≤ k + 410 → Ev (LT xs n) 1440 ([some (.retAddr 0), some (.ref 0), some (.ref 69), some (.ref 87), some (.int z), a5, a6], [], (m', k'), hp') Q
theorem ls_room {m k mc ms MC MS : Nat} {rest : List Value} (h0 : ab_cats rest ≤ 8) (h1 : m + mc ≤ MC) (h2 : k + ms ≤ MS) : (decide (ab_cats rest ≤ 8) && decide ((m, k).1 + mc ≤ MC) && decide ((m, k).2 + ms ≤ MS)) = true := by
  rw [decide_eq_true h0, decide_eq_true (show (m, k).1 + mc ≤ MC from h1), decide_eq_true (show (m, k).2 + ms ≤ MS from h2)]
  rfl
theorem ls_sld {T : Nat → Option ab_A} {i j n : Nat} {xs : Nat → Int32} {x : Int32} {lo : List (Option Value)} {st : List Value} {u : Nat × Nat} {hp : ab_H} {Q : ab_O → Prop} (hT : T i = some (ab_nx j (ab_sld xs n))) (h0 : 0 ≤ x.toInt) (h1 : x.toInt < n) (h : Ev T j (lo, .int (xs x.toNatClampNeg) :: st, u, hp) Q) : Ev T i (lo, .int x :: .retAddr 0 :: st, u, hp) Q :=
  Ev.nx hT (by show cond (ab_in x n) (some (lo, Value.int (xs x.toNatClampNeg) :: st, u, hp)) none = _; rw [n_in h0 h1]; rfl) h
set_option maxRecDepth 100000 in
set_option maxHeartbeats 4000000 in
theorem op_feed {xs : Nat → Int32} {n : Nat} {z : Int32} {a5 a6 : Option Value} {m k : Nat} {hp : ab_H} {t : Nat → Nat} {Q : ab_O → Prop} (H : sf_h t hp) (hs : lw_eq hp) (hz0 : 0 ≤ z.toInt) (hz1 : z.toInt + 6 ≤ n) (hn : n ≤ 3072) (hm : m + 21 ≤ 601024) (hk : k + 410 ≤ 7293034) (K : lw_K xs n z m k Q) : Ev (LT xs n) 220 ([some (.retAddr 0), some (.ref 0), some (.ref 69), some (.ref 87), some (.int z), a5, a6], [], (m, k), hp) Q := by
  obtain ⟨hs, D, hD, hC, hX⟩ := hs
  refine Ev.step (j := 221) (s' := ([some (.retAddr 0), some (.ref 0), some (.ref 69), some (.ref 87), some (.int z), a5, a6], [.ref 0], (m, k), hp)) rfl rfl ?_
  refine Ev.step (j := 222) (s' := ([some (.retAddr 0), some (.ref 0), some (.ref 69), some (.ref 87), some (.int z), a5, a6], [.retAddr 0, .ref 0], (m, k), hp)) rfl rfl ?_
  refine Ev.step (j := 224) (s' := ([some (.retAddr 0), some (.ref 0), some (.ref 69), some (.ref 87), some (.int z), a5, a6], [.int z, .retAddr 0, .ref 0], (m, k), hp)) rfl rfl ?_
  refine bs_lit (k := 1) rfl rfl fun z1 hz1 => ?_
  refine bs_add rfl (by omega) (by omega) fun z2 hz2 => ?_
  refine ls_sld rfl (by omega) (by omega) ?_
  refine (show Ev _ 227 ([some (.retAddr 0), some (.ref 0), some (.ref 69), some (.ref 87), some (.int z), a5, a6], [.int (xs z2.toNatClampNeg), .ref 0], (m, k), hp) _ from ?_)
  exact by
   refine Ev.step (j := 228) (s' := ([some (.retAddr 0), some (.ref 0), some (.ref 69), some (.ref 87), some (.int z), a5, a6], [.retAddr 0, .int (xs z2.toNatClampNeg), .ref 0], (m, k), hp)) rfl rfl ?_
   refine Ev.step (j := 230) (s' := ([some (.retAddr 0), some (.ref 0), some (.ref 69), some (.ref 87), some (.int z), a5, a6], [.int z, .retAddr 0, .int (xs z2.toNatClampNeg), .ref 0], (m, k), hp)) rfl rfl ?_
   refine bs_lit (k := 2) rfl rfl fun z3 hz3 => ?_
   refine bs_add rfl (by omega) (by omega) fun z4 hz4 => ?_
   refine ls_sld rfl (by omega) (by omega) ?_
   refine (show Ev _ 233 ([some (.retAddr 0), some (.ref 0), some (.ref 69), some (.ref 87), some (.int z), a5, a6], [.int (xs z4.toNatClampNeg), .int (xs z2.toNatClampNeg), .ref 0], (m, k), hp) _ from ?_)
   refine Ev.step (j := 234) (s' := ([some (.retAddr 0), some (.ref 0), some (.ref 69), some (.ref 87), some (.int z), a5, a6], [.retAddr 0, .int (xs z4.toNatClampNeg), .int (xs z2.toNatClampNeg), .ref 0], (m, k), hp)) rfl rfl ?_
   refine Ev.step (j := 236) (s' := ([some (.retAddr 0), some (.ref 0), some (.ref 69), some (.ref 87), some (.int z), a5, a6], [.int z, .retAddr 0, .int (xs z4.toNatClampNeg), .int (xs z2.toNatClampNeg), .ref 0], (m, k), hp)) rfl rfl ?_
   exact by
    refine bs_lit (k := 3) rfl rfl fun z5 hz5 => ?_
    refine bs_add rfl (by omega) (by omega) fun z6 hz6 => ?_
    refine ls_sld rfl (by omega) (by omega) ?_
    refine (show Ev _ 239 ([some (.retAddr 0), some (.ref 0), some (.ref 69), some (.ref 87), some (.int z), a5, a6], [.int (xs z6.toNatClampNeg), .int (xs z4.toNatClampNeg), .int (xs z2.toNatClampNeg), .ref 0], (m, k), hp) _ from ?_)
    refine Ev.step (j := 240) (s' := ([some (.retAddr 0), some (.ref 0), some (.ref 69), some (.ref 87), some (.int z), a5, a6], [.retAddr 0, .int (xs z6.toNatClampNeg), .int (xs z4.toNatClampNeg), .int (xs z2.toNatClampNeg), .ref 0], (m, k), hp)) rfl rfl ?_
    refine Ev.step (j := 242) (s' := ([some (.retAddr 0), some (.ref 0), some (.ref 69), some (.ref 87), some (.int z), a5, a6], [.int z, .retAddr 0, .int (xs z6.toNatClampNeg), .int (xs z4.toNatClampNeg), .int (xs z2.toNatClampNeg), .ref 0], (m, k), hp)) rfl rfl ?_
    refine bs_lit (k := 4) rfl rfl fun z7 hz7 => ?_
    refine bs_add rfl (by omega) (by omega) fun z8 hz8 => ?_
    exact by
     refine ls_sld rfl (by omega) (by omega) ?_
     refine (show Ev _ 245 ([some (.retAddr 0), some (.ref 0), some (.ref 69), some (.ref 87), some (.int z), a5, a6], [.int (xs z8.toNatClampNeg), .int (xs z6.toNatClampNeg), .int (xs z4.toNatClampNeg), .int (xs z2.toNatClampNeg), .ref 0], (m, k), hp) _ from ?_)
     refine Ev.step (j := 246) (s' := ([some (.retAddr 0), some (.ref 0), some (.ref 69), some (.ref 87), some (.int z), a5, a6], [.retAddr 0, .int (xs z8.toNatClampNeg), .int (xs z6.toNatClampNeg), .int (xs z4.toNatClampNeg), .int (xs z2.toNatClampNeg), .ref 0], (m, k), hp)) rfl rfl ?_
     refine Ev.step (j := 248) (s' := ([some (.retAddr 0), some (.ref 0), some (.ref 69), some (.ref 87), some (.int z), a5, a6], [.int z, .retAddr 0, .int (xs z8.toNatClampNeg), .int (xs z6.toNatClampNeg), .int (xs z4.toNatClampNeg), .int (xs z2.toNatClampNeg), .ref 0], (m, k), hp)) rfl rfl ?_
     refine bs_lit (k := 5) rfl rfl fun z9 hz9 => ?_
     refine bs_add rfl (by omega) (by omega) fun z10 hz10 => ?_
     refine ls_sld rfl (by omega) (by omega) ?_
     refine (show Ev _ 251 ([some (.retAddr 0), some (.ref 0), some (.ref 69), some (.ref 87), some (.int z), a5, a6], [.int (xs z10.toNatClampNeg), .int (xs z8.toNatClampNeg), .int (xs z6.toNatClampNeg), .int (xs z4.toNatClampNeg), .int (xs z2.toNatClampNeg), .ref 0], (m, k), hp) _ from ?_)
     exact by
      refine bs_callx (K := kq_X10_feed_b) [.ref 0, .int (xs z2.toNatClampNeg), .int (xs z4.toNatClampNeg), .int (xs z6.toNatClampNeg), .int (xs z8.toNatClampNeg), .int (xs z10.toNatClampNeg)] [] rfl ce_X10_feed_b H rfl rfl rfl (bs_rcv (g := 10) H (bs_R.uq H (g := 10) rfl) (by decide) rfl) (ls_room (Nat.le_of_ble_eq_true rfl) (by omega) (by omega)) ?_ (sf_S_nil) fun r12 hp11 thp11 Hhp11 fhp11 ahp11 php11 xhp11 => ?_
      · intro q k h
        match q, h with
        | 0, h => cases h; exact bs_jR (bs_R.uq H (g := 10) rfl)
        | 1, h => cases h; exact sf_j0
        | 2, h => cases h; exact sf_j0
        | 3, h => cases h; exact sf_j0
        | 4, h => cases h; exact sf_j0
        | 5, h => cases h; exact sf_j0
        | q + 6, h => cases h
      obtain ⟨z13, rfl⟩ := bs_anI ahp11
      obtain ⟨⟨v0, hc0, hr0, v00, v01, T0⟩, RS⟩ := hs
      have RS1 := RES_fr H fhp11 rfl RS
      have hr1 : sf_rd hp11 69 2 = some v0 := (fhp11.2.2.1 _ (bs_R.uq H (g := 11) (p := 69) rfl).1 _ (by rw [(bs_R.uq H (g := 11) (p := 69) rfl).2]; rfl)).trans hr0
      have r1 : ∀ q, sf_rd hp11 70 q = sf_rd hp 70 q := fun q => (fhp11.2.2.1 _ (bs_R.uq H (g := 131) (p := 70) rfl).1 _ (by rw [(bs_R.uq H (g := 131) (p := 70) rfl).2]; rfl))
      obtain ⟨w1, ew1, ez1, hc1, CA, CB⟩ := xhp11 v0 hc0
      obtain rfl := Value.int.inj (Option.some.inj ew1)
      obtain ⟨hC1, kx1⟩ := CRW (by rfl) H Hhp11 fhp11 hC
      have hX1 := kx1 _ hX
      refine (show Ev _ 254 ([some (.retAddr 0), some (.ref 0), some (.ref 69), some (.ref 87), some (.int z), a5, a6], [.int z13], (m + 0, k + 0), hp11) _ from ?_)
      exact by
       refine Ev.step (j := 255) (s' := ([some (.retAddr 0), some (.ref 0), some (.ref 69), some (.ref 87), some (.int z), a5, a6], [], (m + 0, k + 0), hp11)) rfl rfl ?_
       refine Ev.step (j := 256) (s' := ([some (.retAddr 0), some (.ref 0), some (.ref 69), some (.ref 87), some (.int z), a5, a6], [.ref 69], (m + 0, k + 0), hp11)) rfl rfl ?_
       refine Ev.step (j := 257) (s' := ([some (.retAddr 0), some (.ref 0), some (.ref 69), some (.ref 87), some (.int z), a5, a6], [.retAddr 0, .ref 69], (m + 0, k + 0), hp11)) rfl rfl ?_
       refine Ev.step (j := 259) (s' := ([some (.retAddr 0), some (.ref 0), some (.ref 69), some (.ref 87), some (.int z), a5, a6], [.int z, .retAddr 0, .ref 69], (m + 0, k + 0), hp11)) rfl rfl ?_
       refine bs_lit (k := 1) rfl rfl fun z14 hz14 => ?_
       refine bs_add rfl (by omega) (by omega) fun z15 hz15 => ?_
       refine ls_sld rfl (by omega) (by omega) ?_
       refine (show Ev _ 262 ([some (.retAddr 0), some (.ref 0), some (.ref 69), some (.ref 87), some (.int z), a5, a6], [.int (xs z15.toNatClampNeg), .ref 69], (m + 0, k + 0), hp11) _ from ?_)
       exact by
        refine Ev.step (j := 263) (s' := ([some (.retAddr 0), some (.ref 0), some (.ref 69), some (.ref 87), some (.int z), a5, a6], [.retAddr 0, .int (xs z15.toNatClampNeg), .ref 69], (m + 0, k + 0), hp11)) rfl rfl ?_
        refine Ev.step (j := 265) (s' := ([some (.retAddr 0), some (.ref 0), some (.ref 69), some (.ref 87), some (.int z), a5, a6], [.int z, .retAddr 0, .int (xs z15.toNatClampNeg), .ref 69], (m + 0, k + 0), hp11)) rfl rfl ?_
        refine bs_lit (k := 2) rfl rfl fun z16 hz16 => ?_
        refine bs_add rfl (by omega) (by omega) fun z17 hz17 => ?_
        refine ls_sld rfl (by omega) (by omega) ?_
        refine (show Ev _ 268 ([some (.retAddr 0), some (.ref 0), some (.ref 69), some (.ref 87), some (.int z), a5, a6], [.int (xs z17.toNatClampNeg), .int (xs z15.toNatClampNeg), .ref 69], (m + 0, k + 0), hp11) _ from ?_)
        refine Ev.step (j := 269) (s' := ([some (.retAddr 0), some (.ref 0), some (.ref 69), some (.ref 87), some (.int z), a5, a6], [.retAddr 0, .int (xs z17.toNatClampNeg), .int (xs z15.toNatClampNeg), .ref 69], (m + 0, k + 0), hp11)) rfl rfl ?_
        refine Ev.step (j := 271) (s' := ([some (.retAddr 0), some (.ref 0), some (.ref 69), some (.ref 87), some (.int z), a5, a6], [.int z, .retAddr 0, .int (xs z17.toNatClampNeg), .int (xs z15.toNatClampNeg), .ref 69], (m + 0, k + 0), hp11)) rfl rfl ?_
        exact by
         refine bs_lit (k := 3) rfl rfl fun z18 hz18 => ?_
         refine bs_add rfl (by omega) (by omega) fun z19 hz19 => ?_
         refine ls_sld rfl (by omega) (by omega) ?_
         refine (show Ev _ 274 ([some (.retAddr 0), some (.ref 0), some (.ref 69), some (.ref 87), some (.int z), a5, a6], [.int (xs z19.toNatClampNeg), .int (xs z17.toNatClampNeg), .int (xs z15.toNatClampNeg), .ref 69], (m + 0, k + 0), hp11) _ from ?_)
         refine Ev.step (j := 275) (s' := ([some (.retAddr 0), some (.ref 0), some (.ref 69), some (.ref 87), some (.int z), a5, a6], [.retAddr 0, .int (xs z19.toNatClampNeg), .int (xs z17.toNatClampNeg), .int (xs z15.toNatClampNeg), .ref 69], (m + 0, k + 0), hp11)) rfl rfl ?_
         refine Ev.step (j := 277) (s' := ([some (.retAddr 0), some (.ref 0), some (.ref 69), some (.ref 87), some (.int z), a5, a6], [.int z, .retAddr 0, .int (xs z19.toNatClampNeg), .int (xs z17.toNatClampNeg), .int (xs z15.toNatClampNeg), .ref 69], (m + 0, k + 0), hp11)) rfl rfl ?_
         refine bs_lit (k := 4) rfl rfl fun z20 hz20 => ?_
         refine bs_add rfl (by omega) (by omega) fun z21 hz21 => ?_
         exact by
          refine ls_sld rfl (by omega) (by omega) ?_
          refine (show Ev _ 280 ([some (.retAddr 0), some (.ref 0), some (.ref 69), some (.ref 87), some (.int z), a5, a6], [.int (xs z21.toNatClampNeg), .int (xs z19.toNatClampNeg), .int (xs z17.toNatClampNeg), .int (xs z15.toNatClampNeg), .ref 69], (m + 0, k + 0), hp11) _ from ?_)
          refine Ev.step (j := 281) (s' := ([some (.retAddr 0), some (.ref 0), some (.ref 69), some (.ref 87), some (.int z), a5, a6], [.retAddr 0, .int (xs z21.toNatClampNeg), .int (xs z19.toNatClampNeg), .int (xs z17.toNatClampNeg), .int (xs z15.toNatClampNeg), .ref 69], (m + 0, k + 0), hp11)) rfl rfl ?_
          refine Ev.step (j := 283) (s' := ([some (.retAddr 0), some (.ref 0), some (.ref 69), some (.ref 87), some (.int z), a5, a6], [.int z, .retAddr 0, .int (xs z21.toNatClampNeg), .int (xs z19.toNatClampNeg), .int (xs z17.toNatClampNeg), .int (xs z15.toNatClampNeg), .ref 69], (m + 0, k + 0), hp11)) rfl rfl ?_
          refine bs_lit (k := 5) rfl rfl fun z22 hz22 => ?_
          refine bs_add rfl (by omega) (by omega) fun z23 hz23 => ?_
          refine ls_sld rfl (by omega) (by omega) ?_
          refine (show Ev _ 286 ([some (.retAddr 0), some (.ref 0), some (.ref 69), some (.ref 87), some (.int z), a5, a6], [.int (xs z23.toNatClampNeg), .int (xs z21.toNatClampNeg), .int (xs z19.toNatClampNeg), .int (xs z17.toNatClampNeg), .int (xs z15.toNatClampNeg), .ref 69], (m + 0, k + 0), hp11) _ from ?_)
          exact by
           refine bs_callx (K := kq_X11_feed_b) [.ref 69, .int (xs z15.toNatClampNeg), .int (xs z17.toNatClampNeg), .int (xs z19.toNatClampNeg), .int (xs z21.toNatClampNeg), .int (xs z23.toNatClampNeg)] [] rfl ce_X11_feed_b Hhp11 rfl rfl rfl (bs_rcv (g := 11) Hhp11 (bs_R.uq Hhp11 (g := 11) rfl) (by decide) rfl) (ls_room (Nat.le_of_ble_eq_true rfl) (by omega) (by omega)) ?_ (sf_S_nil) fun r25 hp24 thp24 Hhp24 fhp24 ahp24 php24 xhp24 => ?_
           · intro q k h
             match q, h with
             | 0, h => cases h; exact bs_jR (bs_R.uq Hhp11 (g := 11) rfl)
             | 1, h => cases h; exact sf_j0
             | 2, h => cases h; exact sf_j0
             | 3, h => cases h; exact sf_j0
             | 4, h => cases h; exact sf_j0
             | 5, h => cases h; exact sf_j0
             | q + 6, h => cases h
           obtain ⟨z26, rfl⟩ := bs_anI ahp24
           have RS2 := RES_fr Hhp11 fhp24 rfl RS1
           have hc2 := (fhp24.2.2.1 _ (bs_R.uq Hhp11 (g := 8) (p := 1) rfl).1 1 (by rw [(bs_R.uq Hhp11 (g := 8) (p := 1) rfl).2]; rfl)).trans hc1
           have c2 : ∀ q, sf_rd hp24 2 q = sf_rd hp11 2 q := fun q => (fhp24.2.2.1 _ (bs_R.uq Hhp11 (g := 123) (p := 2) rfl).1 _ (by rw [(bs_R.uq Hhp11 (g := 123) (p := 2) rfl).2]; rfl))
           obtain ⟨w2, ew2, ez2, hr2, RA, RB⟩ := xhp24 v0 hr1
           obtain rfl := Value.int.inj (Option.some.inj ew2)
           have E : lw_tb hp24 := ⟨TB_feed (as := [.ref 0, .int (xs z2.toNatClampNeg), .int (xs z4.toNatClampNeg), .int (xs z6.toNatClampNeg), .int (xs z8.toNatClampNeg), .int (xs z10.toNatClampNeg)]) (bs := [.ref 69, .int (xs z15.toNatClampNeg), .int (xs z17.toNatClampNeg), .int (xs z19.toNatClampNeg), .int (xs z21.toNatClampNeg), .int (xs z23.toNatClampNeg)]) v00 v01 T0 hc2 hr2 c2 r1 CA RA CB RB (fun i hi => match i, hi with | 0, _ => ⟨_, rfl, by rw [show z15 = z2 from Int32.toInt_inj.mp (by omega)]; rfl⟩ | 1, _ => ⟨_, rfl, by rw [show z17 = z4 from Int32.toInt_inj.mp (by omega)]; rfl⟩ | 2, _ => ⟨_, rfl, by rw [show z19 = z6 from Int32.toInt_inj.mp (by omega)]; rfl⟩ | 3, _ => ⟨_, rfl, by rw [show z21 = z8 from Int32.toInt_inj.mp (by omega)]; rfl⟩ | 4, _ => ⟨_, rfl, by rw [show z23 = z10 from Int32.toInt_inj.mp (by omega)]; rfl⟩ | i + 5, h => absurd h (by omega)), RS2⟩
           obtain ⟨hX2, kc2⟩ := XRW (by rfl) (by rfl) Hhp11 Hhp24 fhp24 hC1.c hX1
           have hC2 := kc2 _ hC1
           refine (show Ev _ 289 ([some (.retAddr 0), some (.ref 0), some (.ref 69), some (.ref 87), some (.int z), a5, a6], [.int z26], (m + 0 + 0, k + 0 + 0), hp24) _ from ?_)
           exact by
            refine Ev.step (j := 290) (s' := ([some (.retAddr 0), some (.ref 0), some (.ref 69), some (.ref 87), some (.int z), a5, a6], [], (m + 0 + 0, k + 0 + 0), hp24)) rfl rfl ?_
            refine Ev.step (j := 1440) (s' := ([some (.retAddr 0), some (.ref 0), some (.ref 69), some (.ref 87), some (.int z), a5, a6], [], (m + 0 + 0, k + 0 + 0), hp24)) rfl rfl ?_
            exact K _ _ _ _ _ _ Hhp24 ⟨E, D, hD, hC2, hX2⟩ (by omega) (by omega)
set_option maxRecDepth 100000 in
set_option maxHeartbeats 4000000 in
theorem op_end {xs : Nat → Int32} {n : Nat} {z : Int32} {a5 a6 : Option Value} {m k : Nat} {hp : ab_H} {t : Nat → Nat} {Q : ab_O → Prop} (H : sf_h t hp) (hs : lw_eq hp) (hz0 : 0 ≤ z.toInt) (hz1 : z.toInt + 6 ≤ n) (hn : n ≤ 3072) (hm : m + 21 ≤ 601024) (hk : k + 410 ≤ 7293034) (K : lw_K xs n z m k Q) : Ev (LT xs n) 293 ([some (.retAddr 0), some (.ref 0), some (.ref 69), some (.ref 87), some (.int z), a5, a6], [], (m, k), hp) Q := by
  obtain ⟨hs, D, hD, hC, hX⟩ := hs
  refine Ev.step (j := 294) (s' := ([some (.retAddr 0), some (.ref 0), some (.ref 69), some (.ref 87), some (.int z), a5, a6], [.ref 0], (m, k), hp)) rfl rfl ?_
  refine Ev.step (j := 295) (s' := ([some (.retAddr 0), some (.ref 0), some (.ref 69), some (.ref 87), some (.int z), a5, a6], [.retAddr 0, .ref 0], (m, k), hp)) rfl rfl ?_
  refine Ev.step (j := 297) (s' := ([some (.retAddr 0), some (.ref 0), some (.ref 69), some (.ref 87), some (.int z), a5, a6], [.int z, .retAddr 0, .ref 0], (m, k), hp)) rfl rfl ?_
  refine bs_lit (k := 1) rfl rfl fun z27 hz27 => ?_
  refine bs_add rfl (by omega) (by omega) fun z28 hz28 => ?_
  refine ls_sld rfl (by omega) (by omega) ?_
  refine (show Ev _ 300 ([some (.retAddr 0), some (.ref 0), some (.ref 69), some (.ref 87), some (.int z), a5, a6], [.int (xs z28.toNatClampNeg), .ref 0], (m, k), hp) _ from ?_)
  exact by
   refine bs_callx (K := kq_X10_end_h) [.ref 0, .int (xs z28.toNatClampNeg)] [] rfl ce_X10_end_h H rfl rfl rfl (bs_rcv (g := 10) H (bs_R.uq H (g := 10) rfl) (by decide) rfl) (ls_room (Nat.le_of_ble_eq_true rfl) (by omega) (by omega)) ?_ (sf_S_nil) fun r30 hp29 thp29 Hhp29 fhp29 ahp29 php29 xhp29 => ?_
   · intro q k h
     match q, h with
     | 0, h => cases h; exact bs_jR (bs_R.uq H (g := 10) rfl)
     | 1, h => cases h; exact sf_j0
     | q + 2, h => cases h
   obtain ⟨z31, rfl⟩ := bs_anI ahp29
   obtain ⟨⟨v0, hc0, hr0, v00, v01, T0⟩, RS⟩ := hs
   have RS1 := RES_fr H fhp29 rfl RS
   have hr1 : sf_rd hp29 69 2 = some v0 := (fhp29.2.2.1 _ (bs_R.uq H (g := 11) (p := 69) rfl).1 _ (by rw [(bs_R.uq H (g := 11) (p := 69) rfl).2]; rfl)).trans hr0
   have r1 : ∀ q, sf_rd hp29 70 q = sf_rd hp 70 q := fun q => (fhp29.2.2.1 _ (bs_R.uq H (g := 131) (p := 70) rfl).1 _ (by rw [(bs_R.uq H (g := 131) (p := 70) rfl).2]; rfl))
   have hc1 := xhp29 v0 _ rfl hc0
   have c1 : ∀ q, sf_rd hp29 2 q = sf_rd hp 2 q := fun q => (fhp29.2.2.1 _ (bs_R.uq H (g := 123) (p := 2) rfl).1 _ (by rw [(bs_R.uq H (g := 123) (p := 2) rfl).2]; rfl))
   obtain ⟨hC1, kx1⟩ := CRW (by rfl) H Hhp29 fhp29 hC
   have hX1 := kx1 _ hX
   refine (show Ev _ 303 ([some (.retAddr 0), some (.ref 0), some (.ref 69), some (.ref 87), some (.int z), a5, a6], [.int z31], (m + 0, k + 0), hp29) _ from ?_)
   exact by
    refine Ev.step (j := 304) (s' := ([some (.retAddr 0), some (.ref 0), some (.ref 69), some (.ref 87), some (.int z), a5, a6], [], (m + 0, k + 0), hp29)) rfl rfl ?_
    refine Ev.step (j := 305) (s' := ([some (.retAddr 0), some (.ref 0), some (.ref 69), some (.ref 87), some (.int z), a5, a6], [.ref 69], (m + 0, k + 0), hp29)) rfl rfl ?_
    refine Ev.step (j := 306) (s' := ([some (.retAddr 0), some (.ref 0), some (.ref 69), some (.ref 87), some (.int z), a5, a6], [.retAddr 0, .ref 69], (m + 0, k + 0), hp29)) rfl rfl ?_
    refine Ev.step (j := 308) (s' := ([some (.retAddr 0), some (.ref 0), some (.ref 69), some (.ref 87), some (.int z), a5, a6], [.int z, .retAddr 0, .ref 69], (m + 0, k + 0), hp29)) rfl rfl ?_
    refine bs_lit (k := 1) rfl rfl fun z32 hz32 => ?_
    refine bs_add rfl (by omega) (by omega) fun z33 hz33 => ?_
    refine ls_sld rfl (by omega) (by omega) ?_
    refine (show Ev _ 311 ([some (.retAddr 0), some (.ref 0), some (.ref 69), some (.ref 87), some (.int z), a5, a6], [.int (xs z33.toNatClampNeg), .ref 69], (m + 0, k + 0), hp29) _ from ?_)
    exact by
     refine bs_callx (K := kq_X11_end_h) [.ref 69, .int (xs z33.toNatClampNeg)] [] rfl ce_X11_end_h Hhp29 rfl rfl rfl (bs_rcv (g := 11) Hhp29 (bs_R.uq Hhp29 (g := 11) rfl) (by decide) rfl) (ls_room (Nat.le_of_ble_eq_true rfl) (by omega) (by omega)) ?_ (sf_S_nil) fun r35 hp34 thp34 Hhp34 fhp34 ahp34 php34 xhp34 => ?_
     · intro q k h
       match q, h with
       | 0, h => cases h; exact bs_jR (bs_R.uq Hhp29 (g := 11) rfl)
       | 1, h => cases h; exact sf_j0
       | q + 2, h => cases h
     obtain ⟨z36, rfl⟩ := bs_anI ahp34
     have RS2 := RES_fr Hhp29 fhp34 rfl RS1
     have hc2 := (fhp34.2.2.1 _ (bs_R.uq Hhp29 (g := 8) (p := 1) rfl).1 1 (by rw [(bs_R.uq Hhp29 (g := 8) (p := 1) rfl).2]; rfl)).trans hc1
     have c2 : ∀ q, sf_rd hp34 2 q = sf_rd hp29 2 q := fun q => (fhp34.2.2.1 _ (bs_R.uq Hhp29 (g := 123) (p := 2) rfl).1 _ (by rw [(bs_R.uq Hhp29 (g := 123) (p := 2) rfl).2]; rfl))
     have hr2 := xhp34 v0 _ rfl hr1
     rw [show z33 = z28 from Int32.toInt_inj.mp (by omega)] at hr2
     have r2 : ∀ q, sf_rd hp34 70 q = sf_rd hp29 70 q := fun q => (fhp34.2.2.1 _ (bs_R.uq Hhp29 (g := 131) (p := 70) rfl).1 _ (by rw [(bs_R.uq Hhp29 (g := 131) (p := 70) rfl).2]; rfl))
     have E : lw_tb hp34 := ⟨TB_end v00 v01 T0 hc2 hr2 (fun q => (c2 q).trans (c1 q)) (fun q => (r2 q).trans (r1 q)), RS2⟩
     obtain ⟨hX2, kc2⟩ := XRW (by rfl) (by rfl) Hhp29 Hhp34 fhp34 hC1.c hX1
     have hC2 := kc2 _ hC1
     refine (show Ev _ 314 ([some (.retAddr 0), some (.ref 0), some (.ref 69), some (.ref 87), some (.int z), a5, a6], [.int z36], (m + 0 + 0, k + 0 + 0), hp34) _ from ?_)
     exact by
      refine Ev.step (j := 315) (s' := ([some (.retAddr 0), some (.ref 0), some (.ref 69), some (.ref 87), some (.int z), a5, a6], [], (m + 0 + 0, k + 0 + 0), hp34)) rfl rfl ?_
      refine Ev.step (j := 1440) (s' := ([some (.retAddr 0), some (.ref 0), some (.ref 69), some (.ref 87), some (.int z), a5, a6], [], (m + 0 + 0, k + 0 + 0), hp34)) rfl rfl ?_
      exact K _ _ _ _ _ _ Hhp34 ⟨E, D, hD, hC2, hX2⟩ (by omega) (by omega)
set_option maxRecDepth 100000 in
set_option maxHeartbeats 4000000 in
theorem op_strait {xs : Nat → Int32} {n : Nat} {z : Int32} {a5 a6 : Option Value} {m k : Nat} {hp : ab_H} {t : Nat → Nat} {Q : ab_O → Prop} (H : sf_h t hp) (hs : lw_eq hp) (hz0 : 0 ≤ z.toInt) (hz1 : z.toInt + 6 ≤ n) (hn : n ≤ 3072) (hm : m + 21 ≤ 601024) (hk : k + 410 ≤ 7293034) (K : lw_K xs n z m k Q) : Ev (LT xs n) 318 ([some (.retAddr 0), some (.ref 0), some (.ref 69), some (.ref 87), some (.int z), a5, a6], [], (m, k), hp) Q := by
  obtain ⟨hs, D, hD, hC, hX⟩ := hs
  obtain ⟨tn, htn, hsn, hn2, hbv⟩ := TB_n hs.1
  refine Ev.step (j := 319) (s' := ([some (.retAddr 0), some (.ref 0), some (.ref 69), some (.ref 87), some (.int z), a5, a6], [.ref 0], (m, k), hp)) rfl rfl ?_
  refine bs_callx (K := kq_X10_strait_v) [.ref 0] [] rfl (sf_cXE ce_X10_strait_v) H rfl rfl rfl (bs_rcv (g := 10) H (bs_R.uq H (g := 10) rfl) (by decide) rfl) (ls_room (Nat.le_of_ble_eq_true rfl) (by omega) (by omega)) ?_ (sf_S_nil) fun r38 hp37 thp37 Hhp37 fhp37 ahp37 php37 xhp37 => ?_
  · intro q k h
    match q, h with
    | 0, h => cases h; exact bs_jR (bs_R.uq H (g := 10) rfl)
    | q + 1, h => cases h
  obtain ⟨z39, rfl⟩ := bs_anI ahp37
  obtain ⟨⟨v0, hc0, hr0, v00, v01, T0⟩, RS⟩ := hs
  have RS1 := RES_fr H fhp37 rfl RS
  have hr1 : sf_rd hp37 69 2 = some v0 := (fhp37.2.2.1 _ (bs_R.uq H (g := 11) (p := 69) rfl).1 _ (by rw [(bs_R.uq H (g := 11) (p := 69) rfl).2]; rfl)).trans hr0
  have r1 : ∀ q, sf_rd hp37 70 q = sf_rd hp 70 q := fun q => (fhp37.2.2.1 _ (bs_R.uq H (g := 131) (p := 70) rfl).1 _ (by rw [(bs_R.uq H (g := 131) (p := 70) rfl).2]; rfl))
  obtain ⟨w1, f1, s1, ew1, A1, K18, hc1⟩ := xhp37.1 v0 hc0
  obtain rfl := Value.int.inj (Option.some.inj ew1)
  have hsm : sf_rd hp37 69 2 = some (tn : Int) := (fhp37.2.2.1 _ (bs_R.uq H (g := 11) (p := 69) rfl).1 _ (by rw [(bs_R.uq H (g := 11) (p := 69) rfl).2]; rfl)).trans hn2
  have hb : bv hp37 70 tn = bv hp 2 tn := (bv_same (fun q => (fhp37.2.2.1 _ (bs_R.uq H (g := 131) (p := 70) rfl).1 _ (by rw [(bs_R.uq H (g := 131) (p := 70) rfl).2]; rfl)))).trans hbv
  refine (show Ev _ 322 ([some (.retAddr 0), some (.ref 0), some (.ref 69), some (.ref 87), some (.int z), a5, a6], [.int z39], (m + 0, k + 0), hp37) _ from ?_)
  exact by
   refine Ev.step (j := 323) (s' := ([some (.retAddr 0), some (.ref 0), some (.ref 69), some (.ref 87), some (.int z), a5, a6], [], (m + 0, k + 0), hp37)) rfl rfl ?_
   refine Ev.step (j := 324) (s' := ([some (.retAddr 0), some (.ref 0), some (.ref 69), some (.ref 87), some (.int z), a5, a6], [.ref 69], (m + 0, k + 0), hp37)) rfl rfl ?_
   refine bs_callp (K := kq_X11_strait_v) [.ref 69] [] rfl (sf_cXG cp_X11_strait_v) RS1 Hhp37 rfl rfl rfl (bs_rcv (g := 11) Hhp37 (bs_R.uq Hhp37 (g := 11) rfl) (by decide) rfl) (ls_room (Nat.le_of_ble_eq_true rfl) (by omega) (by omega)) ?_ (sf_S_nil) fun r41 hp40 thp40 Hhp40 fhp40 ahp40 php40 xhp40 => ?_
   · intro q k h
     match q, h with
     | 0, h => cases h; exact bs_jR (bs_R.uq Hhp37 (g := 11) rfl)
     | q + 1, h => cases h
   obtain ⟨z42, rfl⟩ := bs_anI ahp40
   have RS2 := RES_fr Hhp37 fhp40 rfl RS1
   have hc2 := (fhp40.2.2.1 _ (bs_R.uq Hhp37 (g := 8) (p := 1) rfl).1 1 (by rw [(bs_R.uq Hhp37 (g := 8) (p := 1) rfl).2]; rfl)).trans hc1
   obtain ⟨w2, f2, s2, ew2, A2, hr2⟩ := xhp40.1 v0 hr1
   obtain rfl := Value.int.inj (Option.some.inj ew2)
   rw [(bv_same r1).trans (TB_bv T0)] at A2
   have EA := (ANS_one A1 A2).1
   have E : lw_tb hp40 := ⟨TB_zero hc2 hr2, RS2⟩
   obtain ⟨⟨D2, hD2, hC2, hX2⟩, ef⟩ := lw_strait H Hhp37 ce_X8_moveInto_v hD hC hX htn hsn hsm hb xhp37.2 xhp40.2
   refine (show Ev _ 327 ([some (.retAddr 0), some (.ref 0), some (.ref 69), some (.ref 87), some (.int z), a5, a6], [.int z42], (m + 0 + 0, k + 0 + 0), hp40) _ from ?_)
   exact by
    refine Ev.step (j := 328) (s' := ([some (.retAddr 0), some (.ref 0), some (.ref 69), some (.ref 87), some (.int z), a5, a6], [], (m + 0 + 0, k + 0 + 0), hp40)) rfl rfl ?_
    refine Ev.step (j := 1440) (s' := ([some (.retAddr 0), some (.ref 0), some (.ref 69), some (.ref 87), some (.int z), a5, a6], [], (m + 0 + 0, k + 0 + 0), hp40)) rfl rfl ?_
    exact K _ _ _ _ _ _ Hhp40 ⟨E, D2, hD2, hC2, hX2⟩ (by omega) (by omega)
set_option maxRecDepth 100000 in
set_option maxHeartbeats 4000000 in
theorem op_fault {xs : Nat → Int32} {n : Nat} {z : Int32} {a5 a6 : Option Value} {m k : Nat} {hp : ab_H} {t : Nat → Nat} {Q : ab_O → Prop} (H : sf_h t hp) (hs : lw_eq hp) (hz0 : 0 ≤ z.toInt) (hz1 : z.toInt + 6 ≤ n) (hn : n ≤ 3072) (hm : m + 21 ≤ 601024) (hk : k + 410 ≤ 7293034) (K : lw_K xs n z m k Q) : Ev (LT xs n) 331 ([some (.retAddr 0), some (.ref 0), some (.ref 69), some (.ref 87), some (.int z), a5, a6], [], (m, k), hp) Q := by
  obtain ⟨hs, D, hD, hC, hX⟩ := hs
  refine Ev.step (j := 332) (s' := ([some (.retAddr 0), some (.ref 0), some (.ref 69), some (.ref 87), some (.int z), a5, a6], [.ref 0], (m, k), hp)) rfl rfl ?_
  refine bs_callx (K := kq_X10_fault_4c18a7) [.ref 0] [] rfl (sf_cX ct_X10_fault_4c18a7) H rfl rfl rfl (bs_rcv (g := 10) H (bs_R.uq H (g := 10) rfl) (by decide) rfl) (ls_room (Nat.le_of_ble_eq_true rfl) (by omega) (by omega)) ?_ (sf_S_nil) fun r44 hp43 thp43 Hhp43 fhp43 ahp43 php43 xhp43 => ?_
  · intro q k h
    match q, h with
    | 0, h => cases h; exact bs_jR (bs_R.uq H (g := 10) rfl)
    | q + 1, h => cases h
  obtain ⟨z45, rfl⟩ := bs_anI ahp43
  have E46 := lw_keep H fhp43 rfl rfl rfl rfl rfl hs
  obtain ⟨ew1, hC1, hX1⟩ := pC H (d_fault hC) xhp43 hX
  refine (show Ev _ 335 ([some (.retAddr 0), some (.ref 0), some (.ref 69), some (.ref 87), some (.int z), a5, a6], [.int z45], (m + 0, k + 0), hp43) _ from ?_)
  refine Ev.step (j := 336) (s' := ([some (.retAddr 0), some (.ref 0), some (.ref 69), some (.ref 87), some (.int z), a5, a6], [], (m + 0, k + 0), hp43)) rfl rfl ?_
  exact by
   refine Ev.step (j := 337) (s' := ([some (.retAddr 0), some (.ref 0), some (.ref 69), some (.ref 87), some (.int z), a5, a6], [.ref 69], (m + 0, k + 0), hp43)) rfl rfl ?_
   refine bs_callx (K := kq_X11_fault_6afe8b) [.ref 69] [] rfl (sf_cX ct_X11_fault_6afe8b) Hhp43 rfl rfl rfl (bs_rcv (g := 11) Hhp43 (bs_R.uq Hhp43 (g := 11) rfl) (by decide) rfl) (ls_room (Nat.le_of_ble_eq_true rfl) (by omega) (by omega)) ?_ (sf_S_nil) fun r48 hp47 thp47 Hhp47 fhp47 ahp47 php47 xhp47 => ?_
   · intro q k h
     match q, h with
     | 0, h => cases h; exact bs_jR (bs_R.uq Hhp43 (g := 11) rfl)
     | q + 1, h => cases h
   obtain ⟨z49, rfl⟩ := bs_anI ahp47
   have E50 := lw_keep Hhp43 fhp47 rfl rfl rfl rfl rfl E46
   obtain ⟨ew2, hX2, hC2⟩ := pX Hhp43 (e_fault hX1) xhp47 hC1
   refine (show Ev _ 340 ([some (.retAddr 0), some (.ref 0), some (.ref 69), some (.ref 87), some (.int z), a5, a6], [.int z49], (m + 0 + 0, k + 0 + 0), hp47) _ from ?_)
   refine Ev.step (j := 341) (s' := ([some (.retAddr 0), some (.ref 0), some (.ref 69), some (.ref 87), some (.int z), a5, a6], [], (m + 0 + 0, k + 0 + 0), hp47)) rfl rfl ?_
   refine Ev.step (j := 1440) (s' := ([some (.retAddr 0), some (.ref 0), some (.ref 69), some (.ref 87), some (.int z), a5, a6], [], (m + 0 + 0, k + 0 + 0), hp47)) rfl rfl ?_
   exact K _ _ _ _ _ _ Hhp47 ⟨E50, _, hD, hC2, hX2⟩ (by omega) (by omega)
set_option maxRecDepth 100000 in
set_option maxHeartbeats 4000000 in
theorem op_good {xs : Nat → Int32} {n : Nat} {z : Int32} {a5 a6 : Option Value} {m k : Nat} {hp : ab_H} {t : Nat → Nat} {Q : ab_O → Prop} (H : sf_h t hp) (hs : lw_eq hp) (hz0 : 0 ≤ z.toInt) (hz1 : z.toInt + 6 ≤ n) (hn : n ≤ 3072) (hm : m + 21 ≤ 601024) (hk : k + 410 ≤ 7293034) (K : lw_K xs n z m k Q) : Ev (LT xs n) 344 ([some (.retAddr 0), some (.ref 0), some (.ref 69), some (.ref 87), some (.int z), a5, a6], [], (m, k), hp) Q := by
  obtain ⟨hs, D, hD, hC, hX⟩ := hs
  refine Ev.step (j := 345) (s' := ([some (.retAddr 0), some (.ref 0), some (.ref 69), some (.ref 87), some (.int z), a5, a6], [.ref 0], (m, k), hp)) rfl rfl ?_
  refine Ev.step (j := 346) (s' := ([some (.retAddr 0), some (.ref 0), some (.ref 69), some (.ref 87), some (.int z), a5, a6], [.retAddr 0, .ref 0], (m, k), hp)) rfl rfl ?_
  refine Ev.step (j := 348) (s' := ([some (.retAddr 0), some (.ref 0), some (.ref 69), some (.ref 87), some (.int z), a5, a6], [.int z, .retAddr 0, .ref 0], (m, k), hp)) rfl rfl ?_
  refine bs_lit (k := 1) rfl rfl fun z51 hz51 => ?_
  refine bs_add rfl (by omega) (by omega) fun z52 hz52 => ?_
  refine ls_sld rfl (by omega) (by omega) ?_
  refine (show Ev _ 351 ([some (.retAddr 0), some (.ref 0), some (.ref 69), some (.ref 87), some (.int z), a5, a6], [.int (xs z52.toNatClampNeg), .ref 0], (m, k), hp) _ from ?_)
  exact by
   refine Ev.step (j := 352) (s' := ([some (.retAddr 0), some (.ref 0), some (.ref 69), some (.ref 87), some (.int z), a5, a6], [.retAddr 0, .int (xs z52.toNatClampNeg), .ref 0], (m, k), hp)) rfl rfl ?_
   refine Ev.step (j := 354) (s' := ([some (.retAddr 0), some (.ref 0), some (.ref 69), some (.ref 87), some (.int z), a5, a6], [.int z, .retAddr 0, .int (xs z52.toNatClampNeg), .ref 0], (m, k), hp)) rfl rfl ?_
   refine bs_lit (k := 2) rfl rfl fun z53 hz53 => ?_
   refine bs_add rfl (by omega) (by omega) fun z54 hz54 => ?_
   refine ls_sld rfl (by omega) (by omega) ?_
   refine (show Ev _ 357 ([some (.retAddr 0), some (.ref 0), some (.ref 69), some (.ref 87), some (.int z), a5, a6], [.int (xs z54.toNatClampNeg), .int (xs z52.toNatClampNeg), .ref 0], (m, k), hp) _ from ?_)
   refine Ev.step (j := 358) (s' := ([some (.retAddr 0), some (.ref 0), some (.ref 69), some (.ref 87), some (.int z), a5, a6], [.retAddr 0, .int (xs z54.toNatClampNeg), .int (xs z52.toNatClampNeg), .ref 0], (m, k), hp)) rfl rfl ?_
   refine Ev.step (j := 360) (s' := ([some (.retAddr 0), some (.ref 0), some (.ref 69), some (.ref 87), some (.int z), a5, a6], [.int z, .retAddr 0, .int (xs z54.toNatClampNeg), .int (xs z52.toNatClampNeg), .ref 0], (m, k), hp)) rfl rfl ?_
   exact by
    refine bs_lit (k := 3) rfl rfl fun z55 hz55 => ?_
    refine bs_add rfl (by omega) (by omega) fun z56 hz56 => ?_
    refine ls_sld rfl (by omega) (by omega) ?_
    refine (show Ev _ 363 ([some (.retAddr 0), some (.ref 0), some (.ref 69), some (.ref 87), some (.int z), a5, a6], [.int (xs z56.toNatClampNeg), .int (xs z54.toNatClampNeg), .int (xs z52.toNatClampNeg), .ref 0], (m, k), hp) _ from ?_)
    refine bs_callx (K := kq_X10_good_7e6f69) [.ref 0, .int (xs z52.toNatClampNeg), .int (xs z54.toNatClampNeg), .int (xs z56.toNatClampNeg)] [] rfl (sf_cX ct_X10_good_7e6f69) H rfl rfl rfl (bs_rcv (g := 10) H (bs_R.uq H (g := 10) rfl) (by decide) rfl) (ls_room (Nat.le_of_ble_eq_true rfl) (by omega) (by omega)) ?_ (sf_S_nil) fun r58 hp57 thp57 Hhp57 fhp57 ahp57 php57 xhp57 => ?_
    · intro q k h
      match q, h with
      | 0, h => cases h; exact bs_jR (bs_R.uq H (g := 10) rfl)
      | 1, h => cases h; exact sf_j0
      | 2, h => cases h; exact sf_j0
      | 3, h => cases h; exact sf_j0
      | q + 4, h => cases h
    obtain ⟨z59, rfl⟩ := bs_anI ahp57
    have E60 := lw_keep H fhp57 rfl rfl rfl rfl rfl hs
    obtain ⟨ew1, hC1, hX1⟩ := pC H (d_good hC hD _ _ _) xhp57 hX
    refine (show Ev _ 366 ([some (.retAddr 0), some (.ref 0), some (.ref 69), some (.ref 87), some (.int z), a5, a6], [.int z59], (m + 0, k + 0), hp57) _ from ?_)
    exact by
     refine Ev.step (j := 367) (s' := ([some (.retAddr 0), some (.ref 0), some (.ref 69), some (.ref 87), some (.int z), a5, a6], [], (m + 0, k + 0), hp57)) rfl rfl ?_
     refine Ev.step (j := 368) (s' := ([some (.retAddr 0), some (.ref 0), some (.ref 69), some (.ref 87), some (.int z), a5, a6], [.ref 69], (m + 0, k + 0), hp57)) rfl rfl ?_
     refine Ev.step (j := 369) (s' := ([some (.retAddr 0), some (.ref 0), some (.ref 69), some (.ref 87), some (.int z), a5, a6], [.retAddr 0, .ref 69], (m + 0, k + 0), hp57)) rfl rfl ?_
     refine Ev.step (j := 371) (s' := ([some (.retAddr 0), some (.ref 0), some (.ref 69), some (.ref 87), some (.int z), a5, a6], [.int z, .retAddr 0, .ref 69], (m + 0, k + 0), hp57)) rfl rfl ?_
     refine bs_lit (k := 1) rfl rfl fun z61 hz61 => ?_
     refine bs_add rfl (by omega) (by omega) fun z62 hz62 => ?_
     refine ls_sld rfl (by omega) (by omega) ?_
     refine (show Ev _ 374 ([some (.retAddr 0), some (.ref 0), some (.ref 69), some (.ref 87), some (.int z), a5, a6], [.int (xs z62.toNatClampNeg), .ref 69], (m + 0, k + 0), hp57) _ from ?_)
     exact by
      refine Ev.step (j := 375) (s' := ([some (.retAddr 0), some (.ref 0), some (.ref 69), some (.ref 87), some (.int z), a5, a6], [.retAddr 0, .int (xs z62.toNatClampNeg), .ref 69], (m + 0, k + 0), hp57)) rfl rfl ?_
      refine Ev.step (j := 377) (s' := ([some (.retAddr 0), some (.ref 0), some (.ref 69), some (.ref 87), some (.int z), a5, a6], [.int z, .retAddr 0, .int (xs z62.toNatClampNeg), .ref 69], (m + 0, k + 0), hp57)) rfl rfl ?_
      refine bs_lit (k := 2) rfl rfl fun z63 hz63 => ?_
      refine bs_add rfl (by omega) (by omega) fun z64 hz64 => ?_
      refine ls_sld rfl (by omega) (by omega) ?_
      refine (show Ev _ 380 ([some (.retAddr 0), some (.ref 0), some (.ref 69), some (.ref 87), some (.int z), a5, a6], [.int (xs z64.toNatClampNeg), .int (xs z62.toNatClampNeg), .ref 69], (m + 0, k + 0), hp57) _ from ?_)
      refine Ev.step (j := 381) (s' := ([some (.retAddr 0), some (.ref 0), some (.ref 69), some (.ref 87), some (.int z), a5, a6], [.retAddr 0, .int (xs z64.toNatClampNeg), .int (xs z62.toNatClampNeg), .ref 69], (m + 0, k + 0), hp57)) rfl rfl ?_
      refine Ev.step (j := 383) (s' := ([some (.retAddr 0), some (.ref 0), some (.ref 69), some (.ref 87), some (.int z), a5, a6], [.int z, .retAddr 0, .int (xs z64.toNatClampNeg), .int (xs z62.toNatClampNeg), .ref 69], (m + 0, k + 0), hp57)) rfl rfl ?_
      exact by
       refine bs_lit (k := 3) rfl rfl fun z65 hz65 => ?_
       refine bs_add rfl (by omega) (by omega) fun z66 hz66 => ?_
       refine ls_sld rfl (by omega) (by omega) ?_
       refine (show Ev _ 386 ([some (.retAddr 0), some (.ref 0), some (.ref 69), some (.ref 87), some (.int z), a5, a6], [.int (xs z66.toNatClampNeg), .int (xs z64.toNatClampNeg), .int (xs z62.toNatClampNeg), .ref 69], (m + 0, k + 0), hp57) _ from ?_)
       refine bs_callx (K := kq_X11_good_3518ea) [.ref 69, .int (xs z62.toNatClampNeg), .int (xs z64.toNatClampNeg), .int (xs z66.toNatClampNeg)] [] rfl (sf_cX ct_X11_good_3518ea) Hhp57 rfl rfl rfl (bs_rcv (g := 11) Hhp57 (bs_R.uq Hhp57 (g := 11) rfl) (by decide) rfl) (ls_room (Nat.le_of_ble_eq_true rfl) (by omega) (by omega)) ?_ (sf_S_nil) fun r68 hp67 thp67 Hhp67 fhp67 ahp67 php67 xhp67 => ?_
       · intro q k h
         match q, h with
         | 0, h => cases h; exact bs_jR (bs_R.uq Hhp57 (g := 11) rfl)
         | 1, h => cases h; exact sf_j0
         | 2, h => cases h; exact sf_j0
         | 3, h => cases h; exact sf_j0
         | q + 4, h => cases h
       obtain ⟨z69, rfl⟩ := bs_anI ahp67
       have E70 := lw_keep Hhp57 fhp67 rfl rfl rfl rfl rfl E60
       rw [show z62 = z52 from Int32.toInt_inj.mp (by omega)] at xhp67
       rw [show z64 = z54 from Int32.toInt_inj.mp (by omega)] at xhp67
       rw [show z66 = z56 from Int32.toInt_inj.mp (by omega)] at xhp67
       obtain ⟨ew2, hX2, hC2⟩ := pX Hhp57 (e_good hX1 hD _ _ _) xhp67 hC1
       refine (show Ev _ 389 ([some (.retAddr 0), some (.ref 0), some (.ref 69), some (.ref 87), some (.int z), a5, a6], [.int z69], (m + 0 + 0, k + 0 + 0), hp67) _ from ?_)
       exact by
        refine Ev.step (j := 390) (s' := ([some (.retAddr 0), some (.ref 0), some (.ref 69), some (.ref 87), some (.int z), a5, a6], [], (m + 0 + 0, k + 0 + 0), hp67)) rfl rfl ?_
        refine Ev.step (j := 1440) (s' := ([some (.retAddr 0), some (.ref 0), some (.ref 69), some (.ref 87), some (.int z), a5, a6], [], (m + 0 + 0, k + 0 + 0), hp67)) rfl rfl ?_
        exact K _ _ _ _ _ _ Hhp67 ⟨E70, _, hD, hC2, hX2⟩ (by omega) (by omega)
set_option maxRecDepth 100000 in
set_option maxHeartbeats 4000000 in
theorem op_crossed {xs : Nat → Int32} {n : Nat} {z : Int32} {a5 a6 : Option Value} {m k : Nat} {hp : ab_H} {t : Nat → Nat} {Q : ab_O → Prop} (H : sf_h t hp) (hs : lw_eq hp) (hz0 : 0 ≤ z.toInt) (hz1 : z.toInt + 6 ≤ n) (hn : n ≤ 3072) (hm : m + 21 ≤ 601024) (hk : k + 410 ≤ 7293034) (K : lw_K xs n z m k Q) : Ev (LT xs n) 393 ([some (.retAddr 0), some (.ref 0), some (.ref 69), some (.ref 87), some (.int z), a5, a6], [], (m, k), hp) Q := by
  obtain ⟨hs, D, hD, hC, hX⟩ := hs
  refine Ev.step (j := 394) (s' := ([some (.retAddr 0), some (.ref 0), some (.ref 69), some (.ref 87), some (.int z), a5, a6], [.ref 0], (m, k), hp)) rfl rfl ?_
  refine Ev.step (j := 395) (s' := ([some (.retAddr 0), some (.ref 0), some (.ref 69), some (.ref 87), some (.int z), a5, a6], [.retAddr 0, .ref 0], (m, k), hp)) rfl rfl ?_
  refine Ev.step (j := 397) (s' := ([some (.retAddr 0), some (.ref 0), some (.ref 69), some (.ref 87), some (.int z), a5, a6], [.int z, .retAddr 0, .ref 0], (m, k), hp)) rfl rfl ?_
  refine bs_lit (k := 1) rfl rfl fun z71 hz71 => ?_
  refine bs_add rfl (by omega) (by omega) fun z72 hz72 => ?_
  refine ls_sld rfl (by omega) (by omega) ?_
  refine (show Ev _ 400 ([some (.retAddr 0), some (.ref 0), some (.ref 69), some (.ref 87), some (.int z), a5, a6], [.int (xs z72.toNatClampNeg), .ref 0], (m, k), hp) _ from ?_)
  exact by
   refine Ev.step (j := 401) (s' := ([some (.retAddr 0), some (.ref 0), some (.ref 69), some (.ref 87), some (.int z), a5, a6], [.retAddr 0, .int (xs z72.toNatClampNeg), .ref 0], (m, k), hp)) rfl rfl ?_
   refine Ev.step (j := 403) (s' := ([some (.retAddr 0), some (.ref 0), some (.ref 69), some (.ref 87), some (.int z), a5, a6], [.int z, .retAddr 0, .int (xs z72.toNatClampNeg), .ref 0], (m, k), hp)) rfl rfl ?_
   refine bs_lit (k := 2) rfl rfl fun z73 hz73 => ?_
   refine bs_add rfl (by omega) (by omega) fun z74 hz74 => ?_
   refine ls_sld rfl (by omega) (by omega) ?_
   refine (show Ev _ 406 ([some (.retAddr 0), some (.ref 0), some (.ref 69), some (.ref 87), some (.int z), a5, a6], [.int (xs z74.toNatClampNeg), .int (xs z72.toNatClampNeg), .ref 0], (m, k), hp) _ from ?_)
   refine bs_callx (K := kq_X10_crossed_57b5ea) [.ref 0, .int (xs z72.toNatClampNeg), .int (xs z74.toNatClampNeg)] [] rfl (sf_cX ct_X10_crossed_57b5ea) H rfl rfl rfl (bs_rcv (g := 10) H (bs_R.uq H (g := 10) rfl) (by decide) rfl) (ls_room (Nat.le_of_ble_eq_true rfl) (by omega) (by omega)) ?_ (sf_S_nil) fun r76 hp75 thp75 Hhp75 fhp75 ahp75 php75 xhp75 => ?_
   · intro q k h
     match q, h with
     | 0, h => cases h; exact bs_jR (bs_R.uq H (g := 10) rfl)
     | 1, h => cases h; exact sf_j0
     | 2, h => cases h; exact sf_j0
     | q + 3, h => cases h
   obtain ⟨z77, rfl⟩ := bs_anI ahp75
   have E78 := lw_keep H fhp75 rfl rfl rfl rfl rfl hs
   obtain ⟨ew1, hC1, hX1⟩ := pC H (d_crossed hC hD _ _) xhp75 hX
   refine (show Ev _ 409 ([some (.retAddr 0), some (.ref 0), some (.ref 69), some (.ref 87), some (.int z), a5, a6], [.int z77], (m + 0, k + 0), hp75) _ from ?_)
   exact by
    refine Ev.step (j := 410) (s' := ([some (.retAddr 0), some (.ref 0), some (.ref 69), some (.ref 87), some (.int z), a5, a6], [], (m + 0, k + 0), hp75)) rfl rfl ?_
    refine Ev.step (j := 411) (s' := ([some (.retAddr 0), some (.ref 0), some (.ref 69), some (.ref 87), some (.int z), a5, a6], [.ref 69], (m + 0, k + 0), hp75)) rfl rfl ?_
    refine Ev.step (j := 412) (s' := ([some (.retAddr 0), some (.ref 0), some (.ref 69), some (.ref 87), some (.int z), a5, a6], [.retAddr 0, .ref 69], (m + 0, k + 0), hp75)) rfl rfl ?_
    refine Ev.step (j := 414) (s' := ([some (.retAddr 0), some (.ref 0), some (.ref 69), some (.ref 87), some (.int z), a5, a6], [.int z, .retAddr 0, .ref 69], (m + 0, k + 0), hp75)) rfl rfl ?_
    refine bs_lit (k := 1) rfl rfl fun z79 hz79 => ?_
    refine bs_add rfl (by omega) (by omega) fun z80 hz80 => ?_
    refine ls_sld rfl (by omega) (by omega) ?_
    refine (show Ev _ 417 ([some (.retAddr 0), some (.ref 0), some (.ref 69), some (.ref 87), some (.int z), a5, a6], [.int (xs z80.toNatClampNeg), .ref 69], (m + 0, k + 0), hp75) _ from ?_)
    exact by
     refine Ev.step (j := 418) (s' := ([some (.retAddr 0), some (.ref 0), some (.ref 69), some (.ref 87), some (.int z), a5, a6], [.retAddr 0, .int (xs z80.toNatClampNeg), .ref 69], (m + 0, k + 0), hp75)) rfl rfl ?_
     refine Ev.step (j := 420) (s' := ([some (.retAddr 0), some (.ref 0), some (.ref 69), some (.ref 87), some (.int z), a5, a6], [.int z, .retAddr 0, .int (xs z80.toNatClampNeg), .ref 69], (m + 0, k + 0), hp75)) rfl rfl ?_
     refine bs_lit (k := 2) rfl rfl fun z81 hz81 => ?_
     refine bs_add rfl (by omega) (by omega) fun z82 hz82 => ?_
     refine ls_sld rfl (by omega) (by omega) ?_
     refine (show Ev _ 423 ([some (.retAddr 0), some (.ref 0), some (.ref 69), some (.ref 87), some (.int z), a5, a6], [.int (xs z82.toNatClampNeg), .int (xs z80.toNatClampNeg), .ref 69], (m + 0, k + 0), hp75) _ from ?_)
     refine bs_callx (K := kq_X11_crossed_334faa) [.ref 69, .int (xs z80.toNatClampNeg), .int (xs z82.toNatClampNeg)] [] rfl (sf_cX ct_X11_crossed_334faa) Hhp75 rfl rfl rfl (bs_rcv (g := 11) Hhp75 (bs_R.uq Hhp75 (g := 11) rfl) (by decide) rfl) (ls_room (Nat.le_of_ble_eq_true rfl) (by omega) (by omega)) ?_ (sf_S_nil) fun r84 hp83 thp83 Hhp83 fhp83 ahp83 php83 xhp83 => ?_
     · intro q k h
       match q, h with
       | 0, h => cases h; exact bs_jR (bs_R.uq Hhp75 (g := 11) rfl)
       | 1, h => cases h; exact sf_j0
       | 2, h => cases h; exact sf_j0
       | q + 3, h => cases h
     obtain ⟨z85, rfl⟩ := bs_anI ahp83
     have E86 := lw_keep Hhp75 fhp83 rfl rfl rfl rfl rfl E78
     rw [show z80 = z72 from Int32.toInt_inj.mp (by omega)] at xhp83
     rw [show z82 = z74 from Int32.toInt_inj.mp (by omega)] at xhp83
     obtain ⟨ew2, hX2, hC2⟩ := pX Hhp75 (e_crossed hX1 hD _ _) xhp83 hC1
     refine (show Ev _ 426 ([some (.retAddr 0), some (.ref 0), some (.ref 69), some (.ref 87), some (.int z), a5, a6], [.int z85], (m + 0 + 0, k + 0 + 0), hp83) _ from ?_)
     exact by
      refine Ev.step (j := 427) (s' := ([some (.retAddr 0), some (.ref 0), some (.ref 69), some (.ref 87), some (.int z), a5, a6], [], (m + 0 + 0, k + 0 + 0), hp83)) rfl rfl ?_
      refine Ev.step (j := 1440) (s' := ([some (.retAddr 0), some (.ref 0), some (.ref 69), some (.ref 87), some (.int z), a5, a6], [], (m + 0 + 0, k + 0 + 0), hp83)) rfl rfl ?_
      exact K _ _ _ _ _ _ Hhp83 ⟨E86, _, hD, hC2, hX2⟩ (by omega) (by omega)
set_option maxRecDepth 100000 in
set_option maxHeartbeats 4000000 in
theorem op_man {xs : Nat → Int32} {n : Nat} {z : Int32} {a5 a6 : Option Value} {m k : Nat} {hp : ab_H} {t : Nat → Nat} {Q : ab_O → Prop} (H : sf_h t hp) (hs : lw_eq hp) (hz0 : 0 ≤ z.toInt) (hz1 : z.toInt + 6 ≤ n) (hn : n ≤ 3072) (hm : m + 21 ≤ 601024) (hk : k + 410 ≤ 7293034) (K : lw_K xs n z m k Q) : Ev (LT xs n) 430 ([some (.retAddr 0), some (.ref 0), some (.ref 69), some (.ref 87), some (.int z), a5, a6], [], (m, k), hp) Q := by
  obtain ⟨hs, D, hD, hC, hX⟩ := hs
  refine Ev.step (j := 431) (s' := ([some (.retAddr 0), some (.ref 0), some (.ref 69), some (.ref 87), some (.int z), a5, a6], [.ref 0], (m, k), hp)) rfl rfl ?_
  refine Ev.step (j := 432) (s' := ([some (.retAddr 0), some (.ref 0), some (.ref 69), some (.ref 87), some (.int z), a5, a6], [.retAddr 0, .ref 0], (m, k), hp)) rfl rfl ?_
  refine Ev.step (j := 434) (s' := ([some (.retAddr 0), some (.ref 0), some (.ref 69), some (.ref 87), some (.int z), a5, a6], [.int z, .retAddr 0, .ref 0], (m, k), hp)) rfl rfl ?_
  refine bs_lit (k := 1) rfl rfl fun z87 hz87 => ?_
  refine bs_add rfl (by omega) (by omega) fun z88 hz88 => ?_
  refine ls_sld rfl (by omega) (by omega) ?_
  refine (show Ev _ 437 ([some (.retAddr 0), some (.ref 0), some (.ref 69), some (.ref 87), some (.int z), a5, a6], [.int (xs z88.toNatClampNeg), .ref 0], (m, k), hp) _ from ?_)
  exact by
   refine Ev.step (j := 438) (s' := ([some (.retAddr 0), some (.ref 0), some (.ref 69), some (.ref 87), some (.int z), a5, a6], [.retAddr 0, .int (xs z88.toNatClampNeg), .ref 0], (m, k), hp)) rfl rfl ?_
   refine Ev.step (j := 440) (s' := ([some (.retAddr 0), some (.ref 0), some (.ref 69), some (.ref 87), some (.int z), a5, a6], [.int z, .retAddr 0, .int (xs z88.toNatClampNeg), .ref 0], (m, k), hp)) rfl rfl ?_
   refine bs_lit (k := 2) rfl rfl fun z89 hz89 => ?_
   refine bs_add rfl (by omega) (by omega) fun z90 hz90 => ?_
   refine ls_sld rfl (by omega) (by omega) ?_
   refine (show Ev _ 443 ([some (.retAddr 0), some (.ref 0), some (.ref 69), some (.ref 87), some (.int z), a5, a6], [.int (xs z90.toNatClampNeg), .int (xs z88.toNatClampNeg), .ref 0], (m, k), hp) _ from ?_)
   refine Ev.step (j := 444) (s' := ([some (.retAddr 0), some (.ref 0), some (.ref 69), some (.ref 87), some (.int z), a5, a6], [.ref 87, .int (xs z90.toNatClampNeg), .int (xs z88.toNatClampNeg), .ref 0], (m, k), hp)) rfl rfl ?_
   refine bs_callS (K := kq_L_man) [.ref 0, .int (xs z88.toNatClampNeg), .int (xs z90.toNatClampNeg), .ref 87] [] rfl ct_L_man H rfl rfl rfl (ls_room (Nat.le_of_ble_eq_true rfl) (by omega) (by omega)) ?_ (sf_S_nil) fun r92 hp91 thp91 Hhp91 fhp91 ahp91 php91 => ?_
   · intro q k h
     match q, h with
     | 0, h => cases h; exact bs_jR (bs_R.uq H (g := 10) rfl)
     | 1, h => cases h; exact sf_j0
     | 2, h => cases h; exact sf_j0
     | 3, h => cases h; exact bs_jR (bs_R.uq H (g := 148) rfl)
     | q + 4, h => cases h
   obtain ⟨z93, rfl⟩ := bs_anI ahp91
   have E94 := lw_keep H fhp91 rfl rfl rfl rfl rfl hs
   obtain ⟨hC1, kx1⟩ := CRW (by rfl) H Hhp91 fhp91 hC
   have hX1 := kx1 _ hX
   refine (show Ev _ 447 ([some (.retAddr 0), some (.ref 0), some (.ref 69), some (.ref 87), some (.int z), a5, a6], [.int z93], (m + 1, k + 6), hp91) _ from ?_)
   exact by
    refine Ev.step (j := 449) (s' := ([some (.retAddr 0), some (.ref 0), some (.ref 69), some (.ref 87), some (.int z), (some (.int z93)), a6], [], (m + 1, k + 6), hp91)) rfl rfl ?_
    refine Ev.step (j := 450) (s' := ([some (.retAddr 0), some (.ref 0), some (.ref 69), some (.ref 87), some (.int z), (some (.int z93)), a6], [.ref 69], (m + 1, k + 6), hp91)) rfl rfl ?_
    refine Ev.step (j := 451) (s' := ([some (.retAddr 0), some (.ref 0), some (.ref 69), some (.ref 87), some (.int z), (some (.int z93)), a6], [.retAddr 0, .ref 69], (m + 1, k + 6), hp91)) rfl rfl ?_
    refine Ev.step (j := 453) (s' := ([some (.retAddr 0), some (.ref 0), some (.ref 69), some (.ref 87), some (.int z), (some (.int z93)), a6], [.int z, .retAddr 0, .ref 69], (m + 1, k + 6), hp91)) rfl rfl ?_
    refine bs_lit (k := 1) rfl rfl fun z95 hz95 => ?_
    refine bs_add rfl (by omega) (by omega) fun z96 hz96 => ?_
    refine ls_sld rfl (by omega) (by omega) ?_
    refine (show Ev _ 456 ([some (.retAddr 0), some (.ref 0), some (.ref 69), some (.ref 87), some (.int z), (some (.int z93)), a6], [.int (xs z96.toNatClampNeg), .ref 69], (m + 1, k + 6), hp91) _ from ?_)
    exact by
     refine Ev.step (j := 457) (s' := ([some (.retAddr 0), some (.ref 0), some (.ref 69), some (.ref 87), some (.int z), (some (.int z93)), a6], [.retAddr 0, .int (xs z96.toNatClampNeg), .ref 69], (m + 1, k + 6), hp91)) rfl rfl ?_
     refine Ev.step (j := 459) (s' := ([some (.retAddr 0), some (.ref 0), some (.ref 69), some (.ref 87), some (.int z), (some (.int z93)), a6], [.int z, .retAddr 0, .int (xs z96.toNatClampNeg), .ref 69], (m + 1, k + 6), hp91)) rfl rfl ?_
     refine bs_lit (k := 2) rfl rfl fun z97 hz97 => ?_
     refine bs_add rfl (by omega) (by omega) fun z98 hz98 => ?_
     refine ls_sld rfl (by omega) (by omega) ?_
     refine (show Ev _ 462 ([some (.retAddr 0), some (.ref 0), some (.ref 69), some (.ref 87), some (.int z), (some (.int z93)), a6], [.int (xs z98.toNatClampNeg), .int (xs z96.toNatClampNeg), .ref 69], (m + 1, k + 6), hp91) _ from ?_)
     refine bs_call (K := kq_X11_man_h) [.ref 69, .int (xs z96.toNatClampNeg), .int (xs z98.toNatClampNeg)] [] rfl ct_X11_man_h Hhp91 rfl rfl rfl (bs_rcv (g := 11) Hhp91 (bs_R.uq Hhp91 (g := 11) rfl) (by decide) rfl) (ls_room (Nat.le_of_ble_eq_true rfl) (by omega) (by omega)) ?_ (sf_S_nil) fun r100 hp99 thp99 Hhp99 fhp99 ahp99 php99 => ?_
     · intro q k h
       match q, h with
       | 0, h => cases h; exact bs_jR (bs_R.uq Hhp91 (g := 11) rfl)
       | 1, h => cases h; exact sf_j0
       | 2, h => cases h; exact sf_j0
       | q + 3, h => cases h
     obtain ⟨z101, rfl⟩ := bs_anI ahp99
     have E102 := lw_keep Hhp91 fhp99 rfl rfl rfl rfl rfl E94
     obtain ⟨hX2, kc2⟩ := XRW (by rfl) (by rfl) Hhp91 Hhp99 fhp99 hC1.c hX1
     have hC2 := kc2 _ hC1
     refine (show Ev _ 465 ([some (.retAddr 0), some (.ref 0), some (.ref 69), some (.ref 87), some (.int z), (some (.int z93)), a6], [.int z101], (m + 1 + 0, k + 6 + 0), hp99) _ from ?_)
     exact by
      refine Ev.step (j := 467) (s' := ([some (.retAddr 0), some (.ref 0), some (.ref 69), some (.ref 87), some (.int z), (some (.int z93)), (some (.int z101))], [], (m + 1 + 0, k + 6 + 0), hp99)) rfl rfl ?_
      refine Ev.step (j := 1440) (s' := ([some (.retAddr 0), some (.ref 0), some (.ref 69), some (.ref 87), some (.int z), (some (.int z93)), (some (.int z101))], [], (m + 1 + 0, k + 6 + 0), hp99)) rfl rfl ?_
      exact K _ _ _ _ _ _ Hhp99 ⟨E102, D, hD, hC2, hX2⟩ (by omega) (by omega)
set_option maxRecDepth 100000 in
set_option maxHeartbeats 4000000 in
theorem op_apart {xs : Nat → Int32} {n : Nat} {z : Int32} {a5 a6 : Option Value} {m k : Nat} {hp : ab_H} {t : Nat → Nat} {Q : ab_O → Prop} (H : sf_h t hp) (hs : lw_eq hp) (hz0 : 0 ≤ z.toInt) (hz1 : z.toInt + 6 ≤ n) (hn : n ≤ 3072) (hm : m + 21 ≤ 601024) (hk : k + 410 ≤ 7293034) (K : lw_K xs n z m k Q) : Ev (LT xs n) 470 ([some (.retAddr 0), some (.ref 0), some (.ref 69), some (.ref 87), some (.int z), a5, a6], [], (m, k), hp) Q := by
  obtain ⟨hs, D, hD, hC, hX⟩ := hs
  refine Ev.step (j := 471) (s' := ([some (.retAddr 0), some (.ref 0), some (.ref 69), some (.ref 87), some (.int z), a5, a6], [.ref 0], (m, k), hp)) rfl rfl ?_
  refine Ev.step (j := 472) (s' := ([some (.retAddr 0), some (.ref 0), some (.ref 69), some (.ref 87), some (.int z), a5, a6], [.retAddr 0, .ref 0], (m, k), hp)) rfl rfl ?_
  refine Ev.step (j := 474) (s' := ([some (.retAddr 0), some (.ref 0), some (.ref 69), some (.ref 87), some (.int z), a5, a6], [.int z, .retAddr 0, .ref 0], (m, k), hp)) rfl rfl ?_
  refine bs_lit (k := 1) rfl rfl fun z103 hz103 => ?_
  refine bs_add rfl (by omega) (by omega) fun z104 hz104 => ?_
  refine ls_sld rfl (by omega) (by omega) ?_
  refine (show Ev _ 477 ([some (.retAddr 0), some (.ref 0), some (.ref 69), some (.ref 87), some (.int z), a5, a6], [.int (xs z104.toNatClampNeg), .ref 0], (m, k), hp) _ from ?_)
  exact by
   refine Ev.step (j := 478) (s' := ([some (.retAddr 0), some (.ref 0), some (.ref 69), some (.ref 87), some (.int z), a5, a6], [.retAddr 0, .int (xs z104.toNatClampNeg), .ref 0], (m, k), hp)) rfl rfl ?_
   refine Ev.step (j := 480) (s' := ([some (.retAddr 0), some (.ref 0), some (.ref 69), some (.ref 87), some (.int z), a5, a6], [.int z, .retAddr 0, .int (xs z104.toNatClampNeg), .ref 0], (m, k), hp)) rfl rfl ?_
   refine bs_lit (k := 2) rfl rfl fun z105 hz105 => ?_
   refine bs_add rfl (by omega) (by omega) fun z106 hz106 => ?_
   refine ls_sld rfl (by omega) (by omega) ?_
   refine (show Ev _ 483 ([some (.retAddr 0), some (.ref 0), some (.ref 69), some (.ref 87), some (.int z), a5, a6], [.int (xs z106.toNatClampNeg), .int (xs z104.toNatClampNeg), .ref 0], (m, k), hp) _ from ?_)
   refine bs_callx (K := kq_X10_apart_57b5ea) [.ref 0, .int (xs z104.toNatClampNeg), .int (xs z106.toNatClampNeg)] [] rfl (sf_cX ct_X10_apart_57b5ea) H rfl rfl rfl (bs_rcv (g := 10) H (bs_R.uq H (g := 10) rfl) (by decide) rfl) (ls_room (Nat.le_of_ble_eq_true rfl) (by omega) (by omega)) ?_ (sf_S_nil) fun r108 hp107 thp107 Hhp107 fhp107 ahp107 php107 xhp107 => ?_
   · intro q k h
     match q, h with
     | 0, h => cases h; exact bs_jR (bs_R.uq H (g := 10) rfl)
     | 1, h => cases h; exact sf_j0
     | 2, h => cases h; exact sf_j0
     | q + 3, h => cases h
   obtain ⟨z109, rfl⟩ := bs_anI ahp107
   have E110 := lw_keep H fhp107 rfl rfl rfl rfl rfl hs
   obtain ⟨ew1, hC1, hX1⟩ := pC H (d_apart hC hD _ _) xhp107 hX
   refine (show Ev _ 486 ([some (.retAddr 0), some (.ref 0), some (.ref 69), some (.ref 87), some (.int z), a5, a6], [.int z109], (m + 0, k + 0), hp107) _ from ?_)
   exact by
    refine Ev.step (j := 487) (s' := ([some (.retAddr 0), some (.ref 0), some (.ref 69), some (.ref 87), some (.int z), a5, a6], [], (m + 0, k + 0), hp107)) rfl rfl ?_
    refine Ev.step (j := 488) (s' := ([some (.retAddr 0), some (.ref 0), some (.ref 69), some (.ref 87), some (.int z), a5, a6], [.ref 69], (m + 0, k + 0), hp107)) rfl rfl ?_
    refine Ev.step (j := 489) (s' := ([some (.retAddr 0), some (.ref 0), some (.ref 69), some (.ref 87), some (.int z), a5, a6], [.retAddr 0, .ref 69], (m + 0, k + 0), hp107)) rfl rfl ?_
    refine Ev.step (j := 491) (s' := ([some (.retAddr 0), some (.ref 0), some (.ref 69), some (.ref 87), some (.int z), a5, a6], [.int z, .retAddr 0, .ref 69], (m + 0, k + 0), hp107)) rfl rfl ?_
    refine bs_lit (k := 1) rfl rfl fun z111 hz111 => ?_
    refine bs_add rfl (by omega) (by omega) fun z112 hz112 => ?_
    refine ls_sld rfl (by omega) (by omega) ?_
    refine (show Ev _ 494 ([some (.retAddr 0), some (.ref 0), some (.ref 69), some (.ref 87), some (.int z), a5, a6], [.int (xs z112.toNatClampNeg), .ref 69], (m + 0, k + 0), hp107) _ from ?_)
    exact by
     refine Ev.step (j := 495) (s' := ([some (.retAddr 0), some (.ref 0), some (.ref 69), some (.ref 87), some (.int z), a5, a6], [.retAddr 0, .int (xs z112.toNatClampNeg), .ref 69], (m + 0, k + 0), hp107)) rfl rfl ?_
     refine Ev.step (j := 497) (s' := ([some (.retAddr 0), some (.ref 0), some (.ref 69), some (.ref 87), some (.int z), a5, a6], [.int z, .retAddr 0, .int (xs z112.toNatClampNeg), .ref 69], (m + 0, k + 0), hp107)) rfl rfl ?_
     refine bs_lit (k := 2) rfl rfl fun z113 hz113 => ?_
     refine bs_add rfl (by omega) (by omega) fun z114 hz114 => ?_
     refine ls_sld rfl (by omega) (by omega) ?_
     refine (show Ev _ 500 ([some (.retAddr 0), some (.ref 0), some (.ref 69), some (.ref 87), some (.int z), a5, a6], [.int (xs z114.toNatClampNeg), .int (xs z112.toNatClampNeg), .ref 69], (m + 0, k + 0), hp107) _ from ?_)
     refine bs_callx (K := kq_X11_apart_334faa) [.ref 69, .int (xs z112.toNatClampNeg), .int (xs z114.toNatClampNeg)] [] rfl (sf_cX ct_X11_apart_334faa) Hhp107 rfl rfl rfl (bs_rcv (g := 11) Hhp107 (bs_R.uq Hhp107 (g := 11) rfl) (by decide) rfl) (ls_room (Nat.le_of_ble_eq_true rfl) (by omega) (by omega)) ?_ (sf_S_nil) fun r116 hp115 thp115 Hhp115 fhp115 ahp115 php115 xhp115 => ?_
     · intro q k h
       match q, h with
       | 0, h => cases h; exact bs_jR (bs_R.uq Hhp107 (g := 11) rfl)
       | 1, h => cases h; exact sf_j0
       | 2, h => cases h; exact sf_j0
       | q + 3, h => cases h
     obtain ⟨z117, rfl⟩ := bs_anI ahp115
     have E118 := lw_keep Hhp107 fhp115 rfl rfl rfl rfl rfl E110
     rw [show z112 = z104 from Int32.toInt_inj.mp (by omega)] at xhp115
     rw [show z114 = z106 from Int32.toInt_inj.mp (by omega)] at xhp115
     obtain ⟨ew2, hX2, hC2⟩ := pX Hhp107 (e_apart hX1 hD _ _) xhp115 hC1
     refine (show Ev _ 503 ([some (.retAddr 0), some (.ref 0), some (.ref 69), some (.ref 87), some (.int z), a5, a6], [.int z117], (m + 0 + 0, k + 0 + 0), hp115) _ from ?_)
     exact by
      refine Ev.step (j := 504) (s' := ([some (.retAddr 0), some (.ref 0), some (.ref 69), some (.ref 87), some (.int z), a5, a6], [], (m + 0 + 0, k + 0 + 0), hp115)) rfl rfl ?_
      refine Ev.step (j := 1440) (s' := ([some (.retAddr 0), some (.ref 0), some (.ref 69), some (.ref 87), some (.int z), a5, a6], [], (m + 0 + 0, k + 0 + 0), hp115)) rfl rfl ?_
      exact K _ _ _ _ _ _ Hhp115 ⟨E118, _, hD, hC2, hX2⟩ (by omega) (by omega)
set_option maxRecDepth 100000 in
set_option maxHeartbeats 4000000 in
theorem op_now {xs : Nat → Int32} {n : Nat} {z : Int32} {a5 a6 : Option Value} {m k : Nat} {hp : ab_H} {t : Nat → Nat} {Q : ab_O → Prop} (H : sf_h t hp) (hs : lw_eq hp) (hz0 : 0 ≤ z.toInt) (hz1 : z.toInt + 6 ≤ n) (hn : n ≤ 3072) (hm : m + 21 ≤ 601024) (hk : k + 410 ≤ 7293034) (K : lw_K xs n z m k Q) : Ev (LT xs n) 507 ([some (.retAddr 0), some (.ref 0), some (.ref 69), some (.ref 87), some (.int z), a5, a6], [], (m, k), hp) Q := by
  obtain ⟨hs, D, hD, hC, hX⟩ := hs
  refine Ev.step (j := 508) (s' := ([some (.retAddr 0), some (.ref 0), some (.ref 69), some (.ref 87), some (.int z), a5, a6], [.ref 0], (m, k), hp)) rfl rfl ?_
  refine Ev.step (j := 509) (s' := ([some (.retAddr 0), some (.ref 0), some (.ref 69), some (.ref 87), some (.int z), a5, a6], [.retAddr 0, .ref 0], (m, k), hp)) rfl rfl ?_
  refine Ev.step (j := 511) (s' := ([some (.retAddr 0), some (.ref 0), some (.ref 69), some (.ref 87), some (.int z), a5, a6], [.int z, .retAddr 0, .ref 0], (m, k), hp)) rfl rfl ?_
  refine bs_lit (k := 1) rfl rfl fun z119 hz119 => ?_
  refine bs_add rfl (by omega) (by omega) fun z120 hz120 => ?_
  refine ls_sld rfl (by omega) (by omega) ?_
  refine (show Ev _ 514 ([some (.retAddr 0), some (.ref 0), some (.ref 69), some (.ref 87), some (.int z), a5, a6], [.int (xs z120.toNatClampNeg), .ref 0], (m, k), hp) _ from ?_)
  exact by
   refine bs_callx (K := kq_X10_now_0df2a5) [.ref 0, .int (xs z120.toNatClampNeg)] [] rfl (sf_cX ct_X10_now_0df2a5) H rfl rfl rfl (bs_rcv (g := 10) H (bs_R.uq H (g := 10) rfl) (by decide) rfl) (ls_room (Nat.le_of_ble_eq_true rfl) (by omega) (by omega)) ?_ (sf_S_nil) fun r122 hp121 thp121 Hhp121 fhp121 ahp121 php121 xhp121 => ?_
   · intro q k h
     match q, h with
     | 0, h => cases h; exact bs_jR (bs_R.uq H (g := 10) rfl)
     | 1, h => cases h; exact sf_j0
     | q + 2, h => cases h
   obtain ⟨z123, rfl⟩ := bs_anI ahp121
   have E124 := lw_keep H fhp121 rfl rfl rfl rfl rfl hs
   obtain ⟨ew1, hC1, hX1⟩ := pC H (d_now hC hD _) xhp121 hX
   refine (show Ev _ 517 ([some (.retAddr 0), some (.ref 0), some (.ref 69), some (.ref 87), some (.int z), a5, a6], [.int z123], (m + 0, k + 0), hp121) _ from ?_)
   refine Ev.step (j := 518) (s' := ([some (.retAddr 0), some (.ref 0), some (.ref 69), some (.ref 87), some (.int z), a5, a6], [], (m + 0, k + 0), hp121)) rfl rfl ?_
   refine Ev.step (j := 519) (s' := ([some (.retAddr 0), some (.ref 0), some (.ref 69), some (.ref 87), some (.int z), a5, a6], [.ref 69], (m + 0, k + 0), hp121)) rfl rfl ?_
   refine Ev.step (j := 520) (s' := ([some (.retAddr 0), some (.ref 0), some (.ref 69), some (.ref 87), some (.int z), a5, a6], [.retAddr 0, .ref 69], (m + 0, k + 0), hp121)) rfl rfl ?_
   exact by
    refine Ev.step (j := 522) (s' := ([some (.retAddr 0), some (.ref 0), some (.ref 69), some (.ref 87), some (.int z), a5, a6], [.int z, .retAddr 0, .ref 69], (m + 0, k + 0), hp121)) rfl rfl ?_
    refine bs_lit (k := 1) rfl rfl fun z125 hz125 => ?_
    refine bs_add rfl (by omega) (by omega) fun z126 hz126 => ?_
    refine ls_sld rfl (by omega) (by omega) ?_
    refine (show Ev _ 525 ([some (.retAddr 0), some (.ref 0), some (.ref 69), some (.ref 87), some (.int z), a5, a6], [.int (xs z126.toNatClampNeg), .ref 69], (m + 0, k + 0), hp121) _ from ?_)
    refine bs_callx (K := kq_X11_now_3d45d6) [.ref 69, .int (xs z126.toNatClampNeg)] [] rfl (sf_cX ct_X11_now_3d45d6) Hhp121 rfl rfl rfl (bs_rcv (g := 11) Hhp121 (bs_R.uq Hhp121 (g := 11) rfl) (by decide) rfl) (ls_room (Nat.le_of_ble_eq_true rfl) (by omega) (by omega)) ?_ (sf_S_nil) fun r128 hp127 thp127 Hhp127 fhp127 ahp127 php127 xhp127 => ?_
    · intro q k h
      match q, h with
      | 0, h => cases h; exact bs_jR (bs_R.uq Hhp121 (g := 11) rfl)
      | 1, h => cases h; exact sf_j0
      | q + 2, h => cases h
    obtain ⟨z129, rfl⟩ := bs_anI ahp127
    have E130 := lw_keep Hhp121 fhp127 rfl rfl rfl rfl rfl E124
    rw [show z126 = z120 from Int32.toInt_inj.mp (by omega)] at xhp127
    obtain ⟨ew2, hX2, hC2⟩ := pX Hhp121 (e_now hX1 hD _) xhp127 hC1
    refine (show Ev _ 528 ([some (.retAddr 0), some (.ref 0), some (.ref 69), some (.ref 87), some (.int z), a5, a6], [.int z129], (m + 0 + 0, k + 0 + 0), hp127) _ from ?_)
    exact by
     refine Ev.step (j := 529) (s' := ([some (.retAddr 0), some (.ref 0), some (.ref 69), some (.ref 87), some (.int z), a5, a6], [], (m + 0 + 0, k + 0 + 0), hp127)) rfl rfl ?_
     refine Ev.step (j := 1440) (s' := ([some (.retAddr 0), some (.ref 0), some (.ref 69), some (.ref 87), some (.int z), a5, a6], [], (m + 0 + 0, k + 0 + 0), hp127)) rfl rfl ?_
     exact K _ _ _ _ _ _ Hhp127 ⟨E130, _, hD, hC2, hX2⟩ (by omega) (by omega)
set_option maxRecDepth 100000 in
set_option maxHeartbeats 4000000 in
theorem op_hoard {xs : Nat → Int32} {n : Nat} {z : Int32} {a5 a6 : Option Value} {m k : Nat} {hp : ab_H} {t : Nat → Nat} {Q : ab_O → Prop} (H : sf_h t hp) (hs : lw_eq hp) (hz0 : 0 ≤ z.toInt) (hz1 : z.toInt + 6 ≤ n) (hn : n ≤ 3072) (hm : m + 21 ≤ 601024) (hk : k + 410 ≤ 7293034) (K : lw_K xs n z m k Q) : Ev (LT xs n) 532 ([some (.retAddr 0), some (.ref 0), some (.ref 69), some (.ref 87), some (.int z), a5, a6], [], (m, k), hp) Q := by
  obtain ⟨hs, D, hD, hC, hX⟩ := hs
  refine Ev.step (j := 533) (s' := ([some (.retAddr 0), some (.ref 0), some (.ref 69), some (.ref 87), some (.int z), a5, a6], [.ref 0], (m, k), hp)) rfl rfl ?_
  refine Ev.step (j := 534) (s' := ([some (.retAddr 0), some (.ref 0), some (.ref 69), some (.ref 87), some (.int z), a5, a6], [.retAddr 0, .ref 0], (m, k), hp)) rfl rfl ?_
  refine Ev.step (j := 536) (s' := ([some (.retAddr 0), some (.ref 0), some (.ref 69), some (.ref 87), some (.int z), a5, a6], [.int z, .retAddr 0, .ref 0], (m, k), hp)) rfl rfl ?_
  refine bs_lit (k := 1) rfl rfl fun z131 hz131 => ?_
  refine bs_add rfl (by omega) (by omega) fun z132 hz132 => ?_
  refine ls_sld rfl (by omega) (by omega) ?_
  refine (show Ev _ 539 ([some (.retAddr 0), some (.ref 0), some (.ref 69), some (.ref 87), some (.int z), a5, a6], [.int (xs z132.toNatClampNeg), .ref 0], (m, k), hp) _ from ?_)
  exact by
   refine Ev.step (j := 540) (s' := ([some (.retAddr 0), some (.ref 0), some (.ref 69), some (.ref 87), some (.int z), a5, a6], [.retAddr 0, .int (xs z132.toNatClampNeg), .ref 0], (m, k), hp)) rfl rfl ?_
   refine Ev.step (j := 542) (s' := ([some (.retAddr 0), some (.ref 0), some (.ref 69), some (.ref 87), some (.int z), a5, a6], [.int z, .retAddr 0, .int (xs z132.toNatClampNeg), .ref 0], (m, k), hp)) rfl rfl ?_
   refine bs_lit (k := 2) rfl rfl fun z133 hz133 => ?_
   refine bs_add rfl (by omega) (by omega) fun z134 hz134 => ?_
   refine ls_sld rfl (by omega) (by omega) ?_
   refine (show Ev _ 545 ([some (.retAddr 0), some (.ref 0), some (.ref 69), some (.ref 87), some (.int z), a5, a6], [.int (xs z134.toNatClampNeg), .int (xs z132.toNatClampNeg), .ref 0], (m, k), hp) _ from ?_)
   refine Ev.step (j := 546) (s' := ([some (.retAddr 0), some (.ref 0), some (.ref 69), some (.ref 87), some (.int z), a5, a6], [.retAddr 0, .int (xs z134.toNatClampNeg), .int (xs z132.toNatClampNeg), .ref 0], (m, k), hp)) rfl rfl ?_
   refine Ev.step (j := 548) (s' := ([some (.retAddr 0), some (.ref 0), some (.ref 69), some (.ref 87), some (.int z), a5, a6], [.int z, .retAddr 0, .int (xs z134.toNatClampNeg), .int (xs z132.toNatClampNeg), .ref 0], (m, k), hp)) rfl rfl ?_
   exact by
    refine bs_lit (k := 3) rfl rfl fun z135 hz135 => ?_
    refine bs_add rfl (by omega) (by omega) fun z136 hz136 => ?_
    refine ls_sld rfl (by omega) (by omega) ?_
    refine (show Ev _ 551 ([some (.retAddr 0), some (.ref 0), some (.ref 69), some (.ref 87), some (.int z), a5, a6], [.int (xs z136.toNatClampNeg), .int (xs z134.toNatClampNeg), .int (xs z132.toNatClampNeg), .ref 0], (m, k), hp) _ from ?_)
    refine bs_callx (K := kq_X10_hoard_7e6f69) [.ref 0, .int (xs z132.toNatClampNeg), .int (xs z134.toNatClampNeg), .int (xs z136.toNatClampNeg)] [] rfl (sf_cX ct_X10_hoard_7e6f69) H rfl rfl rfl (bs_rcv (g := 10) H (bs_R.uq H (g := 10) rfl) (by decide) rfl) (ls_room (Nat.le_of_ble_eq_true rfl) (by omega) (by omega)) ?_ (sf_S_nil) fun r138 hp137 thp137 Hhp137 fhp137 ahp137 php137 xhp137 => ?_
    · intro q k h
      match q, h with
      | 0, h => cases h; exact bs_jR (bs_R.uq H (g := 10) rfl)
      | 1, h => cases h; exact sf_j0
      | 2, h => cases h; exact sf_j0
      | 3, h => cases h; exact sf_j0
      | q + 4, h => cases h
    obtain ⟨z139, rfl⟩ := bs_anI ahp137
    have E140 := lw_keep H fhp137 rfl rfl rfl rfl rfl hs
    obtain ⟨ew1, hC1, hX1⟩ := pC H (d_hoard hC hD _ _ _) xhp137 hX
    refine (show Ev _ 554 ([some (.retAddr 0), some (.ref 0), some (.ref 69), some (.ref 87), some (.int z), a5, a6], [.int z139], (m + 8, k + 138), hp137) _ from ?_)
    exact by
     refine Ev.step (j := 555) (s' := ([some (.retAddr 0), some (.ref 0), some (.ref 69), some (.ref 87), some (.int z), a5, a6], [], (m + 8, k + 138), hp137)) rfl rfl ?_
     refine Ev.step (j := 556) (s' := ([some (.retAddr 0), some (.ref 0), some (.ref 69), some (.ref 87), some (.int z), a5, a6], [.ref 69], (m + 8, k + 138), hp137)) rfl rfl ?_
     refine Ev.step (j := 557) (s' := ([some (.retAddr 0), some (.ref 0), some (.ref 69), some (.ref 87), some (.int z), a5, a6], [.retAddr 0, .ref 69], (m + 8, k + 138), hp137)) rfl rfl ?_
     refine Ev.step (j := 559) (s' := ([some (.retAddr 0), some (.ref 0), some (.ref 69), some (.ref 87), some (.int z), a5, a6], [.int z, .retAddr 0, .ref 69], (m + 8, k + 138), hp137)) rfl rfl ?_
     refine bs_lit (k := 1) rfl rfl fun z141 hz141 => ?_
     refine bs_add rfl (by omega) (by omega) fun z142 hz142 => ?_
     refine ls_sld rfl (by omega) (by omega) ?_
     refine (show Ev _ 562 ([some (.retAddr 0), some (.ref 0), some (.ref 69), some (.ref 87), some (.int z), a5, a6], [.int (xs z142.toNatClampNeg), .ref 69], (m + 8, k + 138), hp137) _ from ?_)
     exact by
      refine Ev.step (j := 563) (s' := ([some (.retAddr 0), some (.ref 0), some (.ref 69), some (.ref 87), some (.int z), a5, a6], [.retAddr 0, .int (xs z142.toNatClampNeg), .ref 69], (m + 8, k + 138), hp137)) rfl rfl ?_
      refine Ev.step (j := 565) (s' := ([some (.retAddr 0), some (.ref 0), some (.ref 69), some (.ref 87), some (.int z), a5, a6], [.int z, .retAddr 0, .int (xs z142.toNatClampNeg), .ref 69], (m + 8, k + 138), hp137)) rfl rfl ?_
      refine bs_lit (k := 2) rfl rfl fun z143 hz143 => ?_
      refine bs_add rfl (by omega) (by omega) fun z144 hz144 => ?_
      refine ls_sld rfl (by omega) (by omega) ?_
      refine (show Ev _ 568 ([some (.retAddr 0), some (.ref 0), some (.ref 69), some (.ref 87), some (.int z), a5, a6], [.int (xs z144.toNatClampNeg), .int (xs z142.toNatClampNeg), .ref 69], (m + 8, k + 138), hp137) _ from ?_)
      refine Ev.step (j := 569) (s' := ([some (.retAddr 0), some (.ref 0), some (.ref 69), some (.ref 87), some (.int z), a5, a6], [.retAddr 0, .int (xs z144.toNatClampNeg), .int (xs z142.toNatClampNeg), .ref 69], (m + 8, k + 138), hp137)) rfl rfl ?_
      refine Ev.step (j := 571) (s' := ([some (.retAddr 0), some (.ref 0), some (.ref 69), some (.ref 87), some (.int z), a5, a6], [.int z, .retAddr 0, .int (xs z144.toNatClampNeg), .int (xs z142.toNatClampNeg), .ref 69], (m + 8, k + 138), hp137)) rfl rfl ?_
      exact by
       refine bs_lit (k := 3) rfl rfl fun z145 hz145 => ?_
       refine bs_add rfl (by omega) (by omega) fun z146 hz146 => ?_
       refine ls_sld rfl (by omega) (by omega) ?_
       refine (show Ev _ 574 ([some (.retAddr 0), some (.ref 0), some (.ref 69), some (.ref 87), some (.int z), a5, a6], [.int (xs z146.toNatClampNeg), .int (xs z144.toNatClampNeg), .int (xs z142.toNatClampNeg), .ref 69], (m + 8, k + 138), hp137) _ from ?_)
       refine bs_callx (K := kq_X11_hoard_h) [.ref 69, .int (xs z142.toNatClampNeg), .int (xs z144.toNatClampNeg), .int (xs z146.toNatClampNeg)] [] rfl (sf_cX ct_X11_hoard_h) Hhp137 rfl rfl rfl (bs_rcv (g := 11) Hhp137 (bs_R.uq Hhp137 (g := 11) rfl) (by decide) rfl) (ls_room (Nat.le_of_ble_eq_true rfl) (by omega) (by omega)) ?_ (sf_S_nil) fun r148 hp147 thp147 Hhp147 fhp147 ahp147 php147 xhp147 => ?_
       · intro q k h
         match q, h with
         | 0, h => cases h; exact bs_jR (bs_R.uq Hhp137 (g := 11) rfl)
         | 1, h => cases h; exact sf_j0
         | 2, h => cases h; exact sf_j0
         | 3, h => cases h; exact sf_j0
         | q + 4, h => cases h
       obtain ⟨z149, rfl⟩ := bs_anI ahp147
       have E150 := lw_keep Hhp137 fhp147 rfl rfl rfl rfl rfl E140
       rw [show z142 = z132 from Int32.toInt_inj.mp (by omega)] at xhp147
       rw [show z144 = z134 from Int32.toInt_inj.mp (by omega)] at xhp147
       rw [show z146 = z136 from Int32.toInt_inj.mp (by omega)] at xhp147
       obtain ⟨ew2, hX2, hC2⟩ := pX Hhp137 (e_hoard hX1 hD _ _ _) xhp147 hC1
       refine (show Ev _ 577 ([some (.retAddr 0), some (.ref 0), some (.ref 69), some (.ref 87), some (.int z), a5, a6], [.int z149], (m + 8 + 0, k + 138 + 0), hp147) _ from ?_)
       exact by
        refine Ev.step (j := 578) (s' := ([some (.retAddr 0), some (.ref 0), some (.ref 69), some (.ref 87), some (.int z), a5, a6], [], (m + 8 + 0, k + 138 + 0), hp147)) rfl rfl ?_
        refine Ev.step (j := 1440) (s' := ([some (.retAddr 0), some (.ref 0), some (.ref 69), some (.ref 87), some (.int z), a5, a6], [], (m + 8 + 0, k + 138 + 0), hp147)) rfl rfl ?_
        exact K _ _ _ _ _ _ Hhp147 ⟨E150, _, (hD.k (INV_act hD.2.1 hX.T.gb (by decide))), hC2, hX2⟩ (by omega) (by omega)
set_option maxRecDepth 100000 in
set_option maxHeartbeats 4000000 in
theorem op_bare {xs : Nat → Int32} {n : Nat} {z : Int32} {a5 a6 : Option Value} {m k : Nat} {hp : ab_H} {t : Nat → Nat} {Q : ab_O → Prop} (H : sf_h t hp) (hs : lw_eq hp) (hz0 : 0 ≤ z.toInt) (hz1 : z.toInt + 6 ≤ n) (hn : n ≤ 3072) (hm : m + 21 ≤ 601024) (hk : k + 410 ≤ 7293034) (K : lw_K xs n z m k Q) : Ev (LT xs n) 581 ([some (.retAddr 0), some (.ref 0), some (.ref 69), some (.ref 87), some (.int z), a5, a6], [], (m, k), hp) Q := by
  obtain ⟨hs, D, hD, hC, hX⟩ := hs
  refine Ev.step (j := 582) (s' := ([some (.retAddr 0), some (.ref 0), some (.ref 69), some (.ref 87), some (.int z), a5, a6], [.ref 0], (m, k), hp)) rfl rfl ?_
  refine Ev.step (j := 583) (s' := ([some (.retAddr 0), some (.ref 0), some (.ref 69), some (.ref 87), some (.int z), a5, a6], [.retAddr 0, .ref 0], (m, k), hp)) rfl rfl ?_
  refine Ev.step (j := 585) (s' := ([some (.retAddr 0), some (.ref 0), some (.ref 69), some (.ref 87), some (.int z), a5, a6], [.int z, .retAddr 0, .ref 0], (m, k), hp)) rfl rfl ?_
  refine bs_lit (k := 1) rfl rfl fun z151 hz151 => ?_
  refine bs_add rfl (by omega) (by omega) fun z152 hz152 => ?_
  refine ls_sld rfl (by omega) (by omega) ?_
  refine (show Ev _ 588 ([some (.retAddr 0), some (.ref 0), some (.ref 69), some (.ref 87), some (.int z), a5, a6], [.int (xs z152.toNatClampNeg), .ref 0], (m, k), hp) _ from ?_)
  exact by
   refine Ev.step (j := 589) (s' := ([some (.retAddr 0), some (.ref 0), some (.ref 69), some (.ref 87), some (.int z), a5, a6], [.retAddr 0, .int (xs z152.toNatClampNeg), .ref 0], (m, k), hp)) rfl rfl ?_
   refine Ev.step (j := 591) (s' := ([some (.retAddr 0), some (.ref 0), some (.ref 69), some (.ref 87), some (.int z), a5, a6], [.int z, .retAddr 0, .int (xs z152.toNatClampNeg), .ref 0], (m, k), hp)) rfl rfl ?_
   refine bs_lit (k := 2) rfl rfl fun z153 hz153 => ?_
   refine bs_add rfl (by omega) (by omega) fun z154 hz154 => ?_
   refine ls_sld rfl (by omega) (by omega) ?_
   refine (show Ev _ 594 ([some (.retAddr 0), some (.ref 0), some (.ref 69), some (.ref 87), some (.int z), a5, a6], [.int (xs z154.toNatClampNeg), .int (xs z152.toNatClampNeg), .ref 0], (m, k), hp) _ from ?_)
   refine Ev.step (j := 595) (s' := ([some (.retAddr 0), some (.ref 0), some (.ref 69), some (.ref 87), some (.int z), a5, a6], [.retAddr 0, .int (xs z154.toNatClampNeg), .int (xs z152.toNatClampNeg), .ref 0], (m, k), hp)) rfl rfl ?_
   refine Ev.step (j := 597) (s' := ([some (.retAddr 0), some (.ref 0), some (.ref 69), some (.ref 87), some (.int z), a5, a6], [.int z, .retAddr 0, .int (xs z154.toNatClampNeg), .int (xs z152.toNatClampNeg), .ref 0], (m, k), hp)) rfl rfl ?_
   exact by
    refine bs_lit (k := 3) rfl rfl fun z155 hz155 => ?_
    refine bs_add rfl (by omega) (by omega) fun z156 hz156 => ?_
    refine ls_sld rfl (by omega) (by omega) ?_
    refine (show Ev _ 600 ([some (.retAddr 0), some (.ref 0), some (.ref 69), some (.ref 87), some (.int z), a5, a6], [.int (xs z156.toNatClampNeg), .int (xs z154.toNatClampNeg), .int (xs z152.toNatClampNeg), .ref 0], (m, k), hp) _ from ?_)
    refine bs_callx (K := kq_X10_bare_7e6f69) [.ref 0, .int (xs z152.toNatClampNeg), .int (xs z154.toNatClampNeg), .int (xs z156.toNatClampNeg)] [] rfl (sf_cX ct_X10_bare_7e6f69) H rfl rfl rfl (bs_rcv (g := 10) H (bs_R.uq H (g := 10) rfl) (by decide) rfl) (ls_room (Nat.le_of_ble_eq_true rfl) (by omega) (by omega)) ?_ (sf_S_nil) fun r158 hp157 thp157 Hhp157 fhp157 ahp157 php157 xhp157 => ?_
    · intro q k h
      match q, h with
      | 0, h => cases h; exact bs_jR (bs_R.uq H (g := 10) rfl)
      | 1, h => cases h; exact sf_j0
      | 2, h => cases h; exact sf_j0
      | 3, h => cases h; exact sf_j0
      | q + 4, h => cases h
    obtain ⟨z159, rfl⟩ := bs_anI ahp157
    have E160 := lw_keep H fhp157 rfl rfl rfl rfl rfl hs
    obtain ⟨ew1, hC1, hX1⟩ := pC H (d_bare hC hD _ _ _) xhp157 hX
    refine (show Ev _ 603 ([some (.retAddr 0), some (.ref 0), some (.ref 69), some (.ref 87), some (.int z), a5, a6], [.int z159], (m + 8, k + 138), hp157) _ from ?_)
    exact by
     refine Ev.step (j := 604) (s' := ([some (.retAddr 0), some (.ref 0), some (.ref 69), some (.ref 87), some (.int z), a5, a6], [], (m + 8, k + 138), hp157)) rfl rfl ?_
     refine Ev.step (j := 605) (s' := ([some (.retAddr 0), some (.ref 0), some (.ref 69), some (.ref 87), some (.int z), a5, a6], [.ref 69], (m + 8, k + 138), hp157)) rfl rfl ?_
     refine Ev.step (j := 606) (s' := ([some (.retAddr 0), some (.ref 0), some (.ref 69), some (.ref 87), some (.int z), a5, a6], [.retAddr 0, .ref 69], (m + 8, k + 138), hp157)) rfl rfl ?_
     refine Ev.step (j := 608) (s' := ([some (.retAddr 0), some (.ref 0), some (.ref 69), some (.ref 87), some (.int z), a5, a6], [.int z, .retAddr 0, .ref 69], (m + 8, k + 138), hp157)) rfl rfl ?_
     refine bs_lit (k := 1) rfl rfl fun z161 hz161 => ?_
     refine bs_add rfl (by omega) (by omega) fun z162 hz162 => ?_
     refine ls_sld rfl (by omega) (by omega) ?_
     refine (show Ev _ 611 ([some (.retAddr 0), some (.ref 0), some (.ref 69), some (.ref 87), some (.int z), a5, a6], [.int (xs z162.toNatClampNeg), .ref 69], (m + 8, k + 138), hp157) _ from ?_)
     exact by
      refine Ev.step (j := 612) (s' := ([some (.retAddr 0), some (.ref 0), some (.ref 69), some (.ref 87), some (.int z), a5, a6], [.retAddr 0, .int (xs z162.toNatClampNeg), .ref 69], (m + 8, k + 138), hp157)) rfl rfl ?_
      refine Ev.step (j := 614) (s' := ([some (.retAddr 0), some (.ref 0), some (.ref 69), some (.ref 87), some (.int z), a5, a6], [.int z, .retAddr 0, .int (xs z162.toNatClampNeg), .ref 69], (m + 8, k + 138), hp157)) rfl rfl ?_
      refine bs_lit (k := 2) rfl rfl fun z163 hz163 => ?_
      refine bs_add rfl (by omega) (by omega) fun z164 hz164 => ?_
      refine ls_sld rfl (by omega) (by omega) ?_
      refine (show Ev _ 617 ([some (.retAddr 0), some (.ref 0), some (.ref 69), some (.ref 87), some (.int z), a5, a6], [.int (xs z164.toNatClampNeg), .int (xs z162.toNatClampNeg), .ref 69], (m + 8, k + 138), hp157) _ from ?_)
      refine Ev.step (j := 618) (s' := ([some (.retAddr 0), some (.ref 0), some (.ref 69), some (.ref 87), some (.int z), a5, a6], [.retAddr 0, .int (xs z164.toNatClampNeg), .int (xs z162.toNatClampNeg), .ref 69], (m + 8, k + 138), hp157)) rfl rfl ?_
      refine Ev.step (j := 620) (s' := ([some (.retAddr 0), some (.ref 0), some (.ref 69), some (.ref 87), some (.int z), a5, a6], [.int z, .retAddr 0, .int (xs z164.toNatClampNeg), .int (xs z162.toNatClampNeg), .ref 69], (m + 8, k + 138), hp157)) rfl rfl ?_
      exact by
       refine bs_lit (k := 3) rfl rfl fun z165 hz165 => ?_
       refine bs_add rfl (by omega) (by omega) fun z166 hz166 => ?_
       refine ls_sld rfl (by omega) (by omega) ?_
       refine (show Ev _ 623 ([some (.retAddr 0), some (.ref 0), some (.ref 69), some (.ref 87), some (.int z), a5, a6], [.int (xs z166.toNatClampNeg), .int (xs z164.toNatClampNeg), .int (xs z162.toNatClampNeg), .ref 69], (m + 8, k + 138), hp157) _ from ?_)
       refine bs_callx (K := kq_X11_bare_h) [.ref 69, .int (xs z162.toNatClampNeg), .int (xs z164.toNatClampNeg), .int (xs z166.toNatClampNeg)] [] rfl (sf_cX ct_X11_bare_h) Hhp157 rfl rfl rfl (bs_rcv (g := 11) Hhp157 (bs_R.uq Hhp157 (g := 11) rfl) (by decide) rfl) (ls_room (Nat.le_of_ble_eq_true rfl) (by omega) (by omega)) ?_ (sf_S_nil) fun r168 hp167 thp167 Hhp167 fhp167 ahp167 php167 xhp167 => ?_
       · intro q k h
         match q, h with
         | 0, h => cases h; exact bs_jR (bs_R.uq Hhp157 (g := 11) rfl)
         | 1, h => cases h; exact sf_j0
         | 2, h => cases h; exact sf_j0
         | 3, h => cases h; exact sf_j0
         | q + 4, h => cases h
       obtain ⟨z169, rfl⟩ := bs_anI ahp167
       have E170 := lw_keep Hhp157 fhp167 rfl rfl rfl rfl rfl E160
       rw [show z162 = z152 from Int32.toInt_inj.mp (by omega)] at xhp167
       rw [show z164 = z154 from Int32.toInt_inj.mp (by omega)] at xhp167
       rw [show z166 = z156 from Int32.toInt_inj.mp (by omega)] at xhp167
       obtain ⟨ew2, hX2, hC2⟩ := pX Hhp157 (e_bare hX1 hD _ _ _) xhp167 hC1
       refine (show Ev _ 626 ([some (.retAddr 0), some (.ref 0), some (.ref 69), some (.ref 87), some (.int z), a5, a6], [.int z169], (m + 8 + 0, k + 138 + 0), hp167) _ from ?_)
       exact by
        refine Ev.step (j := 627) (s' := ([some (.retAddr 0), some (.ref 0), some (.ref 69), some (.ref 87), some (.int z), a5, a6], [], (m + 8 + 0, k + 138 + 0), hp167)) rfl rfl ?_
        refine Ev.step (j := 1440) (s' := ([some (.retAddr 0), some (.ref 0), some (.ref 69), some (.ref 87), some (.int z), a5, a6], [], (m + 8 + 0, k + 138 + 0), hp167)) rfl rfl ?_
        exact K _ _ _ _ _ _ Hhp167 ⟨E170, _, (hD.k (INV_act hD.2.1 hX.T.gb (by decide))), hC2, hX2⟩ (by omega) (by omega)
set_option maxRecDepth 100000 in
set_option maxHeartbeats 4000000 in
theorem op_waste {xs : Nat → Int32} {n : Nat} {z : Int32} {a5 a6 : Option Value} {m k : Nat} {hp : ab_H} {t : Nat → Nat} {Q : ab_O → Prop} (H : sf_h t hp) (hs : lw_eq hp) (hz0 : 0 ≤ z.toInt) (hz1 : z.toInt + 6 ≤ n) (hn : n ≤ 3072) (hm : m + 21 ≤ 601024) (hk : k + 410 ≤ 7293034) (K : lw_K xs n z m k Q) : Ev (LT xs n) 630 ([some (.retAddr 0), some (.ref 0), some (.ref 69), some (.ref 87), some (.int z), a5, a6], [], (m, k), hp) Q := by
  obtain ⟨hs, D, hD, hC, hX⟩ := hs
  refine Ev.step (j := 631) (s' := ([some (.retAddr 0), some (.ref 0), some (.ref 69), some (.ref 87), some (.int z), a5, a6], [.ref 0], (m, k), hp)) rfl rfl ?_
  refine Ev.step (j := 632) (s' := ([some (.retAddr 0), some (.ref 0), some (.ref 69), some (.ref 87), some (.int z), a5, a6], [.retAddr 0, .ref 0], (m, k), hp)) rfl rfl ?_
  refine Ev.step (j := 634) (s' := ([some (.retAddr 0), some (.ref 0), some (.ref 69), some (.ref 87), some (.int z), a5, a6], [.int z, .retAddr 0, .ref 0], (m, k), hp)) rfl rfl ?_
  refine bs_lit (k := 1) rfl rfl fun z171 hz171 => ?_
  refine bs_add rfl (by omega) (by omega) fun z172 hz172 => ?_
  refine ls_sld rfl (by omega) (by omega) ?_
  refine (show Ev _ 637 ([some (.retAddr 0), some (.ref 0), some (.ref 69), some (.ref 87), some (.int z), a5, a6], [.int (xs z172.toNatClampNeg), .ref 0], (m, k), hp) _ from ?_)
  exact by
   refine Ev.step (j := 638) (s' := ([some (.retAddr 0), some (.ref 0), some (.ref 69), some (.ref 87), some (.int z), a5, a6], [.retAddr 0, .int (xs z172.toNatClampNeg), .ref 0], (m, k), hp)) rfl rfl ?_
   refine Ev.step (j := 640) (s' := ([some (.retAddr 0), some (.ref 0), some (.ref 69), some (.ref 87), some (.int z), a5, a6], [.int z, .retAddr 0, .int (xs z172.toNatClampNeg), .ref 0], (m, k), hp)) rfl rfl ?_
   refine bs_lit (k := 2) rfl rfl fun z173 hz173 => ?_
   refine bs_add rfl (by omega) (by omega) fun z174 hz174 => ?_
   refine ls_sld rfl (by omega) (by omega) ?_
   refine (show Ev _ 643 ([some (.retAddr 0), some (.ref 0), some (.ref 69), some (.ref 87), some (.int z), a5, a6], [.int (xs z174.toNatClampNeg), .int (xs z172.toNatClampNeg), .ref 0], (m, k), hp) _ from ?_)
   refine Ev.step (j := 644) (s' := ([some (.retAddr 0), some (.ref 0), some (.ref 69), some (.ref 87), some (.int z), a5, a6], [.retAddr 0, .int (xs z174.toNatClampNeg), .int (xs z172.toNatClampNeg), .ref 0], (m, k), hp)) rfl rfl ?_
   refine Ev.step (j := 646) (s' := ([some (.retAddr 0), some (.ref 0), some (.ref 69), some (.ref 87), some (.int z), a5, a6], [.int z, .retAddr 0, .int (xs z174.toNatClampNeg), .int (xs z172.toNatClampNeg), .ref 0], (m, k), hp)) rfl rfl ?_
   exact by
    refine bs_lit (k := 3) rfl rfl fun z175 hz175 => ?_
    refine bs_add rfl (by omega) (by omega) fun z176 hz176 => ?_
    refine ls_sld rfl (by omega) (by omega) ?_
    refine (show Ev _ 649 ([some (.retAddr 0), some (.ref 0), some (.ref 69), some (.ref 87), some (.int z), a5, a6], [.int (xs z176.toNatClampNeg), .int (xs z174.toNatClampNeg), .int (xs z172.toNatClampNeg), .ref 0], (m, k), hp) _ from ?_)
    refine bs_callx (K := kq_X10_waste_7e6f69) [.ref 0, .int (xs z172.toNatClampNeg), .int (xs z174.toNatClampNeg), .int (xs z176.toNatClampNeg)] [] rfl (sf_cX ct_X10_waste_7e6f69) H rfl rfl rfl (bs_rcv (g := 10) H (bs_R.uq H (g := 10) rfl) (by decide) rfl) (ls_room (Nat.le_of_ble_eq_true rfl) (by omega) (by omega)) ?_ (sf_S_nil) fun r178 hp177 thp177 Hhp177 fhp177 ahp177 php177 xhp177 => ?_
    · intro q k h
      match q, h with
      | 0, h => cases h; exact bs_jR (bs_R.uq H (g := 10) rfl)
      | 1, h => cases h; exact sf_j0
      | 2, h => cases h; exact sf_j0
      | 3, h => cases h; exact sf_j0
      | q + 4, h => cases h
    obtain ⟨z179, rfl⟩ := bs_anI ahp177
    have E180 := lw_keep H fhp177 rfl rfl rfl rfl rfl hs
    obtain ⟨ew1, hC1, hX1⟩ := pC H (d_waste hC hD _ _ _) xhp177 hX
    refine (show Ev _ 652 ([some (.retAddr 0), some (.ref 0), some (.ref 69), some (.ref 87), some (.int z), a5, a6], [.int z179], (m + 8, k + 138), hp177) _ from ?_)
    exact by
     refine Ev.step (j := 653) (s' := ([some (.retAddr 0), some (.ref 0), some (.ref 69), some (.ref 87), some (.int z), a5, a6], [], (m + 8, k + 138), hp177)) rfl rfl ?_
     refine Ev.step (j := 654) (s' := ([some (.retAddr 0), some (.ref 0), some (.ref 69), some (.ref 87), some (.int z), a5, a6], [.ref 69], (m + 8, k + 138), hp177)) rfl rfl ?_
     refine Ev.step (j := 655) (s' := ([some (.retAddr 0), some (.ref 0), some (.ref 69), some (.ref 87), some (.int z), a5, a6], [.retAddr 0, .ref 69], (m + 8, k + 138), hp177)) rfl rfl ?_
     refine Ev.step (j := 657) (s' := ([some (.retAddr 0), some (.ref 0), some (.ref 69), some (.ref 87), some (.int z), a5, a6], [.int z, .retAddr 0, .ref 69], (m + 8, k + 138), hp177)) rfl rfl ?_
     refine bs_lit (k := 1) rfl rfl fun z181 hz181 => ?_
     refine bs_add rfl (by omega) (by omega) fun z182 hz182 => ?_
     refine ls_sld rfl (by omega) (by omega) ?_
     refine (show Ev _ 660 ([some (.retAddr 0), some (.ref 0), some (.ref 69), some (.ref 87), some (.int z), a5, a6], [.int (xs z182.toNatClampNeg), .ref 69], (m + 8, k + 138), hp177) _ from ?_)
     exact by
      refine Ev.step (j := 661) (s' := ([some (.retAddr 0), some (.ref 0), some (.ref 69), some (.ref 87), some (.int z), a5, a6], [.retAddr 0, .int (xs z182.toNatClampNeg), .ref 69], (m + 8, k + 138), hp177)) rfl rfl ?_
      refine Ev.step (j := 663) (s' := ([some (.retAddr 0), some (.ref 0), some (.ref 69), some (.ref 87), some (.int z), a5, a6], [.int z, .retAddr 0, .int (xs z182.toNatClampNeg), .ref 69], (m + 8, k + 138), hp177)) rfl rfl ?_
      refine bs_lit (k := 2) rfl rfl fun z183 hz183 => ?_
      refine bs_add rfl (by omega) (by omega) fun z184 hz184 => ?_
      refine ls_sld rfl (by omega) (by omega) ?_
      refine (show Ev _ 666 ([some (.retAddr 0), some (.ref 0), some (.ref 69), some (.ref 87), some (.int z), a5, a6], [.int (xs z184.toNatClampNeg), .int (xs z182.toNatClampNeg), .ref 69], (m + 8, k + 138), hp177) _ from ?_)
      refine Ev.step (j := 667) (s' := ([some (.retAddr 0), some (.ref 0), some (.ref 69), some (.ref 87), some (.int z), a5, a6], [.retAddr 0, .int (xs z184.toNatClampNeg), .int (xs z182.toNatClampNeg), .ref 69], (m + 8, k + 138), hp177)) rfl rfl ?_
      refine Ev.step (j := 669) (s' := ([some (.retAddr 0), some (.ref 0), some (.ref 69), some (.ref 87), some (.int z), a5, a6], [.int z, .retAddr 0, .int (xs z184.toNatClampNeg), .int (xs z182.toNatClampNeg), .ref 69], (m + 8, k + 138), hp177)) rfl rfl ?_
      exact by
       refine bs_lit (k := 3) rfl rfl fun z185 hz185 => ?_
       refine bs_add rfl (by omega) (by omega) fun z186 hz186 => ?_
       refine ls_sld rfl (by omega) (by omega) ?_
       refine (show Ev _ 672 ([some (.retAddr 0), some (.ref 0), some (.ref 69), some (.ref 87), some (.int z), a5, a6], [.int (xs z186.toNatClampNeg), .int (xs z184.toNatClampNeg), .int (xs z182.toNatClampNeg), .ref 69], (m + 8, k + 138), hp177) _ from ?_)
       refine bs_callx (K := kq_X11_waste_h) [.ref 69, .int (xs z182.toNatClampNeg), .int (xs z184.toNatClampNeg), .int (xs z186.toNatClampNeg)] [] rfl (sf_cX ct_X11_waste_h) Hhp177 rfl rfl rfl (bs_rcv (g := 11) Hhp177 (bs_R.uq Hhp177 (g := 11) rfl) (by decide) rfl) (ls_room (Nat.le_of_ble_eq_true rfl) (by omega) (by omega)) ?_ (sf_S_nil) fun r188 hp187 thp187 Hhp187 fhp187 ahp187 php187 xhp187 => ?_
       · intro q k h
         match q, h with
         | 0, h => cases h; exact bs_jR (bs_R.uq Hhp177 (g := 11) rfl)
         | 1, h => cases h; exact sf_j0
         | 2, h => cases h; exact sf_j0
         | 3, h => cases h; exact sf_j0
         | q + 4, h => cases h
       obtain ⟨z189, rfl⟩ := bs_anI ahp187
       have E190 := lw_keep Hhp177 fhp187 rfl rfl rfl rfl rfl E180
       rw [show z182 = z172 from Int32.toInt_inj.mp (by omega)] at xhp187
       rw [show z184 = z174 from Int32.toInt_inj.mp (by omega)] at xhp187
       rw [show z186 = z176 from Int32.toInt_inj.mp (by omega)] at xhp187
       obtain ⟨ew2, hX2, hC2⟩ := pX Hhp177 (e_waste hX1 hD _ _ _) xhp187 hC1
       refine (show Ev _ 675 ([some (.retAddr 0), some (.ref 0), some (.ref 69), some (.ref 87), some (.int z), a5, a6], [.int z189], (m + 8 + 0, k + 138 + 0), hp187) _ from ?_)
       exact by
        refine Ev.step (j := 676) (s' := ([some (.retAddr 0), some (.ref 0), some (.ref 69), some (.ref 87), some (.int z), a5, a6], [], (m + 8 + 0, k + 138 + 0), hp187)) rfl rfl ?_
        refine Ev.step (j := 1440) (s' := ([some (.retAddr 0), some (.ref 0), some (.ref 69), some (.ref 87), some (.int z), a5, a6], [], (m + 8 + 0, k + 138 + 0), hp187)) rfl rfl ?_
        exact K _ _ _ _ _ _ Hhp187 ⟨E190, _, (hD.k (INV_act hD.2.1 hX.T.gb (by decide))), hC2, hX2⟩ (by omega) (by omega)
set_option maxRecDepth 100000 in
set_option maxHeartbeats 4000000 in
theorem op_die {xs : Nat → Int32} {n : Nat} {z : Int32} {a5 a6 : Option Value} {m k : Nat} {hp : ab_H} {t : Nat → Nat} {Q : ab_O → Prop} (H : sf_h t hp) (hs : lw_eq hp) (hz0 : 0 ≤ z.toInt) (hz1 : z.toInt + 6 ≤ n) (hn : n ≤ 3072) (hm : m + 21 ≤ 601024) (hk : k + 410 ≤ 7293034) (K : lw_K xs n z m k Q) : Ev (LT xs n) 679 ([some (.retAddr 0), some (.ref 0), some (.ref 69), some (.ref 87), some (.int z), a5, a6], [], (m, k), hp) Q := by
  obtain ⟨hs, D, hD, hC, hX⟩ := hs
  refine Ev.step (j := 680) (s' := ([some (.retAddr 0), some (.ref 0), some (.ref 69), some (.ref 87), some (.int z), a5, a6], [.ref 0], (m, k), hp)) rfl rfl ?_
  refine Ev.step (j := 681) (s' := ([some (.retAddr 0), some (.ref 0), some (.ref 69), some (.ref 87), some (.int z), a5, a6], [.retAddr 0, .ref 0], (m, k), hp)) rfl rfl ?_
  refine Ev.step (j := 683) (s' := ([some (.retAddr 0), some (.ref 0), some (.ref 69), some (.ref 87), some (.int z), a5, a6], [.int z, .retAddr 0, .ref 0], (m, k), hp)) rfl rfl ?_
  refine bs_lit (k := 1) rfl rfl fun z191 hz191 => ?_
  refine bs_add rfl (by omega) (by omega) fun z192 hz192 => ?_
  refine ls_sld rfl (by omega) (by omega) ?_
  refine (show Ev _ 686 ([some (.retAddr 0), some (.ref 0), some (.ref 69), some (.ref 87), some (.int z), a5, a6], [.int (xs z192.toNatClampNeg), .ref 0], (m, k), hp) _ from ?_)
  exact by
   refine bs_callx (K := kq_X10_die_0df2a5) [.ref 0, .int (xs z192.toNatClampNeg)] [] rfl (sf_cX ct_X10_die_0df2a5) H rfl rfl rfl (bs_rcv (g := 10) H (bs_R.uq H (g := 10) rfl) (by decide) rfl) (ls_room (Nat.le_of_ble_eq_true rfl) (by omega) (by omega)) ?_ (sf_S_nil) fun r194 hp193 thp193 Hhp193 fhp193 ahp193 php193 xhp193 => ?_
   · intro q k h
     match q, h with
     | 0, h => cases h; exact bs_jR (bs_R.uq H (g := 10) rfl)
     | 1, h => cases h; exact sf_j0
     | q + 2, h => cases h
   obtain ⟨z195, rfl⟩ := bs_anI ahp193
   have E196 := lw_keep H fhp193 rfl rfl rfl rfl rfl hs
   obtain ⟨ew1, hC1, hX1⟩ := pC H (d_die hC hD _) xhp193 hX
   refine (show Ev _ 689 ([some (.retAddr 0), some (.ref 0), some (.ref 69), some (.ref 87), some (.int z), a5, a6], [.int z195], (m + 8, k + 138), hp193) _ from ?_)
   refine Ev.step (j := 690) (s' := ([some (.retAddr 0), some (.ref 0), some (.ref 69), some (.ref 87), some (.int z), a5, a6], [], (m + 8, k + 138), hp193)) rfl rfl ?_
   refine Ev.step (j := 691) (s' := ([some (.retAddr 0), some (.ref 0), some (.ref 69), some (.ref 87), some (.int z), a5, a6], [.ref 69], (m + 8, k + 138), hp193)) rfl rfl ?_
   refine Ev.step (j := 692) (s' := ([some (.retAddr 0), some (.ref 0), some (.ref 69), some (.ref 87), some (.int z), a5, a6], [.retAddr 0, .ref 69], (m + 8, k + 138), hp193)) rfl rfl ?_
   exact by
    refine Ev.step (j := 694) (s' := ([some (.retAddr 0), some (.ref 0), some (.ref 69), some (.ref 87), some (.int z), a5, a6], [.int z, .retAddr 0, .ref 69], (m + 8, k + 138), hp193)) rfl rfl ?_
    refine bs_lit (k := 1) rfl rfl fun z197 hz197 => ?_
    refine bs_add rfl (by omega) (by omega) fun z198 hz198 => ?_
    refine ls_sld rfl (by omega) (by omega) ?_
    refine (show Ev _ 697 ([some (.retAddr 0), some (.ref 0), some (.ref 69), some (.ref 87), some (.int z), a5, a6], [.int (xs z198.toNatClampNeg), .ref 69], (m + 8, k + 138), hp193) _ from ?_)
    refine bs_callx (K := kq_X11_die_3d45d6) [.ref 69, .int (xs z198.toNatClampNeg)] [] rfl (sf_cX ct_X11_die_3d45d6) Hhp193 rfl rfl rfl (bs_rcv (g := 11) Hhp193 (bs_R.uq Hhp193 (g := 11) rfl) (by decide) rfl) (ls_room (Nat.le_of_ble_eq_true rfl) (by omega) (by omega)) ?_ (sf_S_nil) fun r200 hp199 thp199 Hhp199 fhp199 ahp199 php199 xhp199 => ?_
    · intro q k h
      match q, h with
      | 0, h => cases h; exact bs_jR (bs_R.uq Hhp193 (g := 11) rfl)
      | 1, h => cases h; exact sf_j0
      | q + 2, h => cases h
    obtain ⟨z201, rfl⟩ := bs_anI ahp199
    have E202 := lw_keep Hhp193 fhp199 rfl rfl rfl rfl rfl E196
    rw [show z198 = z192 from Int32.toInt_inj.mp (by omega)] at xhp199
    obtain ⟨ew2, hX2, hC2⟩ := pX Hhp193 (e_die hX1 hD _) xhp199 hC1
    refine (show Ev _ 700 ([some (.retAddr 0), some (.ref 0), some (.ref 69), some (.ref 87), some (.int z), a5, a6], [.int z201], (m + 8 + 0, k + 138 + 0), hp199) _ from ?_)
    exact by
     refine Ev.step (j := 701) (s' := ([some (.retAddr 0), some (.ref 0), some (.ref 69), some (.ref 87), some (.int z), a5, a6], [], (m + 8 + 0, k + 138 + 0), hp199)) rfl rfl ?_
     refine Ev.step (j := 1440) (s' := ([some (.retAddr 0), some (.ref 0), some (.ref 69), some (.ref 87), some (.int z), a5, a6], [], (m + 8 + 0, k + 138 + 0), hp199)) rfl rfl ?_
     exact K _ _ _ _ _ _ Hhp199 ⟨E202, _, (hD.k (INV_die hD.2.1)), hC2, hX2⟩ (by omega) (by omega)
set_option maxRecDepth 100000 in
set_option maxHeartbeats 4000000 in
theorem op_days {xs : Nat → Int32} {n : Nat} {z : Int32} {a5 a6 : Option Value} {m k : Nat} {hp : ab_H} {t : Nat → Nat} {Q : ab_O → Prop} (H : sf_h t hp) (hs : lw_eq hp) (hz0 : 0 ≤ z.toInt) (hz1 : z.toInt + 6 ≤ n) (hn : n ≤ 3072) (hm : m + 21 ≤ 601024) (hk : k + 410 ≤ 7293034) (K : lw_K xs n z m k Q) : Ev (LT xs n) 704 ([some (.retAddr 0), some (.ref 0), some (.ref 69), some (.ref 87), some (.int z), a5, a6], [], (m, k), hp) Q := by
  obtain ⟨hs, D, hD, hC, hX⟩ := hs
  refine Ev.step (j := 705) (s' := ([some (.retAddr 0), some (.ref 0), some (.ref 69), some (.ref 87), some (.int z), a5, a6], [.ref 0], (m, k), hp)) rfl rfl ?_
  refine Ev.step (j := 706) (s' := ([some (.retAddr 0), some (.ref 0), some (.ref 69), some (.ref 87), some (.int z), a5, a6], [.retAddr 0, .ref 0], (m, k), hp)) rfl rfl ?_
  refine Ev.step (j := 708) (s' := ([some (.retAddr 0), some (.ref 0), some (.ref 69), some (.ref 87), some (.int z), a5, a6], [.int z, .retAddr 0, .ref 0], (m, k), hp)) rfl rfl ?_
  refine bs_lit (k := 1) rfl rfl fun z203 hz203 => ?_
  refine bs_add rfl (by omega) (by omega) fun z204 hz204 => ?_
  refine ls_sld rfl (by omega) (by omega) ?_
  refine (show Ev _ 711 ([some (.retAddr 0), some (.ref 0), some (.ref 69), some (.ref 87), some (.int z), a5, a6], [.int (xs z204.toNatClampNeg), .ref 0], (m, k), hp) _ from ?_)
  exact by
   refine bs_callx (K := kq_X10_days_0df2a5) [.ref 0, .int (xs z204.toNatClampNeg)] [] rfl (sf_cX ct_X10_days_0df2a5) H rfl rfl rfl (bs_rcv (g := 10) H (bs_R.uq H (g := 10) rfl) (by decide) rfl) (ls_room (Nat.le_of_ble_eq_true rfl) (by omega) (by omega)) ?_ (sf_S_nil) fun r206 hp205 thp205 Hhp205 fhp205 ahp205 php205 xhp205 => ?_
   · intro q k h
     match q, h with
     | 0, h => cases h; exact bs_jR (bs_R.uq H (g := 10) rfl)
     | 1, h => cases h; exact sf_j0
     | q + 2, h => cases h
   obtain ⟨z207, rfl⟩ := bs_anI ahp205
   have E208 := lw_keep H fhp205 rfl rfl rfl rfl rfl hs
   obtain ⟨ew1, hC1, hX1⟩ := pC H (d_days hC hD _) xhp205 hX
   refine (show Ev _ 714 ([some (.retAddr 0), some (.ref 0), some (.ref 69), some (.ref 87), some (.int z), a5, a6], [.int z207], (m + 8, k + 138), hp205) _ from ?_)
   refine Ev.step (j := 715) (s' := ([some (.retAddr 0), some (.ref 0), some (.ref 69), some (.ref 87), some (.int z), a5, a6], [], (m + 8, k + 138), hp205)) rfl rfl ?_
   refine Ev.step (j := 716) (s' := ([some (.retAddr 0), some (.ref 0), some (.ref 69), some (.ref 87), some (.int z), a5, a6], [.ref 69], (m + 8, k + 138), hp205)) rfl rfl ?_
   refine Ev.step (j := 717) (s' := ([some (.retAddr 0), some (.ref 0), some (.ref 69), some (.ref 87), some (.int z), a5, a6], [.retAddr 0, .ref 69], (m + 8, k + 138), hp205)) rfl rfl ?_
   exact by
    refine Ev.step (j := 719) (s' := ([some (.retAddr 0), some (.ref 0), some (.ref 69), some (.ref 87), some (.int z), a5, a6], [.int z, .retAddr 0, .ref 69], (m + 8, k + 138), hp205)) rfl rfl ?_
    refine bs_lit (k := 1) rfl rfl fun z209 hz209 => ?_
    refine bs_add rfl (by omega) (by omega) fun z210 hz210 => ?_
    refine ls_sld rfl (by omega) (by omega) ?_
    refine (show Ev _ 722 ([some (.retAddr 0), some (.ref 0), some (.ref 69), some (.ref 87), some (.int z), a5, a6], [.int (xs z210.toNatClampNeg), .ref 69], (m + 8, k + 138), hp205) _ from ?_)
    refine bs_callx (K := kq_X11_days_3d45d6) [.ref 69, .int (xs z210.toNatClampNeg)] [] rfl (sf_cX ct_X11_days_3d45d6) Hhp205 rfl rfl rfl (bs_rcv (g := 11) Hhp205 (bs_R.uq Hhp205 (g := 11) rfl) (by decide) rfl) (ls_room (Nat.le_of_ble_eq_true rfl) (by omega) (by omega)) ?_ (sf_S_nil) fun r212 hp211 thp211 Hhp211 fhp211 ahp211 php211 xhp211 => ?_
    · intro q k h
      match q, h with
      | 0, h => cases h; exact bs_jR (bs_R.uq Hhp205 (g := 11) rfl)
      | 1, h => cases h; exact sf_j0
      | q + 2, h => cases h
    obtain ⟨z213, rfl⟩ := bs_anI ahp211
    have E214 := lw_keep Hhp205 fhp211 rfl rfl rfl rfl rfl E208
    rw [show z210 = z204 from Int32.toInt_inj.mp (by omega)] at xhp211
    obtain ⟨ew2, hX2, hC2⟩ := pX Hhp205 (e_days hX1 hD _) xhp211 hC1
    refine (show Ev _ 725 ([some (.retAddr 0), some (.ref 0), some (.ref 69), some (.ref 87), some (.int z), a5, a6], [.int z213], (m + 8 + 0, k + 138 + 0), hp211) _ from ?_)
    exact by
     refine Ev.step (j := 726) (s' := ([some (.retAddr 0), some (.ref 0), some (.ref 69), some (.ref 87), some (.int z), a5, a6], [], (m + 8 + 0, k + 138 + 0), hp211)) rfl rfl ?_
     refine Ev.step (j := 1440) (s' := ([some (.retAddr 0), some (.ref 0), some (.ref 69), some (.ref 87), some (.int z), a5, a6], [], (m + 8 + 0, k + 138 + 0), hp211)) rfl rfl ?_
     exact K _ _ _ _ _ _ Hhp211 ⟨E214, _, (hD.k (INV_dys hD.2.1 hD.1 hX.T.gb)), hC2, hX2⟩ (by omega) (by omega)
end
