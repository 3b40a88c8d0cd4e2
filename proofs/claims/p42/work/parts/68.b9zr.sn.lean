/-! ===== a SENTENCE: read by going down, and by a stack: the same ===== -/
/-- word, SHORE or sign, number -/
abbrev ZO : Type := Nat × Nat × Nat
/-- where it goes on, how many ONES, what is said so far; or what is wrong, and where -/
abbrev ZR : Type := (Nat × Nat × List ZO) ⊕ (Int32 × Nat)
abbrev zy (i o : Nat) (l : List ZO) : ZR := Sum.inl (i, o, l)
abbrev zn (c : Int32) (j : Nat) : ZR := Sum.inr (c, j)
def z_leaf (K : Nat → TT) (i o : Nat) (l : List ZO) : ZR :=
  if (K i).k ≤ 84 then (if tnN (K (i + 1)) 0 1 = 0 then zy (i + 2) o (l ++ [((K i).k.toNat, (K (i + 1)).v.toNat, 0)]) else zn (tnN (K (i + 1)) 0 1) (i + 1))
  else if (K (i + 1)).k = 60 ∨ (K (i + 1)).k = 61 ∨ (K (i + 1)).k = 62 then (if (K (i + 2)).k = 3 then zy (i + 3) o (l ++ [((K i).k.toNat, (K (i + 1)).k.toNat, (K (i + 2)).v.toNat)]) else zn 1 (i + 2))
  else zn 1 (i + 1)
def z_op (w : Nat) (r : ZR) : ZR := match r with
  | .inl y => zy y.1 y.2.1 (y.2.2 ++ [(w, 0, 0)])
  | .inr e => .inr e
def z_join (K : Nat → TT) (w : Nat) (f : Nat → Nat → List ZO → ZR) : Nat → ZR → ZR
  | 0, r => r
  | n + 1, r => match r with
    | .inl y => if (K y.1).k = (w : Int) then z_join K w f n (z_op w (f (y.1 + 1) y.2.1 y.2.2)) else .inl y
    | .inr e => .inr e
def z_all (K : Nat → TT) (f : Nat → Nat → List ZO → ZR) (i o : Nat) (l : List ZO) : ZR := z_join K 78 f 20 (f i o l)
def z_cond (K : Nat → TT) (f : Nat → Nat → List ZO → ZR) (i o : Nat) (l : List ZO) : ZR := z_join K 77 (z_all K f) 20 (z_all K f i o l)
def z_close (K : Nat → TT) (r : ZR) : ZR := match r with
  | .inl y => if (K y.1).k = 41 then zy (y.1 + 1) y.2.1 y.2.2 else zn 1 y.1
  | .inr e => .inr e
abbrev z_is (K : Nat → TT) (i : Nat) : Prop := (K i).k = 40 ∨ (79 ≤ (K i).k ∧ (K i).k ≤ 88)
def z_one (K : Nat → TT) : Nat → Nat → Nat → List ZO → ZR
  | 0 => fun i _ _ => if z_is K i then zn 4 i else zn 1 i
  | d + 1 => fun i o l => if z_is K i then (if 20 ≤ o then zn 4 i else if (K i).k = 40 then z_close K (z_cond K (z_one K d) (i + 1) (o + 1) l) else if (K i).k = 79 then z_op 79 (z_one K d (i + 1) (o + 1) l) else z_leaf K i (o + 1) l) else zn 1 i
def z_top (K : Nat → TT) (r : ZR) : ZR := match r with
  | .inl y => if (K y.1).k = 0 then .inl y else zn 1 y.1
  | .inr e => .inr e
def z_sen (K : Nat → TT) : ZR := z_top K (z_cond K (z_one K 8) 0 0 [])
/-! the reference: token, ONES, codes, stack, whether an operand stands -/
abbrev ZM : Type := Nat × Nat × List ZO × List Nat × Bool
def zm_nots : List Nat → List ZO → List ZO × List Nat
  | [], cs => (cs, [])
  | x :: st, cs => if x = 79 then zm_nots st (cs ++ [(79, 0, 0)]) else (cs, x :: st)
def zm_joins (b : Bool) : List Nat → List ZO → List ZO × List Nat
  | [], cs => (cs, [])
  | x :: st, cs => if x = 78 ∨ (x = 77 ∧ b = true) then zm_joins b st (cs ++ [(x, 0, 0)]) else (cs, x :: st)
def zm_dp : List Nat → Nat
  | [] => 0
  | x :: st => (if x = 79 ∨ x = 40 then 1 else 0) + zm_dp st
def zm_flush (st : List Nat) (cs : List ZO) : List ZO × List Nat := zm_joins true (zm_nots st cs).2 (zm_nots st cs).1
def zm_beh (K : Nat → TT) (i o : Nat) (cs : List ZO) (st : List Nat) : ZM ⊕ ZR :=
  if (K i).k = 78 then .inl (i + 1, o, (zm_joins false (zm_nots st cs).2 (zm_nots st cs).1).1, 78 :: (zm_joins false (zm_nots st cs).2 (zm_nots st cs).1).2, false)
  else if (K i).k = 77 then .inl (i + 1, o, (zm_flush st cs).1, 77 :: (zm_flush st cs).2, false)
  else match (zm_flush st cs).2 with
    | [] => .inr (zn 1 i)
    | _ :: st2 => if (K i).k = 41 then .inl (i + 1, o, (zm_flush st cs).1, st2, true) else .inr (zn 1 i)
def zm_fin (i o : Nat) (cs : List ZO) (st : List Nat) : ZM ⊕ ZR := match (zm_flush st cs).2 with
  | [] => .inr (zy i o (zm_flush st cs).1)
  | _ :: _ => .inr (zn 1 i)
def zm_lf (st : List Nat) (r : ZR) : ZM ⊕ ZR := match r with
  | .inl y => .inl (y.1, y.2.1, y.2.2, st, true)
  | .inr e => .inr (.inr e)
def zm_opd (K : Nat → TT) (i o : Nat) (cs : List ZO) (st : List Nat) : ZM ⊕ ZR :=
  if z_is K i then (if 20 ≤ o ∨ 8 ≤ zm_dp st then .inr (zn 4 i) else if (K i).k = 40 then .inl (i + 1, o + 1, cs, 40 :: st, false) else if (K i).k = 79 then .inl (i + 1, o + 1, cs, 79 :: st, false) else zm_lf st (z_leaf K i (o + 1) cs)) else .inr (zn 1 i)
def zm_step (K : Nat → TT) (M : ZM) : ZM ⊕ ZR := if M.2.2.2.2 = true then (if (K M.1).k = 0 then zm_fin M.1 M.2.1 M.2.2.1 M.2.2.2.1 else zm_beh K M.1 M.2.1 M.2.2.1 M.2.2.2.1) else zm_opd K M.1 M.2.1 M.2.2.1 M.2.2.2.1
def zm_go (K : Nat → TT) : Nat → ZM → ZM ⊕ ZR
  | 0, M => .inl M
  | n + 1, M => match zm_step K M with
    | .inl M' => zm_go K n M'
    | .inr r => .inr r
section ZMS
variable {K : Nat → TT}
theorem zg_add {m : Nat} {M' : ZM} : ∀ {n : Nat} {M : ZM}, zm_go K n M = .inl M' → zm_go K (n + m) M = zm_go K m M'
  | 0, M, h => by
    obtain rfl := Sum.inl.inj h
    rw [Nat.zero_add]
  | n + 1, M, h => by
    rw [show n + 1 + m = n + m + 1 by omega]
    have h : (match zm_step K M with | .inl M2 => zm_go K n M2 | .inr r => .inr r) = .inl M' := h
    show (match zm_step K M with | .inl M2 => zm_go K (n + m) M2 | .inr r => .inr r) = zm_go K m M'
    cases e : zm_step K M with
    | inl M2 =>
      rw [e] at h
      exact zg_add h
    | inr r =>
      rw [e] at h
      cases h
theorem zg_end {m : Nat} {r : ZR} : ∀ {n : Nat} {M : ZM}, zm_go K n M = .inr r → zm_go K (n + m) M = .inr r
  | 0, M, h => by cases h
  | n + 1, M, h => by
    rw [show n + 1 + m = n + m + 1 by omega]
    have h : (match zm_step K M with | .inl M2 => zm_go K n M2 | .inr r => .inr r) = .inr r := h
    show (match zm_step K M with | .inl M2 => zm_go K (n + m) M2 | .inr r => .inr r) = .inr r
    cases e : zm_step K M with
    | inl M2 =>
      rw [e] at h
      exact zg_end h
    | inr r2 =>
      rw [e] at h
      exact h
def Zr (K : Nat → TT) (M M' : ZM) : Prop := ∃ n, zm_go K n M = .inl M'
def ZT (K : Nat → TT) (M : ZM) (r : ZR) : Prop := ∃ n, zm_go K n M = .inr r
theorem Zr.rf {M : ZM} : Zr K M M := ⟨0, rfl⟩
theorem Zr.tr {M M1 M2 : ZM} (h : Zr K M M1) (k : Zr K M1 M2) : Zr K M M2 := by
  obtain ⟨n, hn⟩ := h
  obtain ⟨m, hm⟩ := k
  exact ⟨n + m, (zg_add hn).trans hm⟩
theorem Zr.fin {M M1 : ZM} {r : ZR} (h : Zr K M M1) (k : ZT K M1 r) : ZT K M r := by
  obtain ⟨n, hn⟩ := h
  obtain ⟨m, hm⟩ := k
  exact ⟨n + m, (zg_add hn).trans hm⟩
theorem Zr.st {M M1 : ZM} (h : zm_step K M = .inl M1) : Zr K M M1 := ⟨1, by unfold zm_go; rw [h]; rfl⟩
theorem ZT.st {M : ZM} {r : ZR} (h : zm_step K M = .inr r) : ZT K M r := ⟨1, by unfold zm_go; rw [h]⟩
theorem ZT.one {M : ZM} {r r' : ZR} (h : ZT K M r) (k : ZT K M r') : r = r' := by
  obtain ⟨n, hn⟩ := h
  obtain ⟨m, hm⟩ := k
  have a := zg_end (m := m) hn
  have b := zg_end (m := n) hm
  rw [Nat.add_comm] at b
  exact Sum.inr.inj (a.symm.trans b)
theorem zn_rep {st : List Nat} (h : ∀ x s, st = x :: s → ¬ x = 79) : ∀ {k : Nat} {cs : List ZO}, zm_nots (List.replicate k 79 ++ st) cs = (cs ++ List.replicate k (79, 0, 0), st)
  | 0, cs => by
    rw [List.replicate_zero, List.replicate_zero, List.nil_append, List.append_nil]
    cases st with
    | nil => rfl
    | cons x s => exact if_neg (h x s rfl)
  | k + 1, cs => by
    show zm_nots (List.replicate k 79 ++ st) (cs ++ [(79, 0, 0)]) = _
    rw [zn_rep h, List.append_assoc]
    rfl
theorem zm_dp_rep {st : List Nat} : ∀ {k : Nat}, zm_dp (List.replicate k 79 ++ st) = k + zm_dp st
  | 0 => by rw [List.replicate_zero, List.nil_append, Nat.zero_add]
  | k + 1 => by
    show 1 + zm_dp (List.replicate k 79 ++ st) = _
    rw [zm_dp_rep]
    omega
/-- ONE is read alike -/
def ZP1 (K : Nat → TT) (r : ZR) (i o : Nat) (l : List ZO) (st : List Nat) : Prop := match r with
  | .inl y => y.2.1 ≤ 20 ∧ o < y.2.1 ∧ ∃ (k : Nat) (cs : List ZO), y.2.2 = cs ++ List.replicate k (79, 0, 0) ∧ Zr K (i, o, l, st, false) (y.1, y.2.1, cs, List.replicate k 79 ++ st, true)
  | .inr e => ZT K (i, o, l, st, false) (.inr e)
/-- ALL; n: how often it may still go round -/
def ZP2 (K : Nat → TT) (n : Nat) (r : ZR) (i o : Nat) (l : List ZO) (st : List Nat) : Prop := match r with
  | .inl y => 21 ≤ y.2.1 + n ∧ y.2.1 ≤ 20 ∧ o < y.2.1 ∧ ∃ (k : Nat) (p : List Nat) (cs : List ZO), (p = [] ∨ p = [78]) ∧ y.2.2 = (cs ++ List.replicate k (79, 0, 0)) ++ p.map (fun x => (x, 0, 0)) ∧ Zr K (i, o, l, st, false) (y.1, y.2.1, cs, List.replicate k 79 ++ (p ++ st), true)
  | .inr e => ZT K (i, o, l, st, false) (.inr e)
def ZP2e (K : Nat → TT) (r : ZR) (i o : Nat) (l : List ZO) (st : List Nat) : Prop := match r with
  | .inl y => y.2.1 ≤ 20 ∧ o < y.2.1 ∧ ¬ (K y.1).k = 78 ∧ ∃ (k : Nat) (p : List Nat) (cs : List ZO), (p = [] ∨ p = [78]) ∧ y.2.2 = (cs ++ List.replicate k (79, 0, 0)) ++ p.map (fun x => (x, 0, 0)) ∧ Zr K (i, o, l, st, false) (y.1, y.2.1, cs, List.replicate k 79 ++ (p ++ st), true)
  | .inr e => ZT K (i, o, l, st, false) (.inr e)
def ZP3 (K : Nat → TT) (n : Nat) (r : ZR) (i o : Nat) (l : List ZO) (st : List Nat) : Prop := match r with
  | .inl y => 21 ≤ y.2.1 + n ∧ y.2.1 ≤ 20 ∧ o < y.2.1 ∧ ¬ (K y.1).k = 78 ∧ ∃ (k : Nat) (p q : List Nat) (cs : List ZO), (p = [] ∨ p = [78]) ∧ (q = [] ∨ q = [77]) ∧ y.2.2 = ((cs ++ List.replicate k (79, 0, 0)) ++ p.map (fun x => (x, 0, 0))) ++ q.map (fun x => (x, 0, 0)) ∧ Zr K (i, o, l, st, false) (y.1, y.2.1, cs, List.replicate k 79 ++ (p ++ (q ++ st)), true)
  | .inr e => ZT K (i, o, l, st, false) (.inr e)
def ZP3e (K : Nat → TT) (r : ZR) (i o : Nat) (l : List ZO) (st : List Nat) : Prop := match r with
  | .inl y => y.2.1 ≤ 20 ∧ o < y.2.1 ∧ ¬ (K y.1).k = 78 ∧ ¬ (K y.1).k = 77 ∧ ∃ (s : List Nat) (cs : List ZO), zm_flush s cs = (y.2.2, st) ∧ Zr K (i, o, l, st, false) (y.1, y.2.1, cs, s, true)
  | .inr e => ZT K (i, o, l, st, false) (.inr e)
/-- nothing on top that would be taken off; nor an or -/
def ZB (st : List Nat) : Prop := ∀ x s, st = x :: s → ¬ x = 79 ∧ ¬ x = 78
def ZC (st : List Nat) : Prop := ∀ x s, st = x :: s → ¬ x = 79 ∧ ¬ x = 78 ∧ ¬ x = 77
theorem ZC.b {st : List Nat} (h : ZC st) : ZB st := fun x s e => ⟨(h x s e).1, (h x s e).2.1⟩
theorem zj_st {b : Bool} {st : List Nat} {cs : List ZO} (h : ZB st) (hb : b = true → ZC st) : zm_joins b st cs = (cs, st) := by
  cases st with
  | nil => rfl
  | cons x s =>
    refine if_neg fun c => ?_
    rcases c with c | ⟨c1, c2⟩
    · exact (h x s rfl).2 c
    · exact (hb c2 x s rfl).2.2 c1
theorem zj_and {b : Bool} {p st : List Nat} {cs : List ZO} (hp : p = [] ∨ p = [78]) (h : ∀ c, zm_joins b st c = (c, st)) : zm_joins b (p ++ st) cs = (cs ++ p.map (fun x => (x, 0, 0)), st) := by
  rcases hp with rfl | rfl
  · rw [List.nil_append, h]
    exact congrArg (fun q => (q, st)) (List.append_nil cs).symm
  · show zm_joins b st (cs ++ [(78, 0, 0)]) = _
    rw [h]
    rfl
theorem zj_or {q st : List Nat} {cs : List ZO} (hq : q = [] ∨ q = [77]) (h : ∀ c, zm_joins true st c = (c, st)) : zm_joins true (q ++ st) cs = (cs ++ q.map (fun x => (x, 0, 0)), st) := by
  rcases hq with rfl | rfl
  · rw [List.nil_append, h]
    exact congrArg (fun q => (q, st)) (List.append_nil cs).symm
  · show zm_joins true st (cs ++ [(77, 0, 0)]) = _
    rw [h]
    rfl
theorem zb_p {p st : List Nat} (hp : p = [] ∨ p = [78]) (h : ZB st) : ∀ x s, p ++ st = x :: s → ¬ x = 79 := fun x s e => by
  rcases hp with rfl | rfl
  · exact (h x s e).1
  · have e2 : (78 : Nat) = x := by injection e
    omega
theorem zb_q {q st : List Nat} (hq : q = [] ∨ q = [77]) (h : ZC st) : ZB (q ++ st) := fun x s e => by
  rcases hq with rfl | rfl
  · exact (h.b x s e)
  · have e2 : (77 : Nat) = x := by injection e
    omega
theorem zf_all {k : Nat} {p q st : List Nat} {cs : List ZO} (hp : p = [] ∨ p = [78]) (hq : q = [] ∨ q = [77]) (h : ZC st) : zm_flush (List.replicate k 79 ++ (p ++ (q ++ st))) cs = (((cs ++ List.replicate k (79, 0, 0)) ++ p.map (fun x => (x, 0, 0))) ++ q.map (fun x => (x, 0, 0)), st) := by
  have hst : ∀ c, zm_joins true st c = (c, st) := fun c => zj_st h.b fun _ => h
  unfold zm_flush
  rw [zn_rep (zb_p hp (zb_q hq h))]
  rcases hp with rfl | rfl
  · show zm_joins true (q ++ st) (cs ++ List.replicate k (79, 0, 0)) = _
    rw [zj_or hq hst]
    show _ = (((cs ++ List.replicate k (79, 0, 0)) ++ []) ++ q.map (fun x => (x, 0, 0)), st)
    rw [List.append_nil]
  · show zm_joins true (q ++ st) ((cs ++ List.replicate k (79, 0, 0)) ++ [(78, 0, 0)]) = _
    rw [zj_or hq hst]
    rfl
variable {f : Nat → Nat → List ZO → ZR} {D : Nat}
theorem zs_join2 (hf : ∀ i o l st, zm_dp st = D → o ≤ 20 → ZP1 K (f i o l) i o l st) {i o : Nat} {l : List ZO} {st : List Nat} (hst : ZB st) (hD : zm_dp st = D) : ∀ (n : Nat) (r : ZR), ZP2 K n r i o l st → ZP2e K (z_join K 78 f n r) i o l st
  | 0, r, h => by
    cases r with
    | inl y =>
      have h1 := h.1
      have h2 := h.2.1
      omega
    | inr e => exact h
  | n + 1, r, h => by
    cases r with
    | inl y =>
      obtain ⟨h1, h2, h3, k, p, cs, hp, hl, hz⟩ := h
      by_cases c : (K y.1).k = 78
      · have e : z_join K 78 f (n + 1) (.inl y) = z_join K 78 f n (z_op 78 (f (y.1 + 1) y.2.1 y.2.2)) := if_pos c
        rw [e]
        have ej : zm_joins false (zm_nots (List.replicate k 79 ++ (p ++ st)) cs).2 (zm_nots (List.replicate k 79 ++ (p ++ st)) cs).1 = (y.2.2, st) := by
          rw [zn_rep (zb_p hp hst)]
          show zm_joins false (p ++ st) (cs ++ List.replicate k (79, 0, 0)) = _
          rw [zj_and hp fun c => zj_st hst fun q => absurd q (by decide), hl]
        have s1 : zm_step K (y.1, y.2.1, cs, List.replicate k 79 ++ (p ++ st), true) = .inl (y.1 + 1, y.2.1, y.2.2, 78 :: st, false) := by
          show (if (K y.1).k = 0 then _ else zm_beh K y.1 y.2.1 cs (List.replicate k 79 ++ (p ++ st))) = _
          rw [if_neg (by omega)]
          unfold zm_beh
          rw [if_pos c, ej]
        have z1 := hz.tr (Zr.st s1)
        have q := hf (y.1 + 1) y.2.1 y.2.2 (78 :: st) (by show 0 + zm_dp st = D; omega) h2
        refine zs_join2 hf hst hD n _ ?_
        cases ef : f (y.1 + 1) y.2.1 y.2.2 with
        | inl y2 =>
          rw [ef] at q
          obtain ⟨q1, q2, k2, cs2, ql, qz⟩ := q
          refine ⟨(show 21 ≤ y2.2.1 + n by omega), q1, (show o < y2.2.1 by omega), k2, [78], cs2, Or.inr rfl, ?_, z1.tr qz⟩
          show y2.2.2 ++ [(78, 0, 0)] = _
          rw [ql]
          rfl
        | inr e =>
          rw [ef] at q
          exact z1.fin q
      · have e : z_join K 78 f (n + 1) (.inl y) = .inl y := if_neg c
        rw [e]
        exact ⟨h2, h3, c, k, p, cs, hp, hl, hz⟩
    | inr e => exact h
theorem zs_all (hf : ∀ i o l st, zm_dp st = D → o ≤ 20 → ZP1 K (f i o l) i o l st) {i o : Nat} {l : List ZO} {st : List Nat} (hst : ZB st) (hD : zm_dp st = D) (ho : o ≤ 20) : ZP2e K (z_all K f i o l) i o l st := by
  refine zs_join2 hf hst hD 20 _ ?_
  have q := hf i o l st hD ho
  cases ef : f i o l with
  | inl y =>
    rw [ef] at q
    obtain ⟨q1, q2, k, cs, ql, qz⟩ := q
    refine ⟨(show 21 ≤ y.2.1 + 20 by omega), q1, q2, k, [], cs, Or.inl rfl, ?_, qz⟩
    rw [ql]
    exact (List.append_nil _).symm
  | inr e =>
    rw [ef] at q
    exact q
theorem zs_join3 (hf : ∀ i o l st, zm_dp st = D → o ≤ 20 → ZP1 K (f i o l) i o l st) {i o : Nat} {l : List ZO} {st : List Nat} (hst : ZC st) (hD : zm_dp st = D) : ∀ (n : Nat) (r : ZR), ZP3 K n r i o l st → ZP3e K (z_join K 77 (z_all K f) n r) i o l st
  | 0, r, h => by
    cases r with
    | inl y =>
      have h1 := h.1
      have h2 := h.2.1
      omega
    | inr e => exact h
  | n + 1, r, h => by
    cases r with
    | inl y =>
      obtain ⟨h1, h2, h3, h4, k, p, q0, cs, hp, hq, hl, hz⟩ := h
      have ez : zm_flush (List.replicate k 79 ++ (p ++ (q0 ++ st))) cs = (y.2.2, st) := by rw [zf_all hp hq hst, hl]
      by_cases c : (K y.1).k = 77
      · have e : z_join K 77 (z_all K f) (n + 1) (.inl y) = z_join K 77 (z_all K f) n (z_op 77 (z_all K f (y.1 + 1) y.2.1 y.2.2)) := if_pos c
        rw [e]
        have s1 : zm_step K (y.1, y.2.1, cs, List.replicate k 79 ++ (p ++ (q0 ++ st)), true) = .inl (y.1 + 1, y.2.1, y.2.2, 77 :: st, false) := by
          show (if (K y.1).k = 0 then _ else zm_beh K y.1 y.2.1 cs (List.replicate k 79 ++ (p ++ (q0 ++ st)))) = _
          rw [if_neg (by omega)]
          unfold zm_beh
          rw [if_neg h4, if_pos c, ez]
        have z1 := hz.tr (Zr.st s1)
        have q := zs_all hf (i := y.1 + 1) (o := y.2.1) (l := y.2.2) (st := 77 :: st) (zb_q (q := [77]) (Or.inr rfl) hst) (by show 0 + zm_dp st = D; omega) h2
        refine zs_join3 hf hst hD n _ ?_
        cases ef : z_all K f (y.1 + 1) y.2.1 y.2.2 with
        | inl y2 =>
          rw [ef] at q
          obtain ⟨q1, q2, q3, k2, p2, cs2, qp, ql, qz⟩ := q
          refine ⟨(show 21 ≤ y2.2.1 + n by omega), q1, (show o < y2.2.1 by omega), q3, k2, p2, [77], cs2, qp, Or.inr rfl, ?_, z1.tr qz⟩
          show y2.2.2 ++ [(77, 0, 0)] = _
          rw [ql]
          rfl
        | inr e =>
          rw [ef] at q
          exact z1.fin q
      · have e : z_join K 77 (z_all K f) (n + 1) (.inl y) = .inl y := if_neg c
        rw [e]
        exact ⟨h2, h3, h4, c, _, cs, ez, hz⟩
    | inr e => exact h
theorem zs_cond (hf : ∀ i o l st, zm_dp st = D → o ≤ 20 → ZP1 K (f i o l) i o l st) {i o : Nat} {l : List ZO} {st : List Nat} (hst : ZC st) (hD : zm_dp st = D) (ho : o ≤ 20) : ZP3e K (z_cond K f i o l) i o l st := by
  refine zs_join3 hf hst hD 20 _ ?_
  have q := zs_all hf (i := i) (o := o) (l := l) hst.b hD ho
  cases ef : z_all K f i o l with
  | inl y =>
    rw [ef] at q
    obtain ⟨q1, q2, q3, k, p, cs, qp, ql, qz⟩ := q
    refine ⟨(show 21 ≤ y.2.1 + 20 by omega), q1, q2, q3, k, p, [], cs, qp, Or.inl rfl, ?_, qz⟩
    rw [ql]
    exact (List.append_nil _).symm
  | inr e =>
    rw [ef] at q
    exact q
end ZMS
theorem z_leaf_o {K : Nat → TT} {i o : Nat} {l : List ZO} {y : Nat × Nat × List ZO} (h : z_leaf K i o l = .inl y) : y.2.1 = o := by
  unfold z_leaf at h
  split at h
  · split at h
    · obtain rfl := Sum.inl.inj h
      rfl
    · cases h
  · split at h
    · split at h
      · obtain rfl := Sum.inl.inj h
        rfl
      · cases h
    · cases h
theorem zs_one {K : Nat → TT} : ∀ (d i o : Nat) (l : List ZO) (st : List Nat), d + zm_dp st = 8 → o ≤ 20 → ZP1 K (z_one K d i o l) i o l st
  | 0, i, o, l, st, hd, ho => by
    by_cases c : z_is K i
    · have e : z_one K 0 i o l = zn 4 i := if_pos c
      rw [e]
      refine ZT.st ?_
      show zm_opd K i o l st = _
      unfold zm_opd
      rw [if_pos c, if_pos (Or.inr (by omega))]
    · have e : z_one K 0 i o l = zn 1 i := if_neg c
      rw [e]
      refine ZT.st ?_
      show zm_opd K i o l st = _
      unfold zm_opd
      rw [if_neg c]
  | d + 1, i, o, l, st, hd, ho => by
    by_cases c : z_is K i
    · by_cases c2 : 20 ≤ o
      · have e : z_one K (d + 1) i o l = zn 4 i := by
          show (if z_is K i then _ else _) = _
          rw [if_pos c, if_pos c2]
        rw [e]
        refine ZT.st ?_
        show zm_opd K i o l st = _
        unfold zm_opd
        rw [if_pos c, if_pos (Or.inl c2)]
      · have c3 : ¬ (20 ≤ o ∨ 8 ≤ zm_dp st) := by omega
        by_cases k40 : (K i).k = 40
        · have e : z_one K (d + 1) i o l = z_close K (z_cond K (z_one K d) (i + 1) (o + 1) l) := by
            show (if z_is K i then _ else _) = _
            rw [if_pos c, if_neg c2, if_pos k40]
          rw [e]
          have s1 : zm_step K (i, o, l, st, false) = .inl (i + 1, o + 1, l, 40 :: st, false) := by
            show zm_opd K i o l st = _
            unfold zm_opd
            rw [if_pos c, if_neg c3, if_pos k40]
          have q := zs_cond (K := K) (f := z_one K d) (D := 8 - d) (fun i o l st hD ho => zs_one d i o l st (by omega) ho) (i := i + 1) (o := o + 1) (l := l) (st := 40 :: st) (fun x s e => by injection e with e1 e2; omega) (by show 1 + zm_dp st = 8 - d; omega) (by omega)
          cases ef : z_cond K (z_one K d) (i + 1) (o + 1) l with
          | inl y =>
            rw [ef] at q
            obtain ⟨q1, q2, q3, q4, s, cs, qf, qz⟩ := q
            have z1 := (Zr.st s1).tr qz
            by_cases k41 : (K y.1).k = 41
            · have e2 : z_close K (.inl y) = zy (y.1 + 1) y.2.1 y.2.2 := if_pos k41
              rw [e2]
              refine ⟨q1, (show o < y.2.1 by omega), 0, y.2.2, (List.append_nil _).symm, z1.tr (Zr.st ?_)⟩
              show (if (K y.1).k = 0 then _ else zm_beh K y.1 y.2.1 cs s) = _
              rw [if_neg (by omega)]
              unfold zm_beh
              rw [if_neg q3, if_neg q4, qf]
              exact if_pos k41
            · have e2 : z_close K (.inl y) = zn 1 y.1 := if_neg k41
              rw [e2]
              refine z1.fin (ZT.st ?_)
              by_cases k0 : (K y.1).k = 0
              · show (if (K y.1).k = 0 then zm_fin y.1 y.2.1 cs s else _) = _
                rw [if_pos k0]
                unfold zm_fin
                rw [qf]
              · show (if (K y.1).k = 0 then _ else zm_beh K y.1 y.2.1 cs s) = _
                rw [if_neg k0]
                unfold zm_beh
                rw [if_neg q3, if_neg q4, qf]
                exact if_neg k41
          | inr e2 =>
            rw [ef] at q
            exact (Zr.st s1).fin q
        · by_cases k79 : (K i).k = 79
          · have e : z_one K (d + 1) i o l = z_op 79 (z_one K d (i + 1) (o + 1) l) := by
              show (if z_is K i then _ else _) = _
              rw [if_pos c, if_neg c2, if_neg k40, if_pos k79]
            rw [e]
            have s1 : zm_step K (i, o, l, st, false) = .inl (i + 1, o + 1, l, 79 :: st, false) := by
              show zm_opd K i o l st = _
              unfold zm_opd
              rw [if_pos c, if_neg c3, if_neg k40, if_pos k79]
            have q := zs_one (K := K) d (i + 1) (o + 1) l (79 :: st) (by show d + (1 + zm_dp st) = 8; omega) (by omega)
            cases ef : z_one K d (i + 1) (o + 1) l with
            | inl y =>
              rw [ef] at q
              obtain ⟨q1, q2, k, cs, ql, qz⟩ := q
              refine ⟨q1, (show o < y.2.1 by omega), k + 1, cs, ?_, ?_⟩
              · show y.2.2 ++ [(79, 0, 0)] = _
                rw [ql, List.append_assoc, List.replicate_succ']
              · have z1 := (Zr.st s1).tr qz
                rw [show List.replicate (k + 1) 79 ++ st = List.replicate k 79 ++ 79 :: st by rw [List.replicate_succ', List.append_assoc]; rfl]
                exact z1
            | inr e2 =>
              rw [ef] at q
              exact (Zr.st s1).fin q
          · have e : z_one K (d + 1) i o l = z_leaf K i (o + 1) l := by
              show (if z_is K i then _ else _) = _
              rw [if_pos c, if_neg c2, if_neg k40, if_neg k79]
            rw [e]
            have s1 : zm_step K (i, o, l, st, false) = zm_lf st (z_leaf K i (o + 1) l) := by
              show zm_opd K i o l st = _
              unfold zm_opd
              rw [if_pos c, if_neg c3, if_neg k40, if_neg k79]
            cases ef : z_leaf K i (o + 1) l with
            | inl y =>
              rw [ef] at s1
              have eo := z_leaf_o ef
              refine ⟨(show y.2.1 ≤ 20 by omega), (show o < y.2.1 by omega), 0, y.2.2, (List.append_nil _).symm, Zr.st s1⟩
            | inr e2 =>
              rw [ef] at s1
              exact ZT.st s1
    · have e : z_one K (d + 1) i o l = zn 1 i := by
        show (if z_is K i then _ else _) = _
        rw [if_neg c]
      rw [e]
      refine ZT.st ?_
      show zm_opd K i o l st = _
      unfold zm_opd
      rw [if_neg c]
/-- by the stack it comes to the same -/
theorem zs_sen {K : Nat → TT} : ZT K (0, 0, [], [], false) (z_sen K) := by
  have q := zs_cond (K := K) (f := z_one K 8) (D := 0) (fun i o l st hD ho => zs_one 8 i o l st (by omega) ho) (i := 0) (o := 0) (l := []) (st := []) (fun x s e => by cases e) rfl (by omega)
  unfold z_sen
  cases ef : z_cond K (z_one K 8) 0 0 [] with
  | inl y =>
    rw [ef] at q
    obtain ⟨q1, q2, q3, q4, s, cs, qf, qz⟩ := q
    refine qz.fin (ZT.st ?_)
    by_cases k0 : (K y.1).k = 0
    · have e2 : z_top K (.inl y) = .inl y := if_pos k0
      rw [e2]
      show (if (K y.1).k = 0 then zm_fin y.1 y.2.1 cs s else _) = _
      rw [if_pos k0]
      unfold zm_fin
      rw [qf]
    · have e2 : z_top K (.inl y) = zn 1 y.1 := if_neg k0
      rw [e2]
      show (if (K y.1).k = 0 then _ else zm_beh K y.1 y.2.1 cs s) = _
      rw [if_neg k0]
      unfold zm_beh
      rw [if_neg q3, if_neg q4, qf]
  | inr e =>
    rw [ef] at q
    exact q
