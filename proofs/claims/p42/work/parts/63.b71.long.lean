/-! ===== longs ===== -/
theorem fl_putl {hp : ab_H} {a c k : Nat} {fs : List Value} {x y : Int64} (e : hp.2 a = .inr (c, fs)) (hy : fs[k]? = some (.long y)) : fl (ab_up hp a (.inr (c, fs.set k (.long x)))) = fpl (fl hp) a k x := by
  have hk : k < fs.length := (List.getElem?_eq_some_iff.mp hy).1
  refine Prod.ext (funext fun p => funext fun j => ?_) (Prod.ext (funext fun p => funext fun j => ?_) (Prod.ext (funext fun p => funext fun j => ?_) (Prod.ext rfl (funext fun p => ?_))))
  · show gi _ p j = gi hp p j
    by_cases h1 : p = a
    · subst h1
      unfold gi
      rw [ab_up_eq, e]
      dsimp only
      by_cases h2 : j = k
      · subst h2
        rw [List.getElem?_set_self hk, hy]
      · rw [List.getElem?_set_ne (Ne.symm h2)]
    · unfold gi
      rw [ab_up_ne h1]
  · show gr _ p j = gr hp p j
    by_cases h1 : p = a
    · subst h1
      unfold gr
      rw [ab_up_eq, e]
      dsimp only
      by_cases h2 : j = k
      · subst h2
        rw [List.getElem?_set_self hk, hy]
      · rw [List.getElem?_set_ne (Ne.symm h2)]
    · unfold gr
      rw [ab_up_ne h1]
  · show gl _ p j = if p = a ∧ j = k then x else gl hp p j
    by_cases h1 : p = a
    · subst h1
      by_cases h2 : j = k
      · subst h2
        rw [if_pos ⟨rfl, rfl⟩]
        unfold gl
        rw [ab_up_eq]
        dsimp only
        rw [List.getElem?_set_self hk]
      · rw [if_neg (fun q => h2 q.2)]
        unfold gl
        rw [ab_up_eq, e]
        dsimp only
        rw [List.getElem?_set_ne (Ne.symm h2)]
    · rw [if_neg (fun q => h1 q.1)]
      unfold gl
      rw [ab_up_ne h1]
  · show gn _ p = gn hp p
    unfold gn
    by_cases h1 : p = a
    · subst h1
      rw [ab_up_eq, e]
    · rw [ab_up_ne h1]
section PVL
variable {T : Nat → Option ab_A} {N i j : Nat} {lo : List (Option Value)} {st : List Value} {F : FW} {Q : Option Value → FW → Prop}
theorem Pv.putL {ci k kd a : Nat} {x : Int64} (hT : T i = some (ab_nx j (ab_putf ci k kd))) (hk : fk ci k = 2) (h : Pv T N j lo st (fpl F a k x) Q) : Pv T N i lo (.long x :: .ref a :: st) F Q :=
  (Pv.nx hT fun u hp s hw hF e => by
    obtain ⟨fs, ha, -, hc, hl, rfl⟩ := v_putf e
    refine ⟨wt_up hw ha hc (Or.inr (by rw [hk]; rfl)), ?_⟩
    show Pv T N j lo st (fl (ab_up hp a (.inr (ci, fs.set k (.long x))))) Q
    have hv : fs[k]? = some fs[k] := List.getElem?_eq_getElem hl
    have hy := (hw a ci fs k _ ha hc hv).resolve_left (by rw [hk]; decide)
    rw [hk] at hy
    cases e2 : fs[k] with
    | long y =>
      rw [e2] at hv
      rw [fl_putl hc hv, hF]
      exact h
    | _ =>
      rw [e2] at hy
      cases hy).w
theorem Pv.lbin {g : Int64 → Int64 → Int64} {x y z : Int64} (hT : T i = some (ab_nx j (ab_lbin g))) (hz : g x y = z) (h : Pv T N j lo (.long z :: st) F Q) : Pv T N i lo (.long y :: .long x :: st) F Q := (Pv.pu hT (fun _ _ _ e => by
  rw [← hz]
  exact (Option.some.inj e).symm) h).w
theorem Pv.lsh {g : Int64 → Int32 → Int64} {x z : Int64} {y : Int32} (hT : T i = some (ab_nx j (ab_lsh g))) (hz : g x y = z) (h : Pv T N j lo (.long z :: st) F Q) : Pv T N i lo (.int y :: .long x :: st) F Q := (Pv.pu hT (fun _ _ _ e => by
  rw [← hz]
  exact (Option.some.inj e).symm) h).w
theorem Pv.lcmp {x y : Int64} {z : Int32} (hT : T i = some (ab_nx j ab_lcmp)) (hz : lg_cmp x y = z) (h : Pv T N j lo (.int z :: st) F Q) : Pv T N i lo (.long y :: .long x :: st) F Q := (Pv.pu hT (fun _ _ _ e => by
  rw [← hz]
  exact (Option.some.inj e).symm) h).w
theorem Pv.i2l {x : Int32} {z : Int64} (hT : T i = some (ab_nx j ab_i2l)) (hz : x.toInt64 = z) (h : Pv T N j lo (.long z :: st) F Q) : Pv T N i lo (.int x :: st) F Q := (Pv.pu hT (fun _ _ _ e => by
  rw [← hz]
  exact (Option.some.inj e).symm) h).w
theorem Pv.l2i {x : Int64} {z : Int32} (hT : T i = some (ab_nx j ab_l2i)) (hz : x.toInt32 = z) (h : Pv T N j lo (.int z :: st) F Q) : Pv T N i lo (.long x :: st) F Q := (Pv.pu hT (fun _ _ _ e => by
  rw [← hz]
  exact (Option.some.inj e).symm) h).w
theorem Pv.lstore {k : Nat} {x : Int64} {lo' : List (Option Value)} (hT : T i = some (ab_nx j (ab_lstore k))) (hl : (lo.set k (some (.long x))).set (k + 1) none = lo') (h : Pv T N j lo' st F Q) : Pv T N i lo (.long x :: st) F Q := (Pv.pu hT (fun u hp s e => by
  unfold ab_lstore at e
  dsimp only at e
  rw [Bool.cond_eq_ite] at e
  split at e
  · rw [← hl]
    exact (Option.some.inj e).symm
  · cases e) h).w
theorem Pv.lastk {a k : Nat} {x : Int32} {y : Int64} (hT : T i = some (ab_nx j ab_last)) (hx : x.toNatClampNeg = k) (h : Pv T N j lo st (fpl F a k y) Q) : Pv T N i lo (.long y :: .int x :: .ref a :: st) F Q := by
  subst hx
  exact Pv.last hT h
end PVL
theorem fpl_eq {F : FW} {a k : Nat} {x : Int64} : (fpl F a k x).2.2.1 a k = x := if_pos ⟨rfl, rfl⟩
theorem fpl_ne {F : FW} {a k p j : Nat} {x : Int64} (h : p ≠ a ∨ j ≠ k) : (fpl F a k x).2.2.1 p j = F.2.2.1 p j := if_neg (fun c => h.elim (fun h => h c.1) (fun h => h c.2))
theorem fcp_l0 {F : FW} {a b n j : Nat} (h : j < n) : (fcp F a b 0 0 n).2.2.1 b j = F.2.2.1 a j := (if_pos (show b = b ∧ 0 ≤ j ∧ j < 0 + n from ⟨rfl, Nat.zero_le _, by omega⟩)).trans (congrArg (F.2.2.1 a) (by omega))
theorem fcp_lne {F : FW} {a b sp dp n p j : Nat} (h : p ≠ b) : (fcp F a b sp dp n).2.2.1 p j = F.2.2.1 p j := if_neg (fun c => h c.1)
theorem FX.fpl {P : Nat → Prop} {F G : FW} {a k : Nat} {x : Int64} (h : FX P F G) (ha : P a) : FX P F (fpl G a k x) := ⟨h.1, fun q j c => (fpl_ne (Or.inl (fun e : q = a => c (by rw [e]; exact ha)))).trans (h.2.1 q j c), h.2.2⟩
/-- equal longs -/
theorem lcmp_0 {x y : Int64} : lg_cmp x y = 0 ↔ x = y := lg_cmp_eq x y
theorem fpl_i {F : FW} {a k p j : Nat} {x : Int64} : (fpl F a k x).1 p j = F.1 p j := rfl
theorem fp_l {F : FW} {a k p j : Nat} {x : Int32} : (fp F a k x).2.2.1 p j = F.2.2.1 p j := rfl
