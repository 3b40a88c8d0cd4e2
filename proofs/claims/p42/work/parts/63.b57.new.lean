/-! ===== new objects and arrays ===== -/
/-- one more place, of blank fields or elements, n long -/
def fnw (F : FW) (n : Nat) : FW := (fun p j => if p = F.2.2.2.1 then 0 else F.1 p j, fun p j => if p = F.2.2.2.1 then .null else F.2.1 p j, fun p j => if p = F.2.2.2.1 then 0 else F.2.2.1 p j, F.2.2.2.1 + 1, fun p => if p = F.2.2.2.1 then n else F.2.2.2.2 p)
theorem fl_new {hp : ab_H} {c : Nat} {fs : List Value} (h : ∀ v, v ∈ fs → v = .null ∨ v = .int 0 ∨ v = .long 0) : fl (ab_push hp (.inr (c, fs))) = fnw (fl hp) 0 := by
  have hv : ∀ j : Nat, fs[j]? = none ∨ fs[j]? = some Value.null ∨ fs[j]? = some (Value.int 0) ∨ fs[j]? = some (Value.long 0) := fun j => by
    cases e : fs[j]? with
    | none => exact Or.inl rfl
    | some v =>
      rcases h v (List.mem_of_getElem? e) with rfl | rfl | rfl
      · exact Or.inr (Or.inl rfl)
      · exact Or.inr (Or.inr (Or.inl rfl))
      · exact Or.inr (Or.inr (Or.inr rfl))
  refine Prod.ext (funext fun p => funext fun j => ?_) (Prod.ext (funext fun p => funext fun j => ?_) (Prod.ext (funext fun p => funext fun j => ?_) (Prod.ext rfl (funext fun p => ?_))))
  · show gi _ p j = if p = hp.1 then 0 else gi hp p j
    unfold gi ab_push
    by_cases c1 : p = hp.1
    · rw [if_pos c1]
      dsimp only
      rw [if_pos c1]
      dsimp only
      rcases hv j with e | e | e | e <;> rw [e]
    · rw [if_neg c1]
      dsimp only
      rw [if_neg c1]
  · show gr _ p j = if p = hp.1 then .null else gr hp p j
    unfold gr ab_push
    by_cases c1 : p = hp.1
    · rw [if_pos c1]
      dsimp only
      rw [if_pos c1]
      dsimp only
      rcases hv j with e | e | e | e <;> rw [e]
    · rw [if_neg c1]
      dsimp only
      rw [if_neg c1]
  · show gl _ p j = if p = hp.1 then 0 else gl hp p j
    unfold gl ab_push
    by_cases c1 : p = hp.1
    · rw [if_pos c1]
      dsimp only
      rw [if_pos c1]
      dsimp only
      rcases hv j with e | e | e | e <;> rw [e]
    · rw [if_neg c1]
      dsimp only
      rw [if_neg c1]
  · show gn _ p = if p = hp.1 then 0 else gn hp p
    unfold gn ab_push
    by_cases c1 : p = hp.1
    · rw [if_pos c1]
      dsimp only
      rw [if_pos c1]
    · rw [if_neg c1]
      dsimp only
      rw [if_neg c1]
theorem fl_newa {hp : ab_H} {t n : Nat} : fl (ab_push hp (.inl (t, n, .inl (fun _ => 0)))) = fnw (fl hp) n := by
  refine Prod.ext (funext fun p => funext fun j => ?_) (Prod.ext (funext fun p => funext fun j => ?_) (Prod.ext (funext fun p => funext fun j => ?_) (Prod.ext rfl (funext fun p => ?_))))
  · show gi _ p j = if p = hp.1 then 0 else gi hp p j
    unfold gi ab_push
    by_cases c1 : p = hp.1
    · rw [if_pos c1]
      dsimp only
      rw [if_pos c1]
    · rw [if_neg c1]
      dsimp only
      rw [if_neg c1]
  · show gr _ p j = if p = hp.1 then .null else gr hp p j
    unfold gr ab_push
    by_cases c1 : p = hp.1
    · rw [if_pos c1]
      dsimp only
      rw [if_pos c1]
    · rw [if_neg c1]
      dsimp only
      rw [if_neg c1]
  · show gl _ p j = if p = hp.1 then 0 else gl hp p j
    unfold gl ab_push
    by_cases c1 : p = hp.1
    · rw [if_pos c1]
      dsimp only
      rw [if_pos c1]
    · rw [if_neg c1]
      dsimp only
      rw [if_neg c1]
  · show gn _ p = if p = hp.1 then n else gn hp p
    unfold gn ab_push
    by_cases c1 : p = hp.1
    · rw [if_pos c1]
      dsimp only
      rw [if_pos c1]
    · rw [if_neg c1]
      dsimp only
      rw [if_neg c1]
theorem fl_newl {hp : ab_H} {t n : Nat} : fl (ab_push hp (.inl (t, n, .inr (.inl (fun _ => 0))))) = fnw (fl hp) n := by
  refine Prod.ext (funext fun p => funext fun j => ?_) (Prod.ext (funext fun p => funext fun j => ?_) (Prod.ext (funext fun p => funext fun j => ?_) (Prod.ext rfl (funext fun p => ?_))))
  · show gi _ p j = if p = hp.1 then 0 else gi hp p j
    unfold gi ab_push
    by_cases c1 : p = hp.1
    · rw [if_pos c1]
      dsimp only
      rw [if_pos c1]
    · rw [if_neg c1]
      dsimp only
      rw [if_neg c1]
  · show gr _ p j = if p = hp.1 then .null else gr hp p j
    unfold gr ab_push
    by_cases c1 : p = hp.1
    · rw [if_pos c1]
      dsimp only
      rw [if_pos c1]
    · rw [if_neg c1]
      dsimp only
      rw [if_neg c1]
  · show gl _ p j = if p = hp.1 then 0 else gl hp p j
    unfold gl ab_push
    by_cases c1 : p = hp.1
    · rw [if_pos c1]
      dsimp only
      rw [if_pos c1]
    · rw [if_neg c1]
      dsimp only
      rw [if_neg c1]
  · show gn _ p = if p = hp.1 then n else gn hp p
    unfold gn ab_push
    by_cases c1 : p = hp.1
    · rw [if_pos c1]
      dsimp only
      rw [if_pos c1]
    · rw [if_neg c1]
      dsimp only
      rw [if_neg c1]
section PVN
variable {T : Nat → Option ab_A} {N i j : Nat} {lo : List (Option Value)} {st : List Value} {F : FW} {Q : Option Value → FW → Prop}
theorem Pv.new {ci n MC MS : Nat} {fs : List Value} (hT : T i = some (ab_nx j (ab_new ci n fs MC MS))) (h0 : ∀ v, v ∈ fs → v = .null ∨ v = .int 0 ∨ v = .long 0) (h1 : ∀ k, k < fs.length → fk ci k = 9 ∨ tyv (fk ci k) (fs.getD k .null) = true) (h : Pv T N j lo (.ref F.2.2.2.1 :: st) (fnw F 0) Q) : Pv T N i lo st F Q :=
  (Pv.nx hT fun u hp s hw hF e => by
    unfold ab_new at e
    dsimp only at e
    rw [Bool.cond_eq_ite] at e
    split at e
    · obtain rfl := Option.some.inj e
      refine ⟨wt_push hw fun k v hv => ?_, ?_⟩
      · have hk := (List.getElem?_eq_some_iff.mp hv).1
        have := h1 k hk
        rw [show fs.getD k .null = v from by rw [List.getD_eq_getElem?_getD, hv]; rfl] at this
        exact this
      · show Pv T N j lo (.ref hp.1 :: st) (fl (ab_push hp (.inr (ci, fs)))) Q
        rw [fl_new h0, hF, show hp.1 = F.2.2.2.1 from by rw [← hF]; rfl]
        exact h
    · cases e).w
theorem Pv.newa {t MC MS k : Nat} {n : Int32} (hT : T i = some (ab_nx j (ab_newa t (fun n => (n, .inl (fun _ => 0))) MC MS))) (hn : n.toNatClampNeg = k) (h : Pv T N j lo (.ref F.2.2.2.1 :: st) (fnw F k) Q) : Pv T N i lo (.int n :: st) F Q :=
  (Pv.nx hT fun u hp s hw hF e => by
    unfold ab_newa at e
    dsimp only at e
    rw [Bool.cond_eq_ite] at e
    split at e
    · obtain rfl := Option.some.inj e
      refine ⟨wt_pushA hw, ?_⟩
      show Pv T N j lo (.ref hp.1 :: st) (fl (ab_push hp (.inl (t, n.toNatClampNeg, .inl (fun _ => 0))))) Q
      rw [fl_newa, hF, show hp.1 = F.2.2.2.1 from by rw [← hF]; rfl, hn]
      exact h
    · cases e).w
theorem Pv.newl {t MC MS k : Nat} {n : Int32} (hT : T i = some (ab_nx j (ab_newa t (fun n => (n, .inr (.inl (fun _ => 0)))) MC MS))) (hn : n.toNatClampNeg = k) (h : Pv T N j lo (.ref F.2.2.2.1 :: st) (fnw F k) Q) : Pv T N i lo (.int n :: st) F Q :=
  (Pv.nx hT fun u hp s hw hF e => by
    unfold ab_newa at e
    dsimp only at e
    rw [Bool.cond_eq_ite] at e
    split at e
    · obtain rfl := Option.some.inj e
      refine ⟨wt_pushA hw, ?_⟩
      show Pv T N j lo (.ref hp.1 :: st) (fl (ab_push hp (.inl (t, n.toNatClampNeg, .inr (.inl (fun _ => 0)))))) Q
      rw [fl_newl, hF, show hp.1 = F.2.2.2.1 from by rw [← hF]; rfl, hn]
      exact h
    · cases e).w
end PVN
/-- an object at p and some places behind it are new: all that was there stays -/
def NWF (p n : Nat) (F F' : FW) : Prop := F'.2.2.2.1 = F.2.2.2.1 + n ∧ ∀ a, a < F.2.2.2.1 → a ≠ p → (∀ k, F'.1 a k = F.1 a k) ∧ (∀ k, F'.2.1 a k = F.2.1 a k) ∧ (∀ k, F'.2.2.1 a k = F.2.2.1 a k) ∧ F'.2.2.2.2 a = F.2.2.2.2 a
/-- an array is made, and a field of p refers to it -/
theorem NWF.st {p n k j : Nat} {F G : FW} (h : NWF p n F G) : NWF p (n + 1) F (fpr (fnw G k) p j (.ref G.2.2.2.1)) := by
  refine ⟨?_, fun a ha hp => ?_⟩
  · show G.2.2.2.1 + 1 = _
    rw [h.1]
    omega
  · obtain ⟨h1, h2, h3, h4⟩ := h.2 a ha hp
    have hz : a ≠ G.2.2.2.1 := by
      rw [h.1]
      omega
    refine ⟨fun k => ?_, fun k => ?_, fun k => ?_, ?_⟩
    · exact (if_neg hz).trans (h1 k)
    · exact (if_neg (fun c => hp c.1)).trans ((if_neg hz).trans (h2 k))
    · exact (if_neg hz).trans (h3 k)
    · exact (if_neg hz).trans h4
theorem NWF.rf {p : Nat} {F : FW} : NWF p 0 F F := ⟨rfl, fun _ _ _ => ⟨fun _ => rfl, fun _ => rfl, fun _ => rfl, rfl⟩⟩
/-- the fields of p refer to the n places behind it -/
def OR_ (G : FW) (p n : Nat) : Prop := ∀ j, j < n → G.2.1 p j = .ref (p + 1 + j)
theorem OR_.st {p n k : Nat} {F G : FW} (w : NWF p n F G) (hz : F.2.2.2.1 = p + 1) (h : OR_ G p n) : OR_ (fpr (fnw G k) p n (.ref G.2.2.2.1)) p (n + 1) := fun j hj => by
  have e : G.2.2.2.1 = p + 1 + n := by
    rw [w.1, hz]
  by_cases c : j = n
  · subst c
    exact (if_pos ⟨rfl, rfl⟩).trans (congrArg Value.ref e)
  · exact (if_neg (fun q => c q.2)).trans ((if_neg (by rw [e]; omega)).trans (h j (by omega)))
theorem NWF.i {p n k : Nat} {v : Int32} {F G : FW} (h : NWF p n F G) : NWF p n F (fp G p k v) := ⟨h.1, fun a ha hp => by
  obtain ⟨h1, h2, h3, h4⟩ := h.2 a ha hp
  exact ⟨fun j => (fp_ne (Or.inl hp)).trans (h1 j), h2, h3, h4⟩⟩
theorem fpr_eq {F : FW} {a k : Nat} {v : Value} : (fpr F a k v).2.1 a k = v := if_pos ⟨rfl, rfl⟩
theorem fpr_ne {F : FW} {a k p j : Nat} {v : Value} (h : p ≠ a ∨ j ≠ k) : (fpr F a k v).2.1 p j = F.2.1 p j := if_neg (fun c => h.elim (fun h => h c.1) (fun h => h c.2))
theorem Pv.aastk {T : Nat → Option ab_A} {N i j : Nat} {lo : List (Option Value)} {st : List Value} {F : FW} {Q : Option Value → FW → Prop} {t ci a v k : Nat} {x : Int32} (hT : T i = some (ab_nx j (ab_aast t ci))) (hx : x.toNatClampNeg = k) (h : Pv T N j lo st (fpr F a k (.ref v)) Q) : Pv T N i lo (.ref v :: .int x :: .ref a :: st) F Q := by
  subst hx
  exact Pv.aast hT h
theorem ifn {p q : Prop} [Decidable p] [Decidable q] {a b : Nat} (h : p ↔ q) : (if p then a else b) = if q then a else b := by
  by_cases c : p
  · rw [if_pos c, if_pos (h.mp c)]
  · rw [if_neg c, if_neg (fun e => c (h.mpr e))]
theorem SHR.sm {F G : FW} {p m : Nat} {S : Sh} (h : SHR F p m S) (x : ∀ a k, p ≤ a → a ≤ p + 7 → G.1 a k = F.1 a k) (y : ∀ k, G.2.1 p k = F.2.1 p k) : SHR G p m S :=
  ⟨fun j hj => (y j).trans (h.o j hj), h.db, fun j hj => (x _ _ (by omega) (by omega)).trans (h.s j hj), fun j hj => (x _ _ (by omega) (by omega)).trans (h.h j hj), fun j hj => (x _ _ (by omega) (by omega)).trans (h.u j hj), fun j hj => (x _ _ (by omega) (by omega)).trans (h.c j hj), fun j hj => (x _ _ (by omega) (by omega)).trans (h.a j hj), fun j hj => (x _ _ (by omega) (by omega)).trans (h.t j hj), fun j hj => (x _ _ (by omega) (by omega)).trans (h.p j hj),
   (x _ _ (by omega) (by omega)).trans h.d, (x _ _ (by omega) (by omega)).trans h.i, (x _ _ (by omega) (by omega)).trans h.r⟩
/-- a state kept in a new place -/
def KBF (F F' : FW) (m : Nat) : Prop := F'.2.2.2.1 = F.2.2.2.1 + 8 ∧ F'.1 10 1 = Int32.ofNat (m + 1) ∧ F'.2.1 11 m = .ref F.2.2.2.1 ∧ (∀ a k, a < F.2.2.2.1 → a ≠ 10 → F'.1 a k = F.1 a k) ∧ (∀ a k, a < F.2.2.2.1 → ¬ (a = 11 ∧ k = m) → F'.2.1 a k = F.2.1 a k) ∧ ∀ a k, a < F.2.2.2.1 → F'.2.2.1 a k = F.2.2.1 a k
theorem kbF {F G H K : FW} {z m : Nat} (hz : z = F.2.2.2.1) (fz : ∀ a, a < z → (∀ k, G.1 a k = F.1 a k) ∧ (∀ k, G.2.1 a k = F.2.1 a k) ∧ (∀ k, G.2.2.1 a k = F.2.2.1 a k)) (gz : G.2.2.2.1 = z + 8) (hH : H = fpr G 11 m (.ref z)) (x : FX (fun q => z ≤ q ∧ q ≤ z + 7) H K) : KBF F (fp K 10 1 (Int32.ofNat (m + 1))) m := by
  subst hz hH
  refine ⟨?_, fp_eq, ?_, fun a k ha h10 => ?_, fun a k ha hn => ?_, fun a k ha => ?_⟩
  · show K.2.2.2.1 = _
    rw [x.2.2.2]
    exact gz
  · show K.2.1 11 m = _
    rw [x.2.2.1]
    exact fpr_eq
  · exact (fp_ne (Or.inl h10)).trans ((x.1 a k (by omega)).trans ((fz a ha).1 k))
  · show K.2.1 a k = _
    rw [x.2.2.1]
    exact (if_neg hn).trans ((fz a ha).2.1 k)
  · exact (x.2.1 a k (by omega)).trans ((fz a ha).2.2 k)
