/-! ===== man: what it answers, or that it throws ===== -/
def a_man (T : St) (S : Sh) (x w : Int32) : Option Int32 := match nd (t_m T) x with
  | none => none
  | some m => match nd 5 w with
    | none => none
    | some k => match k with
      | 0 => some (h_a S m)
      | 1 => some (m_missers T S m)
      | 2 => some (m_misses T S m)
      | 3 => some (h_t S m)
      | _ => some (b2i (m_alive S m))
def oM (o : Option Int32) : Value := match o with
  | none => .retAddr 99
  | some v => .int v
def oT (o : Option Int32) : Int32 := match o with
  | none => 1
  | some _ => 0
theorem q_n5 {w : Int32} (h : (decide ((0 : Int32) ≤ w) && decide (w ≤ 4)) = false) : nd 5 w = none := by
  unfold nd
  refine if_neg fun c => ?_
  have e : (4 : Int32).toInt = 4 := rfl
  rw [decide_eq_true (show (0 : Int32) ≤ w by rw [Int32.le_iff_toInt_le, i_0]; exact c.1), decide_eq_true (show w ≤ 4 by rw [Int32.le_iff_toInt_le, e]; omega)] at h
  cases h
theorem q_y5 {w : Int32} (h : (decide ((0 : Int32) ≤ w) && decide (w ≤ 4)) = true) (hw : nd 5 w = none) : False := by
  rw [Bool.and_eq_true, decide_eq_true_eq, decide_eq_true_eq, Int32.le_iff_toInt_le, Int32.le_iff_toInt_le, i_0] at h
  have e : (4 : Int32).toInt = 4 := rfl
  unfold nd at hw
  rw [if_pos ⟨h.1, by omega⟩] at hw
  cases hw
theorem q_da {S : Sh} {m : Nat} (h : (!m_alive S m) = true) : some (Value.int (-1)) = some (Value.int ((some (h_a S m)).getD 0)) := by
  unfold m_alive at h
  rw [Bool.not_not, decide_eq_true_eq] at h
  rw [h]
  rfl
theorem q_al1 {S : Sh} {m : Nat} (h : (!m_alive S m) = false) : some (Value.int 1) = some (Value.int ((some (b2i (m_alive S m))).getD 0)) := by
  rw [show m_alive S m = true by simpa using h]
  rfl
theorem q_al0 {S : Sh} {m : Nat} (h : (!m_alive S m) = true) : some (Value.int 0) = some (Value.int ((some (b2i (m_alive S m))).getD 0)) := by
  rw [show m_alive S m = false by simpa using h]
  rfl
section PVT
variable {T : Nat → Option ab_A} {N i j : Nat} {lo : List (Option Value)} {st : List Value} {F : FW} {Q : Option Value → FW → Prop}
theorem Pv.thr (hT : T i = some ab_thr) (h : Q (some (.retAddr 99)) F) : Pv T N i lo [] F Q :=
  (Pv.gen hT fun u hp hw hF => ⟨fun j' lo' st' u' hp' e => by
    unfold ab_thr at e
    dsimp only at e
    rw [Bool.cond_eq_ite] at e
    split at e <;> (cases e), fun o e => by
    unfold ab_thr at e
    dsimp only at e
    rw [Bool.cond_eq_ite] at e
    split at e
    · obtain rfl := (Sum.inr.inj (Option.some.inj e))
      exact ⟨hw, by rw [hF]; exact h⟩
    · cases e⟩).w
theorem Pv.callX {nA ci mc ms MC MS hj k : Nat} {X : List Value → ab_H → Option ab_O} {as rest : List Value} {Q' : Option Value → FW → Prop} (hT : T i = some (ab_callX j hj k nA ci X mc ms MC MS)) (ha : (st.take nA).reverse = as) (hr : st.drop nA = rest) (hX : Pm X as F Q') (h1 : ∀ r F', ¬ r = some (.retAddr 99) → Q' r F' → Pv T N j lo (r.toList ++ rest) F' Q) (h2 : ∀ F' G, Q' (some (.retAddr 99)) F' → Pv T N hj (lo.set k none) [] G Q) : Pv T N i lo st F Q :=
  (Pv.gen hT fun u hp hw hF => ⟨fun j' lo' st' u' hp' e => by
    unfold ab_callX at e
    rw [Bool.cond_eq_ite] at e
    split at e
    · split at e
      · cases e
      · rename_i o ho
        have ho2 : X (st.take nA).reverse hp = some o := ho
        rw [ha] at ho2
        obtain ⟨w, q⟩ := hX hp o hw hF ho2
        rw [Bool.cond_eq_ite] at e
        split at e
        · rename_i c
          have c2 := of_decide_eq_true c
          rw [c2] at q
          cases e
          exact ⟨wt_push w fun k v hv => absurd hv (by simp), h2 _ _ q⟩
        · rename_i c
          cases e
          refine ⟨w, ?_⟩
          show Pv T N j lo (o.1.toList ++ st.drop nA) (fl o.2) Q
          rw [hr]
          exact h1 _ _ (fun c2 => c (decide_eq_true c2)) q
    · (cases e), fun o e => by
    unfold ab_callX at e
    rw [Bool.cond_eq_ite] at e
    split at e
    · split at e
      · cases e
      · rw [Bool.cond_eq_ite] at e
        split at e <;> (cases e)
    · cases e⟩).w
end PVT
