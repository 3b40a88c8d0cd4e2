/-! ===== the reference reads a LOG ===== -/
theorem rkk_z0 {k : Int} : rkk k = 0 ↔ k = 0 := by
  refine ⟨fun h => ?_, fun h => by rw [h]; rfl⟩
  unfold rkk at h
  by_cases a : k = 0
  · exact a
  · exfalso
    rw [if_neg a] at h
    split at h
    · exact absurd h (by decide)
    · split at h
      · exact absurd h (by decide)
      · split at h
        · exact absurd h (by decide)
        · exact absurd h (by decide)
def RZX (F G : FW) : Prop := FX (fun q => q = 69 ∨ q = 73) F G ∧ (∀ k, k ≠ 4 → k ≠ 11 → k ≠ 12 → k ≠ 13 → k ≠ 14 → k ≠ 15 → k ≠ 16 → k ≠ 18 → k ≠ 30 → G.1 69 k = F.1 69 k) ∧ ∀ k, k ≠ 17 → G.2.2.1 69 k = F.2.2.1 69 k
theorem RZX.rf {F : FW} : RZX F F := ⟨FX.rf, fun _ _ _ _ _ _ _ _ _ _ => rfl, fun _ _ => rfl⟩
theorem RZX.yx {c : Nat} {F G K : FW} (h : RZX F G) (x : RYX c G K) : RZX F K := ⟨h.1.tr x.1, fun k a1 a2 a3 a4 a5 a6 a7 a8 a9 => (x.2.1 k a1 a2 a3 a4 a5 a6 a7 a8).trans (h.2.1 k a1 a2 a3 a4 a5 a6 a7 a8 a9), fun k a => (x.2.2.1 k a).trans (h.2.2 k a)⟩
theorem RZX.lx {F G K : FW} (h : RZX F G) (x : RLX G K) : RZX F K := h.yx (RYX.of (c := 0) x)
theorem RZX.p30 {F G : FW} {v : Int32} (h : RZX F G) : RZX F (fp G 69 30 v) := ⟨h.1.fp (Or.inl rfl), fun k a1 a2 a3 a4 a5 a6 a7 a8 a9 => (fp_ne (Or.inr a9)).trans (h.2.1 k a1 a2 a3 a4 a5 a6 a7 a8 a9), h.2.2⟩
theorem RZX.G {F G : FW} (h : RZX F G) (g : GW F) : GW G := g.fx h.1
theorem RZX.T {F G : FW} {T : St} (h : RZX F G) (t : XT F T) : XT G T := t.of fun k _ => h.1.1 71 k (by decide)
theorem RZX.S {F G : FW} {m : Nat} {S : Sh} (h : RZX F G) (hm : m ≤ 8) (t : XS F m S) : XS G m S := t.of hm fun k _ _ => h.1.1 71 k (by decide)
theorem RZX.H {F G : FW} {m n : Nat} {H : Nat → Sh} (h : RZX F G) (hm : m ≤ 8) (t : HSX F m n H) : HSX G m n H := HSX.same t hm (h.2.1 25 (by decide) (by decide) (by decide) (by decide) (by decide) (by decide) (by decide) (by decide) (by decide)) fun k => h.1.1 77 k (by decide)
theorem RZX.W {F G : FW} (h : RZX F G) (r : RWF F) : RWF G := fun j hj => (congrArg Int64.toInt (h.1.2.1 75 j (by decide))).trans (r j hj)
theorem RZX.N {F G : FW} {o n : Nat} {nm : Nat → Int} (h : RZX F G) (r : ∀ g, g < n → (F.2.2.1 74 (o + g)).toInt = nm (o + g)) : ∀ g, g < n → (G.2.2.1 74 (o + g)).toInt = nm (o + g) := fun j hj => (congrArg Int64.toInt (h.1.2.1 74 _ (by decide))).trans (r j hj)
theorem RTK.p30 {F : FW} {B : Nat → Int} {n lim i : Nat} {v : Int32} (h : RTK F B n lim i) : RTK (fp F 69 30 v) B n lim i :=
  ⟨(fp_ne (Or.inr (by decide))).trans h.1, (fp_ne (Or.inr (by decide))).trans h.2.1, (RBF_same fun k => fp_ne (Or.inl (by decide))).trans h.2.2.1, by
    have q := h.2.2.2.1
    exact ⟨(congrArg Int32.toInt (fp_ne (Or.inr (by decide)))).trans q.1, (fp_ne (Or.inr (by decide))).trans q.2.1, (congrArg Int32.toInt (fp_ne (Or.inr (by decide)))).trans q.2.2.1, fun e => (congrArg Int32.toInt (fp_ne (Or.inr (by decide)))).trans (q.2.2.2.1 e), fun e => (congrArg Int32.toInt (fp_ne (Or.inr (by decide)))).trans (q.2.2.2.2.1 e), fun e => q.2.2.2.2.2 e⟩, h.2.2.2.2⟩
theorem LIR.k {F G : FW} {l d w x : Nat} (h : LIR F l d w x) (e : ∀ q, q < 4 * (l + 1) → G.1 73 q = F.1 73 q) : LIR G l d w x :=
  ⟨(e _ (by omega)).trans h.1, fun c => ⟨(e _ (by omega)).trans (h.2.1 c).1, (e _ (by omega)).trans (h.2.1 c).2.1, (e _ (by omega)).trans (h.2.1 c).2.2⟩, fun c => (e _ (by omega)).trans (h.2.2.1 c), fun c => (e _ (by omega)).trans (h.2.2.2 c)⟩
/-- the lines there -/
def LRS (F : FW) (L : LN) (n : Nat) : Prop := ∀ l, l < n → LIR F l (L l).1 (L l).2.1 (L l).2.2
theorem LRS.k {c : Nat} {F G : FW} {L : LN} (h : LRS F L c) (x : RYX c F G) : LRS G L c := fun l hl => LIR.k (h l hl) fun q hq => x.2.2.2 q (by omega)
theorem LRS.l {c : Nat} {F G : FW} {L : LN} (h : LRS F L c) (x : RLX F G) : LRS G L c := fun l hl => LIR.k (h l hl) fun q _ => x.1.1 73 q (by decide)
theorem LRS.p {c k : Nat} {v : Int32} {F : FW} {L : LN} (h : LRS F L c) : LRS (fp F 69 k v) L c := fun l hl => LIR.k (h l hl) fun q _ => fp_ne (Or.inl (by decide))
theorem LRS.s {c d w n : Nat} {G : FW} {L : LN} (h : LRS G L c) (x : LIR G c d w n) : LRS G (upn L c (d, w, n)) (c + 1) := fun l hl => by
  show LIR G l (if l = c then (d, w, n) else L l).1 (if l = c then (d, w, n) else L l).2.1 (if l = c then (d, w, n) else L l).2.2
  by_cases e : l = c
  · rw [if_pos e, e]
    exact x
  · rw [if_neg e]
    exact h l (by omega)
theorem LYK.s {T : St} {c : Nat} {y : Nat × Nat × Nat} {L : LN} (h : ∀ l, l < c → LYK T (L l)) (x : LYK T y) : ∀ l, l < c + 1 → LYK T (upn L c y l) := fun l hl => by
  show LYK T (if l = c then y else L l)
  by_cases e : l = c
  · rw [if_pos e]
    exact x
  · rw [if_neg e]
    exact h l (by omega)
theorem hk0_ht {F : FW} {B : Nat → Int} {n lim i : Nat} (ht : RTK F B n lim i) (c : ¬ F.1 69 11 = 0) : (tok B n lim i).k ≠ 0 := fun e => c (Int32.toInt_inj.mp (ht.2.2.2.1.2.2.1.trans (by rw [e]; rfl)))
/-- what comes of a LOG: read and judged, or wrong at a token -/
def LGW (F F' : FW) (B : Nat → Int) (tn : Nat) (T : St) (S : Sh) (nm : Nat → Int) (n : Nat) (H : Nat → Sh) (l : Int32) (r : Option Value) : Prop :=
  (∃ nl L j F1, LGA (tok B tn 400) nm (t_g T) (t_m T) nl L 0 j ∧ (∀ q, q < nl → LYK T (L q)) ∧ RZX F F1 ∧ F1.1 69 15 = 0 ∧ r = some (.int (oN (m_fst (jP T L S) nl))) ∧ LGO F1 F' (t_m T) n S (jr T L S (jn nl (m_fst (jP T L S) nl))) H l (jn nl (m_fst (jP T L S) nl)) (jc T L S (m_fst (jP T L S) nl))) ∨
  ∃ v, r = some (.int (-2 - v)) ∧ ∃ nl L c j, LGA (tok B tn 400) nm (t_g T) (t_m T) nl L c j ∧ ¬ c = 0 ∧ RZX F F' ∧ F'.1 69 15 = c ∧ v.toInt = (tok B tn 400 j).pl
