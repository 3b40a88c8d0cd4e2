/-! ===== names, sentences, images ===== -/
/-- the names that a Strait at p has; nm as the reference spells them: goods from 0, men from 6 on -/
def NMC (F : FW) (p : Nat) (T : St) (nm : Nat → Int) : Prop := (∀ g, g < t_g T → (F.2.2.1 (p + 1) g).toInt = c32 7 (nm g) ∧ LW 7 (nm g)) ∧ ∀ m, m < t_m T → (F.2.2.1 (p + 2) m).toInt = c32 7 (nm (6 + m)) ∧ LW 7 (nm (6 + m))
/-- a sentence: size, ones, is it said; what, shores or signs, numbers -/
abbrev Se : Type := Int32 × Int32 × Int32 × (Nat → Int32) × (Nat → Int32) × (Nat → Int32)
def SE (F : FW) (p : Nat) (Q : Se) : Prop := O3 F p ∧ F.1 p 3 = Q.1 ∧ F.1 p 4 = Q.2.1 ∧ F.1 p 5 = Q.2.2.1 ∧ AR F (p + 1) 40 Q.2.2.2.1 ∧ AR F (p + 2) 40 Q.2.2.2.2.1 ∧ AR F (p + 3) 40 Q.2.2.2.2.2
section SES
variable {F : FW} {p : Nat} {Q : Se}
theorem SE.o (h : SE F p Q) : O3 F p := h.1
theorem SE.z (h : SE F p Q) : F.1 p 3 = Q.1 := h.2.1
theorem SE.n (h : SE F p Q) : F.1 p 4 = Q.2.1 := h.2.2.1
theorem SE.i (h : SE F p Q) : F.1 p 5 = Q.2.2.1 := h.2.2.2.1
theorem SE.a (h : SE F p Q) : AR F (p + 1) 40 Q.2.2.2.1 := h.2.2.2.2.1
theorem SE.f (h : SE F p Q) : AR F (p + 2) 40 Q.2.2.2.2.1 := h.2.2.2.2.2.1
theorem SE.m (h : SE F p Q) : AR F (p + 3) 40 Q.2.2.2.2.2 := h.2.2.2.2.2.2
end SES
/-- all but places of P is as it was; there may be more places -/
def FRZ (P : Nat → Prop) (F G : FW) : Prop := F.2.2.2.1 ≤ G.2.2.2.1 ∧ ∀ a, a < F.2.2.2.1 → ¬ P a → (∀ k, G.1 a k = F.1 a k) ∧ (∀ k, G.2.1 a k = F.2.1 a k) ∧ ∀ k, G.2.2.1 a k = F.2.2.1 a k
theorem FRZ.rf {P : Nat → Prop} {F : FW} : FRZ P F F := ⟨Nat.le_refl _, fun _ _ _ => ⟨fun _ => rfl, fun _ => rfl, fun _ => rfl⟩⟩
theorem FRZ.tr {P : Nat → Prop} {F G K : FW} (h : FRZ P F G) (x : FRZ P G K) : FRZ P F K := ⟨Nat.le_trans h.1 x.1, fun a ha c => by
  have p := h.2 a ha c
  have q := x.2 a (Nat.lt_of_lt_of_le ha h.1) c
  exact ⟨fun k => (q.1 k).trans (p.1 k), fun k => (q.2.1 k).trans (p.2.1 k), fun k => (q.2.2 k).trans (p.2.2 k)⟩⟩
theorem FRZ.wd {P R : Nat → Prop} {F G : FW} (h : FRZ P F G) (w : ∀ a, a < F.2.2.2.1 → P a → R a) : FRZ R F G := ⟨h.1, fun a ha c => h.2 a ha (fun p => c (w a ha p))⟩
theorem FX.frz {P : Nat → Prop} {F G : FW} (x : FX P F G) : FRZ P F G := ⟨by rw [x.2.2.2]; exact Nat.le_refl _, fun a _ c => ⟨fun k => x.1 a k c, fun k => by rw [x.2.2.1], fun k => x.2.1 a k c⟩⟩
theorem NWF.frz {p n : Nat} {F G : FW} (w : NWF p n F G) : FRZ (fun q => q = p) F G := ⟨by rw [w.1]; omega, fun a ha c => by
  obtain ⟨h1, h2, h3, -⟩ := w.2 a ha c
  exact ⟨h1, h2, h3⟩⟩
theorem KF.frz {P : Nat → Prop} {F G : FW} (h : KF P F G) : FRZ (fun q => P q ∨ q = 10 ∨ q = 11 ∨ SLT F q) F G := ⟨h.1, fun a ha c => by
  have q := h.2.2.1 a ha (fun e => c (Or.inr (Or.inl e))) (fun e => c (Or.inr (Or.inr (Or.inl e)))) (fun e => c (Or.inr (Or.inr (Or.inr e))))
  exact ⟨fun k => q.1 k (fun e => c (Or.inl e)), q.2.1, fun k => q.2.2 k (fun e => c (Or.inl e))⟩⟩
theorem fnw_frz {P : Nat → Prop} {F : FW} {n : Nat} : FRZ P F (fnw F n) := ⟨Nat.le_succ _, fun a ha _ => ⟨fun _ => if_neg (by omega), fun _ => if_neg (by omega), fun _ => if_neg (by omega)⟩⟩
theorem fpr_frz {P : Nat → Prop} {F : FW} {a k : Nat} {v : Value} (h : P a) : FRZ P F (fpr F a k v) := ⟨Nat.le_refl _, fun q _ c => ⟨fun _ => rfl, fun j => fpr_ne (Or.inl (fun e => c (by rw [e]; exact h))), fun _ => rfl⟩⟩
theorem FRZ.fx {P R : Nat → Prop} {F G K : FW} (h : FRZ P F G) (x : FX R G K) (w : ∀ a, a < F.2.2.2.1 → R a → P a) : FRZ P F K := ⟨by rw [x.2.2.2]; exact h.1, fun a ha c => by
  have p := h.2 a ha c
  have n : ¬ R a := fun r => c (w a ha r)
  exact ⟨fun k => (x.1 a k n).trans (p.1 k), fun k => by rw [x.2.2.1]; exact p.2.1 k, fun k => (x.2.1 a k n).trans (p.2.2 k)⟩⟩
theorem wires_41 : ∀ x ∈ wires, x.1 ≠ 41 := by decide
theorem AR.frz {P : Nat → Prop} {F G : FW} {a n : Nat} {f : Nat → Int32} (h : AR F a n f) (x : FRZ P F G) (ha : a < F.2.2.2.1) (c : ¬ P a) : AR G a n f := fun j hj => ((x.2 a ha c).1 j).trans (h j hj)
theorem TR.frz {P : Nat → Prop} {F G : FW} {t : Nat} {T : St} (h : TR F t T) (x : FRZ P F G) (hz : t + 8 ≤ F.2.2.2.1) (c : ∀ a, t ≤ a → a ≤ t + 7 → ¬ P a) : TR G t T := by
  have e := fun a h1 h2 => x.2 a (by omega) (c a h1 h2)
  exact ⟨fun j hj => ((e t (by omega) (by omega)).2.1 j).trans (h.o j hj), h.w, ((e t (by omega) (by omega)).1 _).trans h.l, ((e t (by omega) (by omega)).1 _).trans h.g, ((e t (by omega) (by omega)).1 _).trans h.m, ((e t (by omega) (by omega)).1 _).trans h.n,
    h.a.frz x (by omega) (c _ (by omega) (by omega)), h.r.frz x (by omega) (c _ (by omega) (by omega)), h.d.frz x (by omega) (c _ (by omega) (by omega)), h.dd.frz x (by omega) (c _ (by omega) (by omega)), h.f.frz x (by omega) (c _ (by omega) (by omega))⟩
theorem SHR.frz {P : Nat → Prop} {F G : FW} {p m : Nat} {S : Sh} (h : SHR F p m S) (x : FRZ P F G) (hz : p + 8 ≤ F.2.2.2.1) (c : ∀ a, p ≤ a → a ≤ p + 7 → ¬ P a) : SHR G p m S :=
  h.sm (fun a k h1 h2 => (x.2 a (by omega) (c a h1 h2)).1 k) (fun k => (x.2 p (by omega) (c p (by omega) (by omega))).2.1 k)
theorem NMC.frz {P : Nat → Prop} {F G : FW} {p : Nat} {T : St} {nm : Nat → Int} (h : NMC F p T nm) (x : FRZ P F G) (hz : p + 3 ≤ F.2.2.2.1) (c1 : ¬ P (p + 1)) (c2 : ¬ P (p + 2)) : NMC G p T nm :=
  ⟨fun g hg => by rw [(x.2 (p + 1) (by omega) c1).2.2 g]; exact h.1 g hg, fun m hm => by rw [(x.2 (p + 2) (by omega) c2).2.2 m]; exact h.2 m hm⟩
theorem SE.frz {P : Nat → Prop} {F G : FW} {p : Nat} {Q : Se} (h : SE F p Q) (x : FRZ P F G) (hz : p + 4 ≤ F.2.2.2.1) (c : ∀ a, p ≤ a → a ≤ p + 3 → ¬ P a) : SE G p Q := by
  have e := fun a h1 h2 => x.2 a (by omega) (c a h1 h2)
  exact ⟨fun j hj => ((e p (by omega) (by omega)).2.1 j).trans (h.o j hj), ((e p (by omega) (by omega)).1 _).trans h.z, ((e p (by omega) (by omega)).1 _).trans h.n, ((e p (by omega) (by omega)).1 _).trans h.i, h.a.frz x (by omega) (c _ (by omega) (by omega)), h.f.frz x (by omega) (c _ (by omega) (by omega)), h.m.frz x (by omega) (c _ (by omega) (by omega))⟩
theorem GW.frz {P : Nat → Prop} {F G : FW} (h : GW F) (x : FRZ P F G) (h88 : 88 ≤ F.2.2.2.1) (c : ∀ y ∈ wires, ¬ P y.1) : GW G := fun y my => ((x.2 y.1 (by have := (wires_lt y my).2; omega) (c y my)).2.1 _).trans (h y my)
def O3i (F : FW) (v : Nat) : Prop := F.2.1 v 0 = .ref (v + 1) ∧ F.2.1 v 1 = .ref (v + 9) ∧ F.2.1 v 2 = .ref (v + 17)
/-- what an image holds -/
abbrev Im : Type := St × (Nat → Int) × Sh × Se
def IMV (F : FW) (k v : Nat) (I : Im) : Prop := F.2.1 41 k = .ref v ∧ 88 ≤ v ∧ v + 21 ≤ F.2.2.2.1 ∧ O3i F v ∧ TR F (v + 1) I.1 ∧ NMC F (v + 1) I.1 I.2.1 ∧ SHR F (v + 9) (t_m I.1) I.2.2.1 ∧ SE F (v + 17) I.2.2.2 ∧ ∀ a, v ≤ a → a ≤ v + 20 → ¬ SLT F a
