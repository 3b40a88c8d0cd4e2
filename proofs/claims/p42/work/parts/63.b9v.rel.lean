/-! ===== both sides alike ===== -/
/-- table, names, state, how much of the past, the past, images -/
abbrev Imx : Type := St × (Nat → Int) × Sh
abbrev DD : Type := St × (Nat → Int) × Sh × Nat × (Nat → Sh) × (Nat → Option Imx)
def dT (D : DD) : St := D.1
def dN (D : DD) : Nat → Int := D.2.1
def dS (D : DD) : Sh := D.2.2.1
def dn (D : DD) : Nat := D.2.2.2.1
def dH (D : DD) : Nat → Sh := D.2.2.2.2.1
def dI (D : DD) : Nat → Option Imx := D.2.2.2.2.2
def IMC (F : FW) (k v : Nat) (o : Option Imx) : Prop := match o with
  | none => F.2.1 41 k = .null
  | some x => ∃ E, IMV F k v (x.1, x.2.1, x.2.2, E)
def IMS (F : FW) (I : Nat → Option Imx) : Prop := ∃ vs : Nat → Nat, (∀ k, k < 2 → IMC F k (vs k) (I k)) ∧ ((I 0).isSome = true → (I 1).isSome = true → vs 0 + 21 ≤ vs 1 ∨ vs 1 + 21 ≤ vs 0)
def CSL (F : FW) (T : St) (nm : Nat → Int) : Prop := ∃ t p : Nat, ((t = 45 ∧ p = 53) ∨ (t = 53 ∧ p = 45)) ∧ F.2.1 0 13 = .ref t ∧ F.2.1 0 14 = .ref p ∧ TR F t T ∧ NMC F t T nm
def CSE (F : FW) : Prop := ∃ u v : Nat, ((u = 61 ∧ v = 65) ∨ (u = 65 ∧ v = 61)) ∧ F.2.1 0 15 = .ref u ∧ F.2.1 0 16 = .ref v
def CR (F : FW) (D : DD) : Prop := GW F ∧ 88 ≤ F.2.2.2.1 ∧ CSL F (dT D) (dN D) ∧ CSE F ∧ SHR F 12 (t_m (dT D)) (dS D) ∧ HST F (t_m (dT D)) (dn D) (dH D) ∧ IMS F (dI D)
def IXC (F : FW) (k : Nat) (o : Option Imx) : Prop := match o with
  | none => F.1 86 k = 0
  | some x => ¬ F.1 86 k = 0 ∧ XT (fcp F 84 71 (434 * k) 0 434) x.1 ∧ XS (fcp F 84 71 (434 * k) 0 434) (t_m x.1) x.2.2 ∧ (∀ g, g < t_g x.1 → (F.2.2.1 85 (14 * k + (0 + g))).toInt = x.2.1 (0 + g)) ∧ ∀ g, g < t_m x.1 → (F.2.2.1 85 (14 * k + (6 + g))).toInt = x.2.1 (6 + g)
def XNM (F : FW) (T : St) (nm : Nat → Int) : Prop := (∀ g, g < t_g T → (F.2.2.1 74 (0 + g)).toInt = nm (0 + g)) ∧ ∀ g, g < t_m T → (F.2.2.1 74 (6 + g)).toInt = nm (6 + g)
def XR (F : FW) (D : DD) : Prop := GW F ∧ XT F (dT D) ∧ XS F (t_m (dT D)) (dS D) ∧ HSX F (t_m (dT D)) (dn D) (dH D) ∧ XNM F (dT D) (dN D) ∧ RWF F ∧ ∀ k, k < 2 → IXC F k (dI D k)
def DOK (D : DD) : Prop := TBB (dT D) ∧ INV (dT D) (dS D) ∧ (∀ j, j < dn D → INV (dT D) (dH D j)) ∧ ∀ k x, dI D k = some x → TBB x.1 ∧ INV x.1 x.2.2
/-- nothing of the reference's changed -/
def KX (F G : FW) : Prop := ∀ D, XR F D → XR G D
/-- nothing of the class's changed -/
def KC (F G : FW) : Prop := ∀ D, CR F D → CR G D
theorem KX.rf {F : FW} : KX F F := fun _ h => h
theorem KC.rf {F : FW} : KC F F := fun _ h => h
section CRS
variable {F : FW} {D : DD}
theorem CR.G (h : CR F D) : GW F := h.1
theorem CR.c (h : CR F D) : 88 ≤ F.2.2.2.1 := h.2.1
theorem CR.l (h : CR F D) : CSL F (dT D) (dN D) := h.2.2.1
theorem CR.e (h : CR F D) : CSE F := h.2.2.2.1
theorem CR.s (h : CR F D) : SHR F 12 (t_m (dT D)) (dS D) := h.2.2.2.2.1
theorem CR.h (h : CR F D) : HST F (t_m (dT D)) (dn D) (dH D) := h.2.2.2.2.2.1
theorem CR.i (h : CR F D) : IMS F (dI D) := h.2.2.2.2.2.2
theorem XR.G (h : XR F D) : GW F := h.1
theorem XR.T (h : XR F D) : XT F (dT D) := h.2.1
theorem XR.s (h : XR F D) : XS F (t_m (dT D)) (dS D) := h.2.2.1
theorem XR.h (h : XR F D) : HSX F (t_m (dT D)) (dn D) (dH D) := h.2.2.2.1
theorem XR.n (h : XR F D) : XNM F (dT D) (dN D) := h.2.2.2.2.1
theorem XR.w (h : XR F D) : RWF F := h.2.2.2.2.2.1
theorem XR.i (h : XR F D) {k : Nat} (hk : k < 2) : IXC F k (dI D k) := h.2.2.2.2.2.2 k hk
end CRS
/-- cells that KF leaves -/
theorem KF.cell {P : Nat → Prop} {F G : FW} {m n a : Nat} {H : Nat → Sh} (h : KF P F G) (hH : HST F m n H) (h88 : 88 ≤ F.2.2.2.1) (ha : a < 88) (h10 : a ≠ 10) (h11 : a ≠ 11) : (∀ k, ¬ P a → G.1 a k = F.1 a k) ∧ (∀ k, G.2.1 a k = F.2.1 a k) ∧ ∀ k, ¬ P a → G.2.2.1 a k = F.2.2.1 a k := h.2.2.1 a (by omega) h10 h11 (hH.ns ha)
theorem TR.ce {F G : FW} {t : Nat} {T : St} (h : TR F t T) (x : ∀ a, t ≤ a → a ≤ t + 7 → (∀ k, G.1 a k = F.1 a k) ∧ ∀ k, G.2.1 a k = F.2.1 a k) : TR G t T :=
  ⟨fun j hj => ((x t (by omega) (by omega)).2 j).trans (h.o j hj), h.w, ((x t (by omega) (by omega)).1 _).trans h.l, ((x t (by omega) (by omega)).1 _).trans h.g, ((x t (by omega) (by omega)).1 _).trans h.m, ((x t (by omega) (by omega)).1 _).trans h.n,
    h.a.sm (x _ (by omega) (by omega)).1, h.r.sm (x _ (by omega) (by omega)).1, h.d.sm (x _ (by omega) (by omega)).1, h.dd.sm (x _ (by omega) (by omega)).1, h.f.sm (x _ (by omega) (by omega)).1⟩
theorem NMC.ce {F G : FW} {p : Nat} {T : St} {nm : Nat → Int} (h : NMC F p T nm) (x : ∀ a, p + 1 ≤ a → a ≤ p + 2 → ∀ k, G.2.2.1 a k = F.2.2.1 a k) : NMC G p T nm :=
  ⟨fun g hg => by rw [x (p + 1) (by omega) (by omega) g]; exact h.1 g hg, fun m hm => by rw [x (p + 2) (by omega) (by omega) m]; exact h.2 m hm⟩
theorem SE.ce {F G : FW} {p : Nat} {Q : Se} (h : SE F p Q) (x : ∀ a, p ≤ a → a ≤ p + 3 → (∀ k, G.1 a k = F.1 a k) ∧ ∀ k, G.2.1 a k = F.2.1 a k) : SE G p Q :=
  ⟨fun j hj => ((x p (by omega) (by omega)).2 j).trans (h.o j hj), ((x p (by omega) (by omega)).1 _).trans h.z, ((x p (by omega) (by omega)).1 _).trans h.n, ((x p (by omega) (by omega)).1 _).trans h.i, h.a.sm (x _ (by omega) (by omega)).1, h.f.sm (x _ (by omega) (by omega)).1, h.m.sm (x _ (by omega) (by omega)).1⟩
theorem IMV.ce {F G : FW} {k v : Nat} {I : Im} (h : IMV F k v I) (e41 : G.2.1 41 k = F.2.1 41 k) (c : F.2.2.2.1 ≤ G.2.2.2.1) (x : ∀ a, v ≤ a → a ≤ v + 20 → (∀ k, G.1 a k = F.1 a k) ∧ (∀ k, G.2.1 a k = F.2.1 a k) ∧ ∀ k, G.2.2.1 a k = F.2.2.1 a k) (s : ∀ a, v ≤ a → a ≤ v + 20 → ¬ SLT G a) : IMV G k v I := by
  obtain ⟨h1, h2, h3, h4, h5, h6, h7, h8, h9⟩ := h
  have r := (x v (by omega) (by omega)).2.1
  exact ⟨e41.trans h1, h2, by omega, ⟨(r 0).trans h4.1, (r 1).trans h4.2.1, (r 2).trans h4.2.2⟩, h5.ce fun a a1 a2 => ⟨(x a (by omega) (by omega)).1, (x a (by omega) (by omega)).2.1⟩, h6.ce fun a a1 a2 => (x a (by omega) (by omega)).2.2, h7.sm (fun a k a1 a2 => (x a (by omega) (by omega)).1 k) (x (v + 9) (by omega) (by omega)).2.1, h8.ce fun a a1 a2 => ⟨(x a (by omega) (by omega)).1, (x a (by omega) (by omega)).2.1⟩, s⟩
theorem IMS.kf {P : Nat → Prop} {F G : FW} {I : Nat → Option Imx} {m n : Nat} {H : Nat → Sh} (h : IMS F I) (k : KF P F G) (hH : HST F m n H) (h88 : 88 ≤ F.2.2.2.1) (hP : ∀ q, P q → q < 88) : IMS G I := by
  obtain ⟨vs, h1, h2⟩ := h
  have e41 := (k.cell hH h88 (a := 41) (by omega) (by omega) (by omega)).2.1
  refine ⟨vs, fun j hj => ?_, h2⟩
  have q := h1 j hj
  unfold IMC at q ⊢
  cases e : I j with
  | none =>
    rw [e] at q
    exact (e41 j).trans q
  | some x =>
    rw [e] at q
    obtain ⟨E, q⟩ := q
    have q3 := q.2.2.1
    have q2 := q.2.1
    have q9 := q.2.2.2.2.2.2.2.2
    refine ⟨E, q.ce (e41 j) k.1 (fun a a1 a2 => ?_) (fun a a1 a2 s => ?_)⟩
    · have c := k.2.2.1 a (by omega) (by omega) (by omega) (q9 a a1 a2)
      exact ⟨fun i => c.1 i (fun p => by have := hP a p; omega), c.2.1, fun i => c.2.2 i (fun p => by have := hP a p; omega)⟩
    · rcases k.2.2.2 a s with s | s
      · exact q9 a a1 a2 s
      · omega
theorem CR.kf {P : Nat → Prop} {F G : FW} {D : DD} {S' : Sh} {n' : Nat} {H' : Nat → Sh} (h : CR F D) (k : KF P F G) (hP : ∀ q, P q → q < 45 ∨ (61 ≤ q ∧ q < 88)) (hS : SHR G 12 (t_m (dT D)) S') (hH : HST G (t_m (dT D)) n' H') : CR G (dT D, dN D, S', n', H', dI D) := by
  have z := k.cell h.h h.c (a := 0) (by omega) (by omega) (by omega)
  refine ⟨k.gw h.h h.G h.c, Nat.le_trans h.c k.1, ?_, ?_, hS, hH, h.i.kf k h.h h.c (fun q hq => by have := hP q hq; omega)⟩
  · obtain ⟨t, p, j0, h1, h2, h3, h4⟩ := h.l
    have c : ∀ a, t ≤ a → a ≤ t + 7 → (∀ k, G.1 a k = F.1 a k) ∧ (∀ k, G.2.1 a k = F.2.1 a k) ∧ ∀ k, G.2.2.1 a k = F.2.2.1 a k := fun a a1 a2 => by
      have q := k.cell h.h h.c (a := a) (by omega) (by omega) (by omega)
      have np : ¬ P a := fun p => by have := hP a p; omega
      exact ⟨fun i => q.1 i np, q.2.1, fun i => q.2.2 i np⟩
    exact ⟨t, p, j0, (z.2.1 13).trans h1, (z.2.1 14).trans h2, h3.ce fun a a1 a2 => ⟨(c a a1 a2).1, (c a a1 a2).2.1⟩, h4.ce fun a a1 a2 => (c a (by omega) (by omega)).2.2⟩
  · obtain ⟨u, v, j0, h1, h2⟩ := h.e
    exact ⟨u, v, j0, (z.2.1 15).trans h1, (z.2.1 16).trans h2⟩
theorem CR.fx {P : Nat → Prop} {F G : FW} {D : DD} (h : CR F D) (x : FX P F G) (hP : ∀ q, P q → (q < 45 ∨ (61 ≤ q ∧ q < 88)) ∧ q ≠ 10 ∧ ¬ (12 ≤ q ∧ q ≤ 19)) : CR G D :=
  CR.kf h (KF.rf.fx x (fun _ _ p => p)) (fun q p => (hP q p).1) (h.s.fx x fun a a1 a2 p => (hP a p).2.2 ⟨a1, a2⟩) (h.h.fx x fun a p => by have := hP a p; omega)
theorem IXC.ce {F G : FW} {k : Nat} {o : Option Imx} (h : IXC F k o) (e : ∀ j, G.1 84 j = F.1 84 j) (e6 : G.1 86 k = F.1 86 k) (e5 : ∀ j, G.2.2.1 85 j = F.2.2.1 85 j) : IXC G k o := by
  unfold IXC at h ⊢
  cases o with
  | none => exact e6.trans h
  | some x =>
    obtain ⟨h1, h2, h3, h4, h5⟩ := h
    have q : ∀ j, j < 434 → (fcp G 84 71 (434 * k) 0 434).1 71 j = (fcp F 84 71 (434 * k) 0 434).1 71 j := fun j hj => by
      rw [fcp_in (by omega), fcp_in (by omega)]
      exact e _
    refine ⟨by rw [e6]; exact h1, h2.of fun j hj => q j ?_, h3.of h2.mb fun j a1 a2 => q j (by omega), fun g hg => by rw [e5]; exact h4 g hg, fun g hg => by rw [e5]; exact h5 g hg⟩
    omega
