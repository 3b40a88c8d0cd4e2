/-! ===== the class reads a Strait ===== -/
/-- what is being read, as it lies in a Strait at r -/
def SCF (F : FW) (r : Nat) (s : PS) : Prop := O7 F r ∧ ((F.1 r 7).toInt = s.h 2 ∧ (F.1 r 8).toInt = s.h 0 ∧ (F.1 r 9).toInt = s.h 1 ∧ (F.1 r 10).toInt = s.h 3 ∧ F.1 r 11 = (if s.ld = true then 1 else 0) ∧ ∀ i, i < 48 → lb (F.2.2.1 r 12) i = s.tl i) ∧
  ((∀ g : Nat, (g : Int) < s.h 0 → (F.2.2.1 (r + 1) g).toInt = c32 7 (s.nm g) ∧ LW 7 (s.nm g)) ∧ (∀ g : Nat, (g : Int) < s.h 1 → (F.2.2.1 (r + 2) g).toInt = c32 7 (s.nm (6 + g)) ∧ LW 7 (s.nm (6 + g)))) ∧
  ((∀ g : Nat, (g : Int) < s.h 1 → (F.1 (r + 3) g).toInt = s.h (52 + g)) ∧ (∀ i, i < 48 → (F.1 (r + 4) i).toInt = s.h (4 + i)) ∧ (∀ k : Nat, (k : Int) < s.h 3 → (F.1 (r + 5) k).toInt = s.h (60 + k) ∧ (F.1 (r + 6) k).toInt = s.h (80 + k) ∧ (F.1 (r + 7) k).toInt = s.h (100 + k))) ∧ PSB s
section SCFS
variable {F : FW} {r : Nat} {s : PS}
theorem SCF.o (h : SCF F r s) : O7 F r := h.1
theorem SCF.l (h : SCF F r s) : (F.1 r 7).toInt = s.h 2 := h.2.1.1
theorem SCF.n0 (h : SCF F r s) : (F.1 r 8).toInt = s.h 0 := h.2.1.2.1
theorem SCF.n1 (h : SCF F r s) : (F.1 r 9).toInt = s.h 1 := h.2.1.2.2.1
theorem SCF.n3 (h : SCF F r s) : (F.1 r 10).toInt = s.h 3 := h.2.1.2.2.2.1
theorem SCF.ld (h : SCF F r s) : F.1 r 11 = (if s.ld = true then 1 else 0) := h.2.1.2.2.2.2.1
theorem SCF.tl (h : SCF F r s) {i : Nat} (hi : i < 48) : lb (F.2.2.1 r 12) i = s.tl i := h.2.1.2.2.2.2.2 i hi
theorem SCF.gn (h : SCF F r s) {g : Nat} (hg : (g : Int) < s.h 0) : (F.2.2.1 (r + 1) g).toInt = c32 7 (s.nm g) ∧ LW 7 (s.nm g) := h.2.2.1.1 g hg
theorem SCF.mn (h : SCF F r s) {g : Nat} (hg : (g : Int) < s.h 1) : (F.2.2.1 (r + 2) g).toInt = c32 7 (s.nm (6 + g)) ∧ LW 7 (s.nm (6 + g)) := h.2.2.1.2 g hg
theorem SCF.fs (h : SCF F r s) {g : Nat} (hg : (g : Int) < s.h 1) : (F.1 (r + 3) g).toInt = s.h (52 + g) := h.2.2.2.1.1 g hg
theorem SCF.am (h : SCF F r s) {i : Nat} (hi : i < 48) : (F.1 (r + 4) i).toInt = s.h (4 + i) := h.2.2.2.1.2.1 i hi
theorem SCF.ms (h : SCF F r s) {k : Nat} (hk : (k : Int) < s.h 3) : (F.1 (r + 5) k).toInt = s.h (60 + k) ∧ (F.1 (r + 6) k).toInt = s.h (80 + k) ∧ (F.1 (r + 7) k).toInt = s.h (100 + k) := h.2.2.2.1.2.2 k hk
theorem SCF.b (h : SCF F r s) : PSB s := h.2.2.2.2
theorem SCF.at0 (h : SCF F r s) {g : Nat} (e : s.h 0 = (g : Int)) : F.1 r 8 = Int32.ofNat g := by
  have := i_ofv h.n0 (by omega)
  rw [this, e]
  rfl
theorem SCF.at1 (h : SCF F r s) {g : Nat} (e : s.h 1 = (g : Int)) : F.1 r 9 = Int32.ofNat g := by
  have := i_ofv h.n1 (by omega)
  rw [this, e]
  rfl
theorem SCF.at3 (h : SCF F r s) {g : Nat} (e : s.h 3 = (g : Int)) : F.1 r 10 = Int32.ofNat g := by
  have := i_ofv h.n3 (by omega)
  rw [this, e]
  rfl
theorem SCF.sm {G : FW} (h : SCF F r s) (o : ∀ k, G.2.1 r k = F.2.1 r k) (e : ∀ a k, r ≤ a → a ≤ r + 7 → G.1 a k = F.1 a k) (l : ∀ a k, r ≤ a → a ≤ r + 7 → G.2.2.1 a k = F.2.2.1 a k) : SCF G r s :=
  ⟨fun k hk => (o k).trans (h.o k hk), ⟨by rw [e r 7 (by omega) (by omega)]; exact h.l, by rw [e r 8 (by omega) (by omega)]; exact h.n0, by rw [e r 9 (by omega) (by omega)]; exact h.n1, by rw [e r 10 (by omega) (by omega)]; exact h.n3, by rw [e r 11 (by omega) (by omega)]; exact h.ld, fun i hi => by rw [l r 12 (by omega) (by omega)]; exact h.tl hi⟩,
    ⟨fun g hg => by rw [l (r + 1) g (by omega) (by omega)]; exact h.gn hg, fun g hg => by rw [l (r + 2) g (by omega) (by omega)]; exact h.mn hg⟩,
    ⟨fun g hg => by rw [e (r + 3) g (by omega) (by omega)]; exact h.fs hg, fun i hi => by rw [e (r + 4) i (by omega) (by omega)]; exact h.am hi, fun k hk => by rw [e (r + 5) k (by omega) (by omega), e (r + 6) k (by omega) (by omega), e (r + 7) k (by omega) (by omega)]; exact h.ms hk⟩, h.b⟩
theorem SCF.rx {G : FW} (h : SCF F r s) (x : RCX F G) (hr : 40 ≤ r) : SCF G r s := h.sm (fun k => by rw [x.1.2.2.1]) (fun a k h1 h2 => x.1.1 a k (by omega)) (fun a k h1 h2 => x.1.2.1 a k (by omega))
end SCFS
/-- where reading a Strait at r writes -/
def CSX (r : Nat) (F G : FW) : Prop := FX (fun q => q = 3 ∨ (r ≤ q ∧ q ≤ r + 7)) F G ∧ (∀ k, k ≠ 4 → k ≠ 5 → k ≠ 6 → k ≠ 7 → k ≠ 9 → G.1 3 k = F.1 3 k) ∧ ∀ k, k ≠ 8 → G.2.2.1 3 k = F.2.2.1 3 k
theorem CSX.rf {r : Nat} {F : FW} : CSX r F F := ⟨FX.rf, fun _ _ _ _ _ _ => rfl, fun _ _ => rfl⟩
theorem CSX.of {r : Nat} {F G : FW} (x : RCX F G) : CSX r F G := ⟨x.1.wd fun q h => Or.inl h, x.2.1, x.2.2⟩
theorem CSX.tr {r : Nat} {F G K : FW} (a : CSX r F G) (b : CSX r G K) : CSX r F K := ⟨a.1.tr b.1, fun k h1 h2 h3 h4 h5 => (b.2.1 k h1 h2 h3 h4 h5).trans (a.2.1 k h1 h2 h3 h4 h5), fun k h => (b.2.2 k h).trans (a.2.2 k h)⟩
theorem CSX.rx {r : Nat} {F G K : FW} (a : CSX r F G) (x : RCX G K) : CSX r F K := a.tr (CSX.of x)
theorem CSX.p {r a k : Nat} {v : Int32} {F G : FW} (h : CSX r F G) (ha : r ≤ a ∧ a ≤ r + 7) (hr : 40 ≤ r) : CSX r F (fp G a k v) := ⟨h.1.fp (Or.inr ha), fun j h1 h2 h3 h4 h5 => (fp_ne (Or.inl (by omega))).trans (h.2.1 j h1 h2 h3 h4 h5), h.2.2⟩
theorem CSX.pl {r a k : Nat} {v : Int64} {F G : FW} (h : CSX r F G) (ha : r ≤ a ∧ a ≤ r + 7) (hr : 40 ≤ r) : CSX r F (fpl G a k v) := ⟨h.1.fpl (Or.inr ha), h.2.1, fun j c => (fpl_ne (Or.inl (by omega))).trans (h.2.2 j c)⟩
theorem CSX.G {r : Nat} {F G : FW} (h : CSX r F G) (g : GW F) : GW G := g.fx h.1
theorem CSX.TK {r : Nat} {F G : FW} {T : Nat → TT} {m : Nat} (h : CSX r F G) (hr : 40 ≤ r) (t : TKF F T m) : TKF G T m := by
  obtain ⟨h1, h2, h3, h4, h5⟩ := t
  refine ⟨h1, h2, (h.2.1 3 (by decide) (by decide) (by decide) (by decide) (by decide)).trans h3, fun j hj => ?_, h5⟩
  obtain ⟨a, b, c, d, e⟩ := h4 j hj
  exact ⟨by rw [h.1.1 4 j (by omega)]; exact a, by rw [h.1.1 5 j (by omega)]; exact b, fun z => by rw [h.1.2.1 6 j (by omega)]; exact c z, fun z => by rw [h.1.2.1 6 j (by omega)]; exact d z, e⟩
def LCQ (F G : FW) (T : Nat → TT) (m r : Nat) (v : Option Value) (x : LR) : Prop := CSX r F G ∧ match x with
  | .inl y => v = some (.int 1) ∧ G.1 3 4 = Int32.ofNat y.2 ∧ G.1 3 9 = F.1 3 9 ∧ SCF G r y.1 ∧ y.2 < m
  | .inr z => v = some (.int 0) ∧ (G.1 3 9).toInt = z.1 ∧ CURF G (T z.2)
theorem LCQ.ok {F G : FW} {T : Nat → TT} {m r j : Nat} {x : LR} {s : PS} (e : x = LR.ok s j) (h : CSX r F G) (h4 : G.1 3 4 = Int32.ofNat j) (h9 : G.1 3 9 = F.1 3 9) (hs : SCF G r s) (hj : j < m) : LCQ F G T m r (some (.int 1)) x := by
  rw [e]
  exact ⟨h, rfl, h4, h9, hs, hj⟩
theorem LCQ.bad {F G : FW} {T : Nat → TT} {m r j : Nat} {x : LR} {f : Int} (e : x = LR.bad f j) (h : CSX r F G) (h9 : (G.1 3 9).toInt = f) (hc : CURF G (T j)) : LCQ F G T m r (some (.int 0)) x := by
  rw [e]
  exact ⟨h, rfl, h9, hc⟩
theorem LCQ.fl {F G : FW} {T : Nat → TT} {m r j : Nat} {x : LR} {c : Int32} (e : x = LR.bad c.toInt j) (h : CSX r F G) (hc : CURF G (T j)) : LCQ F (fp G 3 9 c) T m r (some (.int 0)) x := LCQ.bad e (h.rx (RCX.rf.fp (Or.inr (Or.inr (Or.inr (Or.inr rfl)))))) (congrArg Int32.toInt fp_eq) hc.p9
theorem CURF.oth {F : FW} {X : TT} {a k : Nat} {v : Int32} (h : CURF F X) (ha : a ≠ 3) : CURF (fp F a k v) X := ⟨(congrArg Int32.toInt (fp_ne (Or.inl (fun e => ha e.symm)))).trans h.1, (congrArg Int32.toInt (fp_ne (Or.inl (fun e => ha e.symm)))).trans h.2.1, fun e => (congrArg Int32.toInt (fp_ne (Or.inl (fun e => ha e.symm)))).trans (h.2.2.1 e), h.2.2.2⟩
theorem SCF.load {F : FW} {r : Nat} {s : PS} {v : Int32} {a : Int} (h : SCF F r s) (hv : v.toInt = a) : SCF (fp (fp F r 11 1) r 7 v) r (ups s.h 2 a, s.nm, true, s.tl) := by
  have e : ∀ j, j ≠ 2 → ups s.h 2 a j = s.h j := fun j hj => ups_ne hj
  have q : ∀ b k, (b ≠ r ∨ (k ≠ 7 ∧ k ≠ 11)) → (fp (fp F r 11 1) r 7 v).1 b k = F.1 b k := fun b k c => (fp_ne (by omega)).trans (fp_ne (by omega))
  refine ⟨h.o, ⟨?_, ?_, ?_, ?_, ?_, fun i hi => h.tl hi⟩, ⟨fun g hg => h.gn (by have : (g : Int) < ups s.h 2 a 0 := hg; rwa [e 0 (by decide)] at this), fun g hg => h.mn (by have : (g : Int) < ups s.h 2 a 1 := hg; rwa [e 1 (by decide)] at this)⟩, ⟨fun g hg => ?_, fun i hi => ?_, fun k hk => ?_⟩, ?_⟩
  · show _ = ups s.h 2 a 2
    rw [ups_eq, fp_eq]
    exact hv
  · show _ = ups s.h 2 a 0
    rw [e 0 (by decide), q r 8 (Or.inr (by decide))]
    exact h.n0
  · show _ = ups s.h 2 a 1
    rw [e 1 (by decide), q r 9 (Or.inr (by decide))]
    exact h.n1
  · show _ = ups s.h 2 a 3
    rw [e 3 (by decide), q r 10 (Or.inr (by decide))]
    exact h.n3
  · show _ = (1 : Int32)
    rw [fp_ne (Or.inr (by decide)), fp_eq]
  · show _ = ups s.h 2 a (52 + g)
    have hg' : (g : Int) < ups s.h 2 a 1 := hg
    rw [e 1 (by decide)] at hg'
    rw [e _ (by omega), q _ _ (Or.inl (by omega))]
    exact h.fs hg'
  · show _ = ups s.h 2 a (4 + i)
    rw [e _ (by omega), q _ _ (Or.inl (by omega))]
    exact h.am hi
  · have hk' : (k : Int) < ups s.h 2 a 3 := hk
    rw [e 3 (by decide)] at hk'
    show _ = ups s.h 2 a (60 + k) ∧ _ = ups s.h 2 a (80 + k) ∧ _ = ups s.h 2 a (100 + k)
    rw [e _ (by omega), e _ (by omega), e _ (by omega), q _ _ (Or.inl (by omega)), q _ _ (Or.inl (by omega)), q _ _ (Or.inl (by omega))]
    exact h.ms hk'
  · show 0 ≤ ups s.h 2 a 0 ∧ ups s.h 2 a 0 ≤ 6 ∧ 0 ≤ ups s.h 2 a 1 ∧ ups s.h 2 a 1 ≤ 8 ∧ 0 ≤ ups s.h 2 a 3 ∧ ups s.h 2 a 3 ≤ 20
    rw [e 0 (by decide), e 1 (by decide), e 3 (by decide)]
    exact h.b
theorem SCF.good {F : FW} {r g : Nat} {s : PS} {w : Int64} {v : Int} (h : SCF F r s) (hg : s.h 0 = (g : Int)) (h6 : g < 6) (hw : w.toInt = c32 7 v) (hv : LW 7 v) : SCF (fp (fpl F (r + 1) g w) r 8 (Int32.ofNat (g + 1))) r (ups s.h 0 (s.h 0 + 1), ups s.nm (s.h 0).toNat v, s.ld, s.tl) := by
  have e : ∀ j, j ≠ 0 → ups s.h 0 (s.h 0 + 1) j = s.h j := fun j hj => ups_ne hj
  have q : ∀ b k, (b ≠ r ∨ k ≠ 8) → (fp (fpl F (r + 1) g w) r 8 (Int32.ofNat (g + 1))).1 b k = F.1 b k := fun b k c => fp_ne c
  have b := h.b
  unfold PSB at b
  have tg : (s.h 0).toNat = g := by omega
  refine ⟨h.o, ⟨?_, ?_, ?_, ?_, ?_, fun i hi => (congrArg (fun z => lb z i) (fpl_ne (Or.inl (by omega)))).trans (h.tl hi)⟩, ⟨fun j hj => ?_, fun j hj => ?_⟩, ⟨fun j hj => ?_, fun i hi => ?_, fun k hk => ?_⟩, ?_⟩
  · show _ = ups s.h 0 (s.h 0 + 1) 2
    rw [e 2 (by decide), q r 7 (Or.inr (by decide))]
    exact h.l
  · show _ = ups s.h 0 (s.h 0 + 1) 0
    rw [ups_eq, fp_eq, i_toInt (by omega)]
    omega
  · show _ = ups s.h 0 (s.h 0 + 1) 1
    rw [e 1 (by decide), q r 9 (Or.inr (by decide))]
    exact h.n1
  · show _ = ups s.h 0 (s.h 0 + 1) 3
    rw [e 3 (by decide), q r 10 (Or.inr (by decide))]
    exact h.n3
  · exact (q r 11 (Or.inr (by decide))).trans h.ld
  · have hj' : (j : Int) < ups s.h 0 (s.h 0 + 1) 0 := hj
    rw [ups_eq] at hj'
    show ((fpl F (r + 1) g w).2.2.1 (r + 1) j).toInt = c32 7 (ups s.nm (s.h 0).toNat v j) ∧ LW 7 (ups s.nm (s.h 0).toNat v j)
    rw [tg]
    by_cases c : j = g
    · rw [c, ups_eq, fpl_eq]
      exact ⟨hw, hv⟩
    · rw [ups_ne c, fpl_ne (Or.inr c)]
      exact h.gn (by omega)
  · have hj' : (j : Int) < ups s.h 0 (s.h 0 + 1) 1 := hj
    rw [e 1 (by decide)] at hj'
    show ((fpl F (r + 1) g w).2.2.1 (r + 2) j).toInt = c32 7 (ups s.nm (s.h 0).toNat v (6 + j)) ∧ LW 7 (ups s.nm (s.h 0).toNat v (6 + j))
    rw [ups_ne (by omega), fpl_ne (Or.inl (by omega))]
    exact h.mn hj'
  · have hj' : (j : Int) < ups s.h 0 (s.h 0 + 1) 1 := hj
    rw [e 1 (by decide)] at hj'
    show _ = ups s.h 0 (s.h 0 + 1) (52 + j)
    rw [e _ (by omega), q _ _ (Or.inl (by omega))]
    exact h.fs hj'
  · show _ = ups s.h 0 (s.h 0 + 1) (4 + i)
    rw [e _ (by omega), q _ _ (Or.inl (by omega))]
    exact h.am hi
  · have hk' : (k : Int) < ups s.h 0 (s.h 0 + 1) 3 := hk
    rw [e 3 (by decide)] at hk'
    show _ = ups s.h 0 (s.h 0 + 1) (60 + k) ∧ _ = ups s.h 0 (s.h 0 + 1) (80 + k) ∧ _ = ups s.h 0 (s.h 0 + 1) (100 + k)
    rw [e _ (by omega), e _ (by omega), e _ (by omega), q _ _ (Or.inl (by omega)), q _ _ (Or.inl (by omega)), q _ _ (Or.inl (by omega))]
    exact h.ms hk'
  · show 0 ≤ ups s.h 0 (s.h 0 + 1) 0 ∧ ups s.h 0 (s.h 0 + 1) 0 ≤ 6 ∧ 0 ≤ ups s.h 0 (s.h 0 + 1) 1 ∧ ups s.h 0 (s.h 0 + 1) 1 ≤ 8 ∧ 0 ≤ ups s.h 0 (s.h 0 + 1) 3 ∧ ups s.h 0 (s.h 0 + 1) 3 ≤ 20
    rw [ups_eq, e 1 (by decide), e 3 (by decide)]
    omega
theorem SCF.man {F : FW} {r m : Nat} {s : PS} {w : Int64} {v a : Int} {d : Int32} (h : SCF F r s) (hm : s.h 1 = (m : Int)) (h8 : m < 8) (hw : w.toInt = c32 7 v) (hv : LW 7 v) (hd : d.toInt = a) : SCF (fp (fp (fpl F (r + 2) m w) (r + 3) m d) r 9 (Int32.ofNat (m + 1))) r (ups (ups s.h (52 + m) a) 1 (s.h 1 + 1), ups s.nm (6 + m) v, s.ld, s.tl) := by
  have e : ∀ j, j ≠ 1 → j ≠ 52 + m → ups (ups s.h (52 + m) a) 1 (s.h 1 + 1) j = s.h j := fun j h1 h2 => (ups_ne h1).trans (ups_ne h2)
  have q : ∀ b k, (b ≠ r ∨ k ≠ 9) → (b ≠ r + 3 ∨ k ≠ m) → (fp (fp (fpl F (r + 2) m w) (r + 3) m d) r 9 (Int32.ofNat (m + 1))).1 b k = F.1 b k := fun b k c1 c2 => (fp_ne c1).trans (fp_ne c2)
  have b := h.b
  unfold PSB at b
  refine ⟨h.o, ⟨?_, ?_, ?_, ?_, ?_, fun i hi => (congrArg (fun z => lb z i) (fpl_ne (Or.inl (by omega)))).trans (h.tl hi)⟩, ⟨fun j hj => ?_, fun j hj => ?_⟩, ⟨fun j hj => ?_, fun i hi => ?_, fun k hk => ?_⟩, ?_⟩
  · show _ = ups (ups s.h (52 + m) a) 1 (s.h 1 + 1) 2
    rw [e 2 (by decide) (by omega), q r 7 (Or.inr (by decide)) (Or.inl (by omega))]
    exact h.l
  · show _ = ups (ups s.h (52 + m) a) 1 (s.h 1 + 1) 0
    rw [e 0 (by decide) (by omega), q r 8 (Or.inr (by decide)) (Or.inl (by omega))]
    exact h.n0
  · show _ = ups (ups s.h (52 + m) a) 1 (s.h 1 + 1) 1
    rw [ups_eq, fp_eq, i_toInt (by omega)]
    omega
  · show _ = ups (ups s.h (52 + m) a) 1 (s.h 1 + 1) 3
    rw [e 3 (by decide) (by omega), q r 10 (Or.inr (by decide)) (Or.inl (by omega))]
    exact h.n3
  · exact (q r 11 (Or.inr (by decide)) (Or.inl (by omega))).trans h.ld
  · have hj' : (j : Int) < ups (ups s.h (52 + m) a) 1 (s.h 1 + 1) 0 := hj
    rw [e 0 (by decide) (by omega)] at hj'
    show ((fpl F (r + 2) m w).2.2.1 (r + 1) j).toInt = c32 7 (ups s.nm (6 + m) v j) ∧ LW 7 (ups s.nm (6 + m) v j)
    rw [ups_ne (by omega), fpl_ne (Or.inl (by omega))]
    exact h.gn hj'
  · have hj' : (j : Int) < ups (ups s.h (52 + m) a) 1 (s.h 1 + 1) 1 := hj
    rw [ups_eq] at hj'
    show ((fpl F (r + 2) m w).2.2.1 (r + 2) j).toInt = c32 7 (ups s.nm (6 + m) v (6 + j)) ∧ LW 7 (ups s.nm (6 + m) v (6 + j))
    by_cases c : j = m
    · rw [c, ups_eq, fpl_eq]
      exact ⟨hw, hv⟩
    · rw [ups_ne (by omega), fpl_ne (Or.inr c)]
      exact h.mn (by omega)
  · have hj' : (j : Int) < ups (ups s.h (52 + m) a) 1 (s.h 1 + 1) 1 := hj
    rw [ups_eq] at hj'
    show _ = ups (ups s.h (52 + m) a) 1 (s.h 1 + 1) (52 + j)
    rw [ups_ne (by omega)]
    by_cases c : j = m
    · rw [c, ups_eq, fp_ne (Or.inl (by omega)), fp_eq]
      exact hd
    · rw [ups_ne (by omega), q _ _ (Or.inl (by omega)) (Or.inr c)]
      exact h.fs (by omega)
  · show _ = ups (ups s.h (52 + m) a) 1 (s.h 1 + 1) (4 + i)
    rw [e _ (by omega) (by omega), q _ _ (Or.inl (by omega)) (Or.inl (by omega))]
    exact h.am hi
  · have hk' : (k : Int) < ups (ups s.h (52 + m) a) 1 (s.h 1 + 1) 3 := hk
    rw [e 3 (by decide) (by omega)] at hk'
    show _ = ups (ups s.h (52 + m) a) 1 (s.h 1 + 1) (60 + k) ∧ _ = ups (ups s.h (52 + m) a) 1 (s.h 1 + 1) (80 + k) ∧ _ = ups (ups s.h (52 + m) a) 1 (s.h 1 + 1) (100 + k)
    rw [e _ (by omega) (by omega), e _ (by omega) (by omega), e _ (by omega) (by omega), q _ _ (Or.inl (by omega)) (Or.inl (by omega)), q _ _ (Or.inl (by omega)) (Or.inl (by omega)), q _ _ (Or.inl (by omega)) (Or.inl (by omega))]
    exact h.ms hk'
  · show 0 ≤ ups (ups s.h (52 + m) a) 1 (s.h 1 + 1) 0 ∧ ups (ups s.h (52 + m) a) 1 (s.h 1 + 1) 0 ≤ 6 ∧ 0 ≤ ups (ups s.h (52 + m) a) 1 (s.h 1 + 1) 1 ∧ ups (ups s.h (52 + m) a) 1 (s.h 1 + 1) 1 ≤ 8 ∧ 0 ≤ ups (ups s.h (52 + m) a) 1 (s.h 1 + 1) 3 ∧ ups (ups s.h (52 + m) a) 1 (s.h 1 + 1) 3 ≤ 20
    rw [ups_eq, e 0 (by decide) (by omega), e 3 (by decide) (by omega)]
    omega
