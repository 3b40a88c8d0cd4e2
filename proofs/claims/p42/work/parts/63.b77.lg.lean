/-! ===== the lines of a LOG: deed, where or who, how many; where it goes on; or what is wrong, and at which token ===== -/
abbrev LL : Type := (Nat × Nat × Nat × Nat) ⊕ (Int32 × Nat)
abbrev ll_y (d w x j : Nat) : LL := Sum.inl (d, w, x, j)
abbrev ll_n (c : Int32) (j : Nat) : LL := Sum.inr (c, j)
def gP (nm : Nat → Int) (v : Int) (g : Nat) : Bool := decide (nm g = v)
def mP (nm : Nat → Int) (v : Int) (g : Nat) : Bool := decide (nm (6 + g) = v)
def ll_num (X : TT) (lo hi : Int) (j : Nat) (K : Nat → LL) : LL := if tnN X lo hi = 0 then K X.v.toNat else ll_n (tnN X lo hi) j
def ll_deed (T : Nat → TT) (nm : Nat → Int) (tg d i : Nat) : LL := if tnW (T (i + 1)) = 0 then (match m_fst (gP nm (T (i + 1)).v) tg with
  | none => ll_n 3 (i + 1)
  | some g => ll_num (T (i + 2)) 0 1 (i + 2) fun s => ll_num (T (i + 3)) 1 250 (i + 3) fun x => ll_y d (2 * g + s) x (i + 4)) else ll_n (tnW (T (i + 1))) (i + 1)
def ll_days (T : Nat → TT) (i : Nat) : LL := ll_num (T (i + 1)) 1 60 (i + 1) fun x => ll_y 4 0 x (i + 2)
def ll_death (T : Nat → TT) (w i : Nat) : LL := if (T (i + 1)).k = 75 then ll_y 3 w 0 (i + 2) else ll_n 1 (i + 1)
def ll (T : Nat → TT) (nm : Nat → Int) (tg tm c i : Nat) : LL :=
  if 72 ≤ (T i).k ∧ (T i).k ≤ 74 then (if 40 ≤ c then ll_n 4 i else ll_deed T nm tg ((T i).k - 72).toNat i)
  else if (T i).k = 76 then (if 40 ≤ c then ll_n 4 i else ll_days T i)
  else if (T i).k = 2 then (match m_fst (mP nm (T i).v) tm with
    | none => ll_n 3 i
    | some w => if 40 ≤ c then ll_n 4 i else ll_death T w i)
  else ll_n 1 i
abbrev LN : Type := Nat → Nat × Nat × Nat
def upn (L : LN) (n : Nat) (x : Nat × Nat × Nat) : LN := fun k => if k = n then x else L k
/-- n lines stand: they, and where it goes on -/
def lgj (T : Nat → TT) (L : LN) (n : Nat) (x : LL) : Option (LN × Nat) := match x with
  | .inl y => if tnS (T y.2.2.2) 59 = 0 then some (upn L n (y.1, y.2.1, y.2.2.1), y.2.2.2 + 1) else none
  | .inr _ => none
def lgn (T : Nat → TT) (nm : Nat → Int) (tg tm n : Nat) (x : Option (LN × Nat)) : Option (LN × Nat) := match x with
  | none => none
  | some y => if (T y.2).k = 0 then none else lgj T y.1 n (ll T nm tg tm n y.2)
def lgs (T : Nat → TT) (nm : Nat → Int) (tg tm : Nat) : Nat → Option (LN × Nat)
  | 0 => some (fun _ => (0, 0, 0), 0)
  | n + 1 => lgn T nm tg tm n (lgs T nm tg tm n)
/-- it ends there: well (0) or not, and at which token -/
def lgz (T : Nat → TT) (x : LL) : Option (Int32 × Nat) := match x with
  | .inl y => if tnS (T y.2.2.2) 59 = 0 then none else some (1, y.2.2.2)
  | .inr z => some z
def lge (T : Nat → TT) (nm : Nat → Int) (tg tm n i : Nat) : Option (Int32 × Nat) := if (T i).k = 0 then some (0, i) else lgz T (ll T nm tg tm n i)
def LGA (T : Nat → TT) (nm : Nat → Int) (tg tm n : Nat) (L : LN) (c : Int32) (j : Nat) : Prop := ∃ i, lgs T nm tg tm n = some (L, i) ∧ lge T nm tg tm n i = some (c, j)
theorem lgs_stop {T : Nat → TT} {nm : Nat → Int} {tg tm n i : Nat} {L : LN} {q : Int32 × Nat} (h : lgs T nm tg tm n = some (L, i)) (e : lge T nm tg tm n i = some q) : lgs T nm tg tm (n + 1) = none := by
  show lgn T nm tg tm n (lgs T nm tg tm n) = none
  rw [h]
  show (if (T i).k = 0 then none else lgj T L n (ll T nm tg tm n i)) = none
  unfold lge at e
  by_cases c : (T i).k = 0
  · rw [if_pos c]
  · rw [if_neg c] at e ⊢
    unfold lgz at e
    unfold lgj
    split at e
    · rename_i y hy
      by_cases d : tnS (T y.2.2.2) 59 = 0
      · rw [if_pos d] at e
        cases e
      · rw [if_neg d]
    · rfl
theorem lgs_none {T : Nat → TT} {nm : Nat → Int} {tg tm n : Nat} (h : lgs T nm tg tm n = none) : ∀ d, lgs T nm tg tm (n + d) = none
  | 0 => h
  | d + 1 => by
    show lgn T nm tg tm (n + d) (lgs T nm tg tm (n + d)) = none
    rw [lgs_none h d]
    rfl
/-- one end alone -/
theorem LGA_one {T : Nat → TT} {nm : Nat → Int} {tg tm n n' : Nat} {L L' : LN} {c c' : Int32} {j j' : Nat} (h : LGA T nm tg tm n L c j) (h' : LGA T nm tg tm n' L' c' j') : n = n' ∧ L = L' ∧ c = c' ∧ j = j' := by
  obtain ⟨i, h1, h2⟩ := h
  obtain ⟨i', h1', h2'⟩ := h'
  have e : n = n' := by
    rcases Nat.lt_trichotomy n n' with c | c | c
    · have z := lgs_none (lgs_stop h1 h2) (n' - (n + 1))
      rw [show n + 1 + (n' - (n + 1)) = n' by omega, h1'] at z
      cases z
    · exact c
    · have z := lgs_none (lgs_stop h1' h2') (n - (n' + 1))
      rw [show n' + 1 + (n - (n' + 1)) = n by omega, h1] at z
      cases z
  subst e
  rw [h1] at h1'
  obtain ⟨rfl, rfl⟩ := Prod.mk.inj (Option.some.inj h1')
  rw [h2] at h2'
  obtain ⟨rfl, rfl⟩ := Prod.mk.inj (Option.some.inj h2')
  exact ⟨rfl, rfl, rfl, rfl⟩
theorem lgs_y {T : Nat → TT} {nm : Nat → Int} {tg tm n i d w x j : Nat} {L : LN} (h : lgs T nm tg tm n = some (L, i)) (h0 : (T i).k ≠ 0) (e : ll T nm tg tm n i = ll_y d w x j) (s : tnS (T j) 59 = 0) : lgs T nm tg tm (n + 1) = some (upn L n (d, w, x), j + 1) := by
  show lgn T nm tg tm n (lgs T nm tg tm n) = _
  rw [h]
  show (if (T i).k = 0 then none else lgj T L n (ll T nm tg tm n i)) = _
  rw [if_neg h0, e]
  exact if_pos s
theorem lge_0 {T : Nat → TT} {nm : Nat → Int} {tg tm n i : Nat} (h : (T i).k = 0) : lge T nm tg tm n i = some (0, i) := if_pos h
theorem lge_n {T : Nat → TT} {nm : Nat → Int} {tg tm n i j : Nat} {c : Int32} (h : (T i).k ≠ 0) (e : ll T nm tg tm n i = ll_n c j) : lge T nm tg tm n i = some (c, j) := by
  unfold lge
  rw [if_neg h, e]
  rfl
theorem lge_s {T : Nat → TT} {nm : Nat → Int} {tg tm n i d w x j : Nat} (h : (T i).k ≠ 0) (e : ll T nm tg tm n i = ll_y d w x j) (s : tnS (T j) 59 ≠ 0) : lge T nm tg tm n i = some (1, j) := by
  unfold lge
  rw [if_neg h, e]
  exact if_neg s
theorem ll_40 {T : Nat → TT} {nm : Nat → Int} {tg tm c i d w x j : Nat} (e : ll T nm tg tm c i = ll_y d w x j) : c < 40 := by
  by_cases h : 40 ≤ c
  · unfold ll at e
    rw [if_pos h, if_pos h] at e
    split at e
    · cases e
    · split at e
      · cases e
      · split at e
        · split at e
          · cases e
          · cases e
        · cases e
  · omega
/-! ===== what reading a line changes ===== -/
def LCX (c : Nat) (F G : FW) : Prop := FX (fun q => q = 3 ∨ (36 ≤ q ∧ q ≤ 39)) F G ∧ (∀ k, k ≠ 4 → k ≠ 5 → k ≠ 6 → k ≠ 7 → k ≠ 9 → G.1 3 k = F.1 3 k) ∧ (∀ k, k ≠ 3 → G.1 36 k = F.1 36 k) ∧ ∀ k, k < c → G.1 37 k = F.1 37 k ∧ G.1 38 k = F.1 38 k ∧ G.1 39 k = F.1 39 k
theorem LCX.of {c : Nat} {F G : FW} (h : RCX F G) : LCX c F G := ⟨h.1.wd fun _ e => Or.inl e, h.2.1, fun k _ => h.1.1 36 k (by decide), fun k _ => ⟨h.1.1 37 k (by decide), h.1.1 38 k (by decide), h.1.1 39 k (by decide)⟩⟩
theorem LCX.tr {c : Nat} {F G K : FW} (a : LCX c F G) (b : LCX c G K) : LCX c F K := ⟨a.1.tr b.1, fun k h1 h2 h3 h4 h5 => (b.2.1 k h1 h2 h3 h4 h5).trans (a.2.1 k h1 h2 h3 h4 h5), fun k h => (b.2.2.1 k h).trans (a.2.2.1 k h), fun k h => ⟨(b.2.2.2 k h).1.trans (a.2.2.2 k h).1, (b.2.2.2 k h).2.1.trans (a.2.2.2 k h).2.1, (b.2.2.2 k h).2.2.trans (a.2.2.2 k h).2.2⟩⟩
theorem LCX.G {c : Nat} {F G : FW} (h : LCX c F G) (g : GW F) : GW G := g.fx h.1
theorem LCX.dn {c d : Nat} {F G : FW} (h : LCX c F G) (e : d ≤ c) : LCX d F G := ⟨h.1, h.2.1, h.2.2.1, fun k hk => h.2.2.2 k (by omega)⟩
theorem LCX.TK {c : Nat} {F G : FW} {T : Nat → TT} {m : Nat} (h : LCX c F G) (t : TKF F T m) : TKF G T m := by
  have e4 : ∀ j, G.1 4 j = F.1 4 j := fun j => h.1.1 4 j (by decide)
  have e5 : ∀ j, G.1 5 j = F.1 5 j := fun j => h.1.1 5 j (by decide)
  have e6 : ∀ j, G.2.2.1 6 j = F.2.2.1 6 j := fun j => h.1.2.1 6 j (by decide)
  refine ⟨t.1, t.2.1, (h.2.1 3 (by decide) (by decide) (by decide) (by decide) (by decide)).trans t.2.2.1, fun j hj => ?_, t.2.2.2.2⟩
  rw [e4, e5, e6]
  exact t.2.2.2.1 j hj
/-- a line is written down as the c-th -/
def AL (F : FW) (c : Nat) (d w x : Int32) : FW := fp (fp (fp (fp F 37 c d) 38 c w) 39 c x) 36 3 (Int32.ofNat (c + 1))
theorem AL.lcx {F : FW} {c : Nat} {d w x : Int32} : LCX c F (AL F c d w x) :=
  ⟨(((FX.rf.fp (Or.inr (by omega))).fp (Or.inr (by omega))).fp (Or.inr (by omega))).fp (Or.inr (by omega)), fun k _ _ _ _ _ => (fp_ne (Or.inl (by decide))).trans ((fp_ne (Or.inl (by decide))).trans ((fp_ne (Or.inl (by decide))).trans (fp_ne (Or.inl (by decide))))), fun k hk => (fp_ne (Or.inr hk)).trans ((fp_ne (Or.inl (by decide))).trans ((fp_ne (Or.inl (by decide))).trans (fp_ne (Or.inl (by decide))))),
   fun k hk => ⟨(fp_ne (Or.inl (by decide))).trans ((fp_ne (Or.inl (by decide))).trans ((fp_ne (Or.inl (by decide))).trans (fp_ne (Or.inr (by omega))))), (fp_ne (Or.inl (by decide))).trans ((fp_ne (Or.inl (by decide))).trans ((fp_ne (Or.inr (by omega))).trans (fp_ne (Or.inl (by decide))))), (fp_ne (Or.inl (by decide))).trans ((fp_ne (Or.inr (by omega))).trans ((fp_ne (Or.inl (by decide))).trans (fp_ne (Or.inl (by decide)))))⟩⟩
def LIN (F : FW) (c d w x : Nat) : Prop := F.1 36 3 = Int32.ofNat (c + 1) ∧ F.1 37 c = Int32.ofNat d ∧ F.1 38 c = Int32.ofNat w ∧ F.1 39 c = Int32.ofNat x
theorem AL.lin {F : FW} {c d w x : Nat} : LIN (AL F c (Int32.ofNat d) (Int32.ofNat w) (Int32.ofNat x)) c d w x :=
  ⟨fp_eq, (fp_ne (Or.inl (by decide))).trans ((fp_ne (Or.inl (by decide))).trans ((fp_ne (Or.inl (by decide))).trans fp_eq)), (fp_ne (Or.inl (by decide))).trans ((fp_ne (Or.inl (by decide))).trans fp_eq), (fp_ne (Or.inl (by decide))).trans fp_eq⟩
theorem AL.at3 {F : FW} {c k : Nat} {d w x : Int32} : (AL F c d w x).1 3 k = F.1 3 k := (fp_ne (Or.inl (by decide))).trans ((fp_ne (Or.inl (by decide))).trans ((fp_ne (Or.inl (by decide))).trans (fp_ne (Or.inl (by decide)))))
/-- what comes of a line -/
def ll_b (x : LL) : Int32 := match x with
  | .inl _ => 1
  | .inr _ => 0
def LLP (F G : FW) (T : Nat → TT) (m c : Nat) (r : Option Value) (x : LL) : Prop := r = some (.int (ll_b x)) ∧ LCX c F G ∧ match x with
  | .inl y => G.1 3 4 = Int32.ofNat y.2.2.2 ∧ G.1 3 9 = F.1 3 9 ∧ LIN G c y.1 y.2.1 y.2.2.1 ∧ y.2.2.2 < m
  | .inr z => G.1 3 9 = z.1 ∧ CURF G (T z.2)
theorem LLP.mk_n {F G : FW} {T : Nat → TT} {m c j : Nat} {q : Int32} {x : LL} (e : x = ll_n q j) (h : LCX c F G) (h9 : G.1 3 9 = q) (hc : CURF G (T j)) : LLP F G T m c (some (.int 0)) x := by
  rw [e]
  exact ⟨rfl, h, h9, hc⟩
theorem LLP.mk_y {F G : FW} {T : Nat → TT} {m c d w n j : Nat} {x : LL} (e : x = ll_y d w n j) (h : LCX c F G) (h4 : G.1 3 4 = Int32.ofNat j) (h9 : G.1 3 9 = F.1 3 9) (hl : LIN G c d w n) (hj : j < m) : LLP F G T m c (some (.int 1)) x := by
  rw [e]
  exact ⟨rfl, h, h4, h9, hl, hj⟩
theorem LLP.to {F G : FW} {T : Nat → TT} {m c : Nat} {r : Option Value} {x y : LL} (e : x = y) (h : LLP F G T m c r y) : LLP F G T m c r x := by
  rw [e]
  exact h
theorem RDC.ok9 {F G : FW} {X : TT} {i : Nat} {c : Int32} (h : RDC F G X i c) (e : c = 0) : G.1 3 9 = F.1 3 9 := by
  have := h.2.2.2
  rw [if_pos e] at this
  exact this
theorem RDC.bad9 {F G : FW} {X : TT} {i : Nat} {c : Int32} (h : RDC F G X i c) (e : ¬ c = 0) : G.1 3 9 = c := by
  have := h.2.2.2
  rw [if_neg e] at this
  exact this
theorem tnW_k {X : TT} (h : tnW X = 0) : X.k = 2 := by
  unfold tnW at h
  split at h
  · assumption
  · cases h
theorem tnN_k {X : TT} {lo hi : Int} (h : tnN X lo hi = 0) : X.k = 3 ∧ lo ≤ X.v ∧ X.v ≤ hi := by
  unfold tnN at h
  split at h
  · split at h
    · cases h
    · exact ⟨by assumption, by omega, by omega⟩
  · cases h
theorem tnS_k {X : TT} {x : Int} (h : tnS X x = 0) : X.k = x := by
  unfold tnS at h
  split at h
  · assumption
  · cases h
theorem i_ofv {x : Int32} {v : Int} (h : x.toInt = v) (h0 : 0 ≤ v) : x = Int32.ofNat v.toNat := Int32.toInt_inj.mp (by
  have := Int32.toInt_lt x
  rw [i_toInt (by omega)]
  omega)
/-- a good's name is taken: which, and what is wrong -/
def tgz (nm : Nat → Int) (tg : Nat) (X : TT) : Int32 := if tnW X = 0 then oN (m_fst (gP nm X.v) tg) else -1
def tgc (nm : Nat → Int) (tg : Nat) (X : TT) : Int32 := if tnW X = 0 then (if oN (m_fst (gP nm X.v) tg) = -1 then 3 else 0) else tnW X
theorem oN_m {q : Option Nat} {n : Nat} (hq : ∀ k, q = some k → k < n) (hn : n ≤ 8) : oN q = -1 ↔ q = none := by
  cases q with
  | none => exact ⟨fun _ => rfl, fun _ => rfl⟩
  | some k =>
    have b := hq k rfl
    refine ⟨fun h => ?_, fun h => by cases h⟩
    have e : (Int32.ofNat k).toInt = (-1 : Int32).toInt := congrArg Int32.toInt h
    rw [i_toInt (by omega)] at e
    have e1 : (-1 : Int32).toInt = -1 := rfl
    omega
theorem oN_1 {P : Nat → Bool} {n : Nat} (hn : n ≤ 8) : oN (m_fst P n) = -1 ↔ m_fst P n = none := oN_m (fun _ e => (m_fst_lt e).1) hn
theorem tgd_n {T : Nat → TT} {nm : Nat → Int} {tg d i : Nat} (ht : tg ≤ 8) (h : tgz nm tg (T (i + 1)) = -1) : ll_deed T nm tg d i = ll_n (tgc nm tg (T (i + 1))) (i + 1) ∧ ¬ tgc nm tg (T (i + 1)) = 0 := by
  unfold ll_deed
  unfold tgc
  unfold tgz at h
  by_cases c : tnW (T (i + 1)) = 0
  · rw [if_pos c] at h ⊢
    rw [if_pos c, if_pos h, (oN_1 ht).mp h]
    exact ⟨rfl, by decide⟩
  · rw [if_neg c, if_neg c]
    exact ⟨rfl, c⟩
theorem tgd_y {nm : Nat → Int} {tg : Nat} {X : TT} (ht : tg ≤ 8) (h : ¬ tgz nm tg X = -1) : ∃ g, m_fst (gP nm X.v) tg = some g ∧ g < tg ∧ tnW X = 0 ∧ tgz nm tg X = Int32.ofNat g ∧ tgc nm tg X = 0 := by
  unfold tgc
  unfold tgz at h ⊢
  by_cases c : tnW X = 0
  · rw [if_pos c] at h ⊢
    rw [if_pos c, if_neg h]
    cases e : m_fst (gP nm X.v) tg with
    | none =>
      rw [e] at h
      exact absurd rfl h
    | some g => exact ⟨g, rfl, (m_fst_lt e).1, c, rfl, rfl⟩
  · rw [if_neg c] at h
    exact absurd rfl h
