/-! ===== the class's days on a STRAIT that tells nothing ===== -/
def T45 : ab_E := .inr (7, [.ref 46, .ref 47, .ref 48, .ref 49, .ref 50, .ref 51, .ref 52, .int 10, .int 0, .int 0, .int 0, .int 0, .long 0])
def T7 (x y : Int32) : ab_E := .inr (1, [.ref 8, .ref 9, .int x, .int y])
theorem hp_eq3 {a b c : Nat} {hp : ab_H} {n : Nat} {x y z : ab_E} (h : hp.1 = n + 88) (ha : hp.2 a = x) (hb : hp.2 b = y) (hc : hp.2 c = z) : hp = ab_up (ab_up (ab_up (n + 88, hp.2) a x) b y) c z := by
  have e0 : hp = (n + 88, hp.2) := Prod.ext h rfl
  have e1 : hp = ab_up (n + 88, hp.2) a x := e0.trans (ab_up_same (hp := (n + 88, hp.2)) ha)
  have e2 : hp = ab_up (ab_up (n + 88, hp.2) a x) b y := (ab_up_same hb).trans (congrArg (fun w => ab_up w b y) e1)
  exact (ab_up_same hc).trans (congrArg (fun w => ab_up w c z) e2)
theorem Ev.hp {T : Nat → Option ab_A} {i : Nat} {lo : List (Option Value)} {st : List Value} {u : Nat × Nat} {hp hp' : ab_H} {Q : ab_O → Prop} (e : hp = hp') (h : Ev T i (lo, st, u, hp') Q) : Ev T i (lo, st, u, hp) Q := e ▸ h
def T12 (d e : Int32) : ab_E := .inr (6, [.ref 13, .ref 14, .ref 15, .ref 16, .ref 17, .ref 18, .ref 19, .int d, .int e, .int 0])
def CD12 (n : Nat) (W : ab_H) (d : Int32) (hp : ab_H) : Prop := hp.1 = n + 88 ∧ hp.2 45 = T45 ∧ (∃ x y, hp.2 7 = T7 x y) ∧ (∃ e, hp.2 12 = T12 d e) ∧ hp.2 0 = W.2 0 ∧ hp.2 10 = W.2 10 ∧ hp.2 11 = W.2 11 ∧ ∀ k, hp.2 (k + 69) = W.2 (k + 69)
set_option maxRecDepth 10000 in
set_option maxHeartbeats 2000000 in
theorem c_plan12 {n k : Nat} {g : Nat → ab_E} {x y e : Int32} (hk : k < 400) : Z_X1_plan [.ref 7, .ref 45, .ref 12] (ab_up (ab_up (ab_up (n + 88, g) 45 T45) 7 (T7 x y)) 12 (T12 (Int32.ofNat k) e)) = some (none, ab_up (ab_up (ab_up (ab_up (ab_up (n + 88, g) 45 T45) 7 (T7 x y)) 12 (T12 (Int32.ofNat k) e)) 7 (T7 x 0)) 7 (T7 0 0)) := by
  refine Rn.of rfl ?_
  iterate 7 refine Rn.step rfl rfl ?_
  refine Rn.br (fun hb' => absurd (hb'.symm.trans (i_ge (n := 400) hk (by decide))) (by decide)) (fun _ => ?_)
  repeat refine Rn.step rfl rfl ?_
  exact Rn.ret rfl rfl
set_option maxRecDepth 10000 in
set_option maxHeartbeats 2000000 in
theorem c_pass12 {n c : Nat} {W hp : ab_H} (hb : c < 400) (h : CD12 n W 0 hp) : ∃ hp', Z_X1_passDays [.ref 7, .ref 45, .ref 12, .int (Int32.ofNat c)] hp = some (some (.int (Int32.ofNat c)), hp') ∧ CD12 n W (Int32.ofNat c) hp' := by
  refine xX (Nat.le_of_ble_eq_true rfl) ?_
  refine Ev.step rfl rfl ?_
  refine Ev.getf (fs := [.ref 13, .ref 14, .ref 15, .ref 16, .ref 17, .ref 18, .ref 19, .int 0, .int h.2.2.2.1.choose, .int 0]) rfl (by have := h.1; show 12 < hp.1; omega) h.2.2.2.1.choose_spec rfl ?_
  refine Ev.step rfl rfl ?_
  refine Ev.step rfl rfl ?_
  refine Ev.step rfl rfl ?_
  refine Ev.loop (N := c) (S := fun k x => ([some (.ref 7), some (.ref 45), some (.ref 12), some (.int (Int32.ofNat c)), some (.int 0), some (.int (Int32.ofNat k))], [], (0, 0), x)) (fun k x => CD12 n W (Int32.ofNat k) x) ?_ ?_ hp h
  · intro k x hk hx ih
    obtain ⟨h1, h45, ⟨x1, y1, h7⟩, ⟨e1, ha⟩, hfr⟩ := hx
    have e := hp_eq3 h1 h45 h7 ha
    have hfr' : x.2 0 = W.2 0 ∧ x.2 10 = W.2 10 ∧ x.2 11 = W.2 11 ∧ ∀ k, x.2 (k + 69) = W.2 (k + 69) := hfr
    clear hfr
    revert hfr'
    rw [e]
    generalize x.2 = g
    intro hfr
    obtain ⟨q0, q10, q11, qk⟩ := hfr
    refine Ev.step rfl rfl ?_
    refine Ev.step rfl rfl ?_
    refine Ev.step rfl rfl ?_
    refine Ev.br (fun hb' => absurd (hb'.symm.trans (i_ge hk (by omega))) (by decide)) (fun _ => ?_)
    refine Ev.step rfl rfl ?_
    refine Ev.step rfl rfl ?_
    refine Ev.step rfl rfl ?_
    refine Ev.step rfl rfl ?_
    refine Ev.br (fun hb' => absurd (hb'.symm.trans (i_ge (n := 400) (by omega) (by decide))) (by decide)) (fun _ => ?_)
    iterate 3 refine Ev.step rfl rfl ?_
    refine Ev.callV rfl rfl rfl (c_plan12 (by omega)) ?_
    iterate 18 refine Ev.step rfl rfl ?_
    refine Ev.lo (lo := [some (.ref 7), some (.ref 45), some (.ref 12), some (.int (Int32.ofNat c)), some (.int 0), some (.int (Int32.ofNat k + 1))]) (congrArg (fun v => ([some (.ref 7), some (.ref 45), some (.ref 12), some (.int (Int32.ofNat c)), some (.int 0), some (.int v)] : List (Option Value))) (i_succ k)) ?_
    exact ih _ ⟨rfl, rfl, ⟨_, _, rfl⟩, ⟨e1 + 1, congrArg (fun v => T12 v (e1 + 1)) (i_succ k)⟩, q0, q10, q11, fun k => qk k⟩
  · intro x hx
    refine Ev.step rfl rfl ?_
    refine Ev.step rfl rfl ?_
    refine Ev.step rfl rfl ?_
    refine Ev.br (fun _ => ?_) (fun hb' => absurd ((decide_eq_true (Int32.le_refl (Int32.ofNat c))).symm.trans hb') (by decide))
    have hx' := hx
    obtain ⟨h1, h45, ⟨x1, y1, h7⟩, ⟨e1, ha⟩, hfr⟩ := hx
    refine Ev.step rfl rfl ?_
    refine Ev.getf (fs := [.ref 13, .ref 14, .ref 15, .ref 16, .ref 17, .ref 18, .ref 19, .int (Int32.ofNat c), .int e1, .int 0]) rfl (by show 12 < x.1; omega) ha rfl ?_
    refine Ev.step rfl rfl ?_
    refine Ev.step rfl rfl ?_
    refine Ev.ret rfl rfl ⟨?_, hx'⟩
    show some (Value.int (Int32.ofNat c - 0)) = some (Value.int (Int32.ofNat c))
    rw [Int32.sub_zero]
def T20 (d e : Int32) : ab_E := .inr (6, [.ref 21, .ref 22, .ref 23, .ref 24, .ref 25, .ref 26, .ref 27, .int d, .int e, .int 0])
def CD20 (n : Nat) (W : ab_H) (d : Int32) (hp : ab_H) : Prop := hp.1 = n + 88 ∧ hp.2 45 = T45 ∧ (∃ x y, hp.2 7 = T7 x y) ∧ (∃ e, hp.2 20 = T20 d e) ∧ hp.2 0 = W.2 0 ∧ hp.2 10 = W.2 10 ∧ hp.2 11 = W.2 11 ∧ hp.2 12 = W.2 12 ∧ hp.2 21 = W.2 21 ∧ hp.2 25 = W.2 25 ∧ hp.2 28 = W.2 28 ∧ hp.2 29 = W.2 29 ∧ hp.2 33 = W.2 33 ∧ ∀ k, hp.2 (k + 69) = W.2 (k + 69)
set_option maxRecDepth 10000 in
set_option maxHeartbeats 2000000 in
theorem c_plan20 {n k : Nat} {g : Nat → ab_E} {x y e : Int32} (hk : k < 400) : Z_X1_plan [.ref 7, .ref 45, .ref 20] (ab_up (ab_up (ab_up (n + 88, g) 45 T45) 7 (T7 x y)) 20 (T20 (Int32.ofNat k) e)) = some (none, ab_up (ab_up (ab_up (ab_up (ab_up (n + 88, g) 45 T45) 7 (T7 x y)) 20 (T20 (Int32.ofNat k) e)) 7 (T7 x 0)) 7 (T7 0 0)) := by
  refine Rn.of rfl ?_
  iterate 7 refine Rn.step rfl rfl ?_
  refine Rn.br (fun hb' => absurd (hb'.symm.trans (i_ge (n := 400) hk (by decide))) (by decide)) (fun _ => ?_)
  repeat refine Rn.step rfl rfl ?_
  exact Rn.ret rfl rfl
set_option maxRecDepth 10000 in
set_option maxHeartbeats 2000000 in
theorem c_pass20 {n c : Nat} {W hp : ab_H} (hb : c < 400) (h : CD20 n W 0 hp) : ∃ hp', Z_X1_passDays [.ref 7, .ref 45, .ref 20, .int (Int32.ofNat c)] hp = some (some (.int (Int32.ofNat c)), hp') ∧ CD20 n W (Int32.ofNat c) hp' := by
  refine xX (Nat.le_of_ble_eq_true rfl) ?_
  refine Ev.step rfl rfl ?_
  refine Ev.getf (fs := [.ref 21, .ref 22, .ref 23, .ref 24, .ref 25, .ref 26, .ref 27, .int 0, .int h.2.2.2.1.choose, .int 0]) rfl (by have := h.1; show 20 < hp.1; omega) h.2.2.2.1.choose_spec rfl ?_
  refine Ev.step rfl rfl ?_
  refine Ev.step rfl rfl ?_
  refine Ev.step rfl rfl ?_
  refine Ev.loop (N := c) (S := fun k x => ([some (.ref 7), some (.ref 45), some (.ref 20), some (.int (Int32.ofNat c)), some (.int 0), some (.int (Int32.ofNat k))], [], (0, 0), x)) (fun k x => CD20 n W (Int32.ofNat k) x) ?_ ?_ hp h
  · intro k x hk hx ih
    obtain ⟨h1, h45, ⟨x1, y1, h7⟩, ⟨e1, ha⟩, hfr⟩ := hx
    have e := hp_eq3 h1 h45 h7 ha
    have hfr' : x.2 0 = W.2 0 ∧ x.2 10 = W.2 10 ∧ x.2 11 = W.2 11 ∧ x.2 12 = W.2 12 ∧ x.2 21 = W.2 21 ∧ x.2 25 = W.2 25 ∧ x.2 28 = W.2 28 ∧ x.2 29 = W.2 29 ∧ x.2 33 = W.2 33 ∧ ∀ k, x.2 (k + 69) = W.2 (k + 69) := hfr
    clear hfr
    revert hfr'
    rw [e]
    generalize x.2 = g
    intro hfr
    obtain ⟨q0, q10, q11, q12, q21, q25, q28, q29, q33, qk⟩ := hfr
    refine Ev.step rfl rfl ?_
    refine Ev.step rfl rfl ?_
    refine Ev.step rfl rfl ?_
    refine Ev.br (fun hb' => absurd (hb'.symm.trans (i_ge hk (by omega))) (by decide)) (fun _ => ?_)
    refine Ev.step rfl rfl ?_
    refine Ev.step rfl rfl ?_
    refine Ev.step rfl rfl ?_
    refine Ev.step rfl rfl ?_
    refine Ev.br (fun hb' => absurd (hb'.symm.trans (i_ge (n := 400) (by omega) (by decide))) (by decide)) (fun _ => ?_)
    iterate 3 refine Ev.step rfl rfl ?_
    refine Ev.callV rfl rfl rfl (c_plan20 (by omega)) ?_
    iterate 18 refine Ev.step rfl rfl ?_
    refine Ev.lo (lo := [some (.ref 7), some (.ref 45), some (.ref 20), some (.int (Int32.ofNat c)), some (.int 0), some (.int (Int32.ofNat k + 1))]) (congrArg (fun v => ([some (.ref 7), some (.ref 45), some (.ref 20), some (.int (Int32.ofNat c)), some (.int 0), some (.int v)] : List (Option Value))) (i_succ k)) ?_
    exact ih _ ⟨rfl, rfl, ⟨_, _, rfl⟩, ⟨e1 + 1, congrArg (fun v => T20 v (e1 + 1)) (i_succ k)⟩, q0, q10, q11, q12, q21, q25, q28, q29, q33, fun k => qk k⟩
  · intro x hx
    refine Ev.step rfl rfl ?_
    refine Ev.step rfl rfl ?_
    refine Ev.step rfl rfl ?_
    refine Ev.br (fun _ => ?_) (fun hb' => absurd ((decide_eq_true (Int32.le_refl (Int32.ofNat c))).symm.trans hb') (by decide))
    have hx' := hx
    obtain ⟨h1, h45, ⟨x1, y1, h7⟩, ⟨e1, ha⟩, hfr⟩ := hx
    refine Ev.step rfl rfl ?_
    refine Ev.getf (fs := [.ref 21, .ref 22, .ref 23, .ref 24, .ref 25, .ref 26, .ref 27, .int (Int32.ofNat c), .int e1, .int 0]) rfl (by show 20 < x.1; omega) ha rfl ?_
    refine Ev.step rfl rfl ?_
    refine Ev.step rfl rfl ?_
    refine Ev.ret rfl rfl ⟨?_, hx'⟩
    show some (Value.int (Int32.ofNat c - 0)) = some (Value.int (Int32.ofNat c))
    rw [Int32.sub_zero]
