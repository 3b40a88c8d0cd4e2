/-! ===== the reference's days on a STRAIT that tells nothing ===== -/
def FSG (r u q : Int32) : List Value := [.int 0, .ref 70, .int 0, .int 0, .int 0, .int 0, .ref 71, .ref 72, .ref 73, .ref 74, .ref 75, .int 0, .int 0, .int 0, .int 0, .int 0, .int 0, .long 0, .int 0, .int 0, .int 0, .ref 76, .int r, .ref 77, .ref 78, .int u, .ref 79, .ref 80, .int q, .int 0, .int 0, .ref 81, .int 0, .ref 82, .int 0, .int 0, .int 0, .int 0, .int 0, .ref 83, .ref 84, .ref 85, .ref 86]
def NS (s : Nat → Int32) (d : Int32) : Nat → Int32 := upd (upd (upd (upd (upd s 0 0) 1 0) 2 10) 120 d) 122 0
theorem upd_same {f : Nat → Int32} {k : Nat} {x : Int32} (h : f k = x) : upd f k x = f := by
  refine funext fun j => ?_
  show (if j = k then x else f j) = f j
  by_cases e : j = k
  · rw [if_pos e, e, h]
  · rw [if_neg e]
theorem NS_eq {s : Nat → Int32} {d : Int32} (h0 : s 0 = 0) (h1 : s 1 = 0) (h2 : s 2 = 10) (h3 : s 120 = d) (h4 : s 122 = 0) : s = NS s d := by
  rw [NS, upd_same h0, upd_same h1, upd_same h2, upd_same h3, upd_same h4]
def MD (u q : Int32) (n : Nat) (A B : ab_E) (z : Nat → Int32) (d : Int32) (hp : ab_H) : Prop := hp.1 = n + 88 ∧ (∃ r, hp.2 69 = .inr (11, FSG r u q)) ∧ hp.2 78 = A ∧ hp.2 79 = B ∧ ∃ s, hp.2 71 = .inl (1, 434, .inl s) ∧ s 0 = 0 ∧ s 1 = 0 ∧ s 2 = 10 ∧ s 120 = d ∧ s 122 = 0 ∧ ∀ i, s (i + 124) = z i
theorem hp_eq {hp : ab_H} {n : Nat} {x y : ab_E} (h : hp.1 = n + 88) (h69 : hp.2 69 = x) (h71 : hp.2 71 = y) : hp = ab_up (ab_up (n + 88, hp.2) 69 x) 71 y := by
  have e0 : hp = (n + 88, hp.2) := Prod.ext h rfl
  have e1 : hp = ab_up (n + 88, hp.2) 69 x := e0.trans (ab_up_same (hp := (n + 88, hp.2)) h69)
  exact (ab_up_same h71).trans (congrArg (fun w => ab_up w 71 y) e1)
set_option maxRecDepth 10000 in
set_option maxHeartbeats 1000000 in
theorem m_day {u q : Int32} {n : Nat} {A B : ab_E} {z : Nat → Int32} {d : Int32} {hp : ab_H} (h : MD u q n A B z d hp) : ∃ hp', Z_X11_day [.ref 69] hp = some (none, hp') ∧ MD u q n A B z (d + 1) hp' := by
  obtain ⟨h1, ⟨r, h69⟩, h78, h79, s, h71, s0, s1, s2, s120, s122, sz⟩ := h
  have e := hp_eq h1 h69 h71
  rw [NS_eq s0 s1 s2 s120 s122] at e
  revert h78 h79
  rw [e]
  generalize hp.2 = g
  intro h78 h79
  refine xY rfl ?_
  repeat refine Rq.step rfl rfl ?_
  exact Rq.ret rfl rfl ⟨rfl, rfl, ⟨_, rfl⟩, h78, h79, _, rfl, rfl, rfl, rfl, rfl, (show (0 : Int32) + (10 - 10) = 0 from rfl), fun i => sz i⟩
set_option maxRecDepth 10000 in
set_option maxHeartbeats 1000000 in
theorem m_goesOn {u q : Int32} {n : Nat} {A B : ab_E} {z : Nat → Int32} {b c : Nat} {hp : ab_H} (hb : b + c < 400) (h : MD u q n A B z (Int32.ofNat b) hp) : ∃ hp', Z_X11_goesOn [.ref 69, .int (Int32.ofNat c)] hp = some (some (.int (Int32.ofNat c)), hp') ∧ MD u q n A B z (Int32.ofNat (b + c)) hp' := by
  refine xX (Nat.le_of_ble_eq_true rfl) ?_
  refine Ev.step rfl rfl ?_
  refine Ev.step rfl rfl ?_
  refine Ev.loop (N := c) (S := fun k x => ([some (.ref 69), some (.int (Int32.ofNat c)), some (.int (Int32.ofNat k))], [], (0, 0), x)) (fun k x => MD u q n A B z (Int32.ofNat (b + k)) x) ?_ ?_ hp h
  · intro k x hk hx ih
    refine Ev.step rfl rfl ?_
    refine Ev.step rfl rfl ?_
    refine Ev.step rfl rfl ?_
    refine Ev.br (fun hb' => absurd (hb'.symm.trans (i_ge hk (by omega))) (by decide)) (fun _ => ?_)
    have hx' := hx
    obtain ⟨h1, ⟨r, h69⟩, h78, h79, s, h71, s0, s1, s2, s120, s122, sz⟩ := hx
    refine Ev.step rfl rfl ?_
    refine Ev.getf (fs := FSG r u q) rfl (by show 69 < x.1; omega) h69 rfl ?_
    refine Ev.step rfl rfl ?_
    refine Ev.ald (f := s) rfl (by show 71 < x.1; omega) h71 rfl ?_
    refine Ev.step rfl rfl ?_
    refine Ev.step rfl rfl ?_
    refine Ev.br (fun hb' => absurd (hb'.symm.trans ((congrArg (fun y => decide ((400 : Int32) ≤ y)) s120).trans (i_ge (n := 400) (by omega) (by decide)))) (by decide)) (fun _ => ?_)
    refine Ev.step rfl rfl ?_
    refine (show Ev _ 21 ([some (.ref 69), some (.int (Int32.ofNat c)), some (.int (Int32.ofNat k))], [.ref 69], (0, 0), x) _ from ?_)
    refine Ev.callVX rfl (by simp [ab_rcv, h1, h69]) rfl (m_day hx') (fun hp' hP => ?_)
    refine Ev.step rfl rfl ?_
    refine Ev.step rfl rfl ?_
    refine (show Ev _ 2 ([some (.ref 69), some (.int (Int32.ofNat c)), some (.int (Int32.ofNat k + 1))], [], (0, 0), hp') _ from ?_)
    rw [i_succ]
    rw [i_succ] at hP
    exact ih hp' hP
  · intro x hx
    refine Ev.step rfl rfl ?_
    refine Ev.step rfl rfl ?_
    refine Ev.step rfl rfl ?_
    refine Ev.br (fun _ => ?_) (fun hb' => absurd ((decide_eq_true (Int32.le_refl (Int32.ofNat c))).symm.trans hb') (by decide))
    refine Ev.step rfl rfl ?_
    exact Ev.ret rfl rfl ⟨rfl, hx⟩
