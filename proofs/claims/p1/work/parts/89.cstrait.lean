/-! ===== strait: the class ===== -/
def T53 : ab_E := .inr (7, [.ref 54, .ref 55, .ref 56, .ref 57, .ref 58, .ref 59, .ref 60, .int 10, .int 0, .int 0, .int 0, .int 0, .long 0])
section RH
variable {T : Nat → Option ab_A} {F i j : Nat} {lo : List (Option Value)} {st : List Value} {u : Nat × Nat} {hp : ab_H} {r : Option ab_O}
theorem Rn.nx {s s' : ab_S} {f : ab_S → Option ab_S} (hT : T i = some (ab_nx j f)) (hf : f s = some s') (h : ab_run T F j s' = r) : ab_run T (F + 1) i s = r :=
  Rn.step hT (by rw [ab_nx, hf]) h
theorem Rn.getf {ci k a : Nat} {fs : List Value} {v : Value} (hT : T i = some (ab_nx j (ab_getf ci k))) (ha : a < hp.1) (hc : hp.2 a = .inr (ci, fs)) (hk : fs[k]? = some v) (h : ab_run T F j (lo, v :: st, u, hp) = r) : ab_run T (F + 1) i (lo, .ref a :: st, u, hp) = r :=
  Rn.nx hT (by simp [ab_getf, ha, hc, hk]) h
theorem Rn.ald {t a n : Nat} {f : Nat → Int32} {x : Int32} (hT : T i = some (ab_nx j (ab_ald t))) (ha : a < hp.1) (hc : hp.2 a = .inl (t, n, .inl f)) (hx : ab_in x n = true) (h : ab_run T F j (lo, .int (f x.toNatClampNeg) :: st, u, hp) = r) : ab_run T (F + 1) i (lo, .int x :: .ref a :: st, u, hp) = r :=
  Rn.nx hT (by simp [ab_ald, ha, hc, hx]) h
end RH
set_option maxRecDepth 10000 in
set_option maxHeartbeats 4000000 in
theorem c_amountOf {x : ab_H} {k : Nat} (hk : k < 12) (h1 : 88 ≤ x.1) (h53 : x.2 53 = T53) (h57 : x.2 57 = .inl (1, 48, .inl (fun _ => 0))) : Z_X7_amountOf [.ref 53, .int 0, .int (Int32.ofNat k)] x = some (some (.int 0), x) := by
  refine Rn.of rfl ?_
  refine Rn.step rfl rfl ?_
  refine Rn.getf (fs := [.ref 54, .ref 55, .ref 56, .ref 57, .ref 58, .ref 59, .ref 60, .int 10, .int 0, .int 0, .int 0, .int 0, .long 0]) rfl (Nat.lt_of_lt_of_le (by decide) h1) h53 rfl ?_
  refine Rn.step rfl rfl ?_
  refine Rn.step rfl rfl ?_
  refine Rn.step rfl rfl ?_
  refine Rn.step rfl rfl ?_
  refine Rn.step rfl rfl ?_
  refine Rn.ald (f := fun _ => 0) rfl (Nat.lt_of_lt_of_le (by decide) h1) h57 (i_ina (a := 0) (by omega) (by omega)) ?_
  exact Rn.ret rfl rfl
theorem rcv_of {ci a : Nat} {as fs : List Value} {hp : ab_H} (h1 : a < hp.1) (h : hp.2 a = .inr (ci, fs)) : ab_rcv ci (.ref a :: as) hp = true := by simp [ab_rcv, h1, h]
theorem up_z {hp : ab_H} {c n a : Nat} (h : hp.2 c = .inl (1, n, .inl (fun _ => 0))) : ab_up hp c (.inl (1, n, .inl (upd (fun _ => 0) a 0))) = hp := by
  rw [upd_same rfl]
  exact (ab_up_same h).symm
set_option maxRecDepth 10000 in
set_option maxHeartbeats 4000000 in
theorem c_clear {hp : ab_H} (h1 : 88 ≤ hp.1) (h53 : hp.2 53 = T53) (h57 : hp.2 57 = .inl (1, 48, .inl (fun _ => 0))) : Z_X7_clear [.ref 53] hp = some (none, hp) := by
  have eW : ab_up hp 53 T53 = hp := (ab_up_same h53).symm
  refine ab_X_eq (Nat.le_of_ble_eq_true rfl) ?_
  refine Ev.step rfl rfl ?_
  refine Ev.step rfl rfl ?_
  refine Ev.loop (N := 48) (S := fun i x => ([some (.ref 53), some (.int (Int32.ofNat i))], [], (0, 0), x)) (fun _ x => x = hp) ?_ ?_ hp rfl
  · rintro i hp hi rfl ih
    refine Ev.step rfl rfl ?_
    refine Ev.step rfl rfl ?_
    refine Ev.getf (fs := [.ref 54, .ref 55, .ref 56, .ref 57, .ref 58, .ref 59, .ref 60, .int 10, .int 0, .int 0, .int 0, .int 0, .long 0]) rfl (Nat.lt_of_lt_of_le (by decide) h1) h53 rfl ?_
    refine Ev.alen rfl (Nat.lt_of_lt_of_le (by decide) h1) h57 (by decide) ?_
    refine Ev.step rfl rfl ?_
    refine Ev.br (fun hb => absurd (hb.symm.trans (i_ge hi (by decide))) (by decide)) (fun _ => ?_)
    refine Ev.step rfl rfl ?_
    refine Ev.getf (fs := [.ref 54, .ref 55, .ref 56, .ref 57, .ref 58, .ref 59, .ref 60, .int 10, .int 0, .int 0, .int 0, .int 0, .long 0]) rfl (Nat.lt_of_lt_of_le (by decide) h1) h53 rfl ?_
    refine Ev.step rfl rfl ?_
    refine Ev.step rfl rfl ?_
    refine Ev.ast (f := fun _ => 0) rfl (Nat.lt_of_lt_of_le (by decide) h1) h57 (i_in hi (by omega)) ?_
    refine Ev.hp (up_z h57) ?_
    refine Ev.step rfl rfl ?_
    refine Ev.step rfl rfl ?_
    refine (show Ev _ 2 ([some (.ref 53), some (.int (Int32.ofNat i + 1))], [], (0, 0), _) _ from ?_)
    rw [i_succ]
    exact ih _ rfl
  · rintro hp rfl
    refine Ev.step rfl rfl ?_
    refine Ev.step rfl rfl ?_
    refine Ev.getf (fs := [.ref 54, .ref 55, .ref 56, .ref 57, .ref 58, .ref 59, .ref 60, .int 10, .int 0, .int 0, .int 0, .int 0, .long 0]) rfl (Nat.lt_of_lt_of_le (by decide) h1) h53 rfl ?_
    refine Ev.alen rfl (Nat.lt_of_lt_of_le (by decide) h1) h57 (by decide) ?_
    refine Ev.step rfl rfl ?_
    refine Ev.step rfl rfl ?_
    refine Ev.step rfl rfl ?_
    refine Ev.putf (fs := [.ref 54, .ref 55, .ref 56, .ref 57, .ref 58, .ref 59, .ref 60, .int 10, .int 0, .int 0, .int 0, .int 0, .long 0]) rfl (Nat.lt_of_lt_of_le (by decide) h1) h53 (by decide) rfl ?_
    refine Ev.hp eW ?_
    refine Ev.step rfl rfl ?_
    refine Ev.step rfl rfl ?_
    refine Ev.putf (fs := [.ref 54, .ref 55, .ref 56, .ref 57, .ref 58, .ref 59, .ref 60, .int 10, .int 0, .int 0, .int 0, .int 0, .long 0]) rfl (Nat.lt_of_lt_of_le (by decide) h1) h53 (by decide) rfl ?_
    refine Ev.hp eW ?_
    refine Ev.step rfl rfl ?_
    refine Ev.step rfl rfl ?_
    refine Ev.putf (fs := [.ref 54, .ref 55, .ref 56, .ref 57, .ref 58, .ref 59, .ref 60, .int 10, .int 0, .int 0, .int 0, .int 0, .long 0]) rfl (Nat.lt_of_lt_of_le (by decide) h1) h53 (by decide) rfl ?_
    refine Ev.hp eW ?_
    refine Ev.step rfl rfl ?_
    refine Ev.step rfl rfl ?_
    refine Ev.putf (fs := [.ref 54, .ref 55, .ref 56, .ref 57, .ref 58, .ref 59, .ref 60, .int 10, .int 0, .int 0, .int 0, .int 0, .long 0]) rfl (Nat.lt_of_lt_of_le (by decide) h1) h53 (by decide) rfl ?_
    refine Ev.hp eW ?_
    refine Ev.step rfl rfl ?_
    refine Ev.step rfl rfl ?_
    refine Ev.putf (fs := [.ref 54, .ref 55, .ref 56, .ref 57, .ref 58, .ref 59, .ref 60, .int 10, .int 0, .int 0, .int 0, .int 0, .long 0]) rfl (Nat.lt_of_lt_of_le (by decide) h1) h53 (by decide) rfl ?_
    refine Ev.hp eW ?_
    refine Ev.step rfl rfl ?_
    refine Ev.step rfl rfl ?_
    refine Ev.putf (fs := [.ref 54, .ref 55, .ref 56, .ref 57, .ref 58, .ref 59, .ref 60, .int 10, .int 0, .int 0, .int 0, .int 0, .long 0]) rfl (Nat.lt_of_lt_of_le (by decide) h1) h53 (by decide) rfl ?_
    refine Ev.hp eW ?_
    exact Ev.ret rfl rfl rfl
set_option maxRecDepth 10000 in
set_option maxHeartbeats 4000000 in
theorem c_beginAs {hp : ab_H} (h1 : 88 ≤ hp.1) (h12 : hp.2 12 = T12 0 0) (h53 : hp.2 53 = T53) (h13 : hp.2 13 = .inl (1, 12, .inl (fun _ => 0))) (h14 : hp.2 14 = .inl (1, 12, .inl (fun _ => 0))) (h15 : hp.2 15 = .inl (1, 12, .inl (fun _ => 0))) (h16 : hp.2 16 = .inl (1, 12, .inl (fun _ => 0))) (h17 : hp.2 17 = .inl (1, 8, .inl (fun _ => 0))) (h18 : hp.2 18 = .inl (1, 8, .inl (fun _ => 0))) (h19 : hp.2 19 = .inl (1, 64, .inl (fun _ => 0))) (h56 : hp.2 56 = .inl (1, 8, .inl (fun _ => 0))) (h57 : hp.2 57 = .inl (1, 48, .inl (fun _ => 0))) : Z_X6_beginAs [.ref 12, .ref 53] hp = some (none, hp) := by
  have eX : ab_up hp 12 (T12 0 0) = hp := (ab_up_same h12).symm
  refine ab_X_eq (Nat.le_of_ble_eq_true rfl) ?_
  refine Ev.step rfl rfl ?_
  refine Ev.step rfl rfl ?_
  refine Ev.loop (N := 12) (S := fun i x => ([some (.ref 12), some (.ref 53), some (.int (Int32.ofNat i))], [], (0, 0), x)) (fun _ x => x = hp) ?_ ?_ hp rfl
  · rintro i hp hi rfl ih
    refine Ev.step rfl rfl ?_
    refine Ev.step rfl rfl ?_
    refine Ev.step rfl rfl ?_
    refine Ev.br (fun hb => absurd (hb.symm.trans (i_ge hi (by decide))) (by decide)) (fun _ => ?_)
    refine Ev.step rfl rfl ?_
    refine Ev.getf (fs := [.ref 13, .ref 14, .ref 15, .ref 16, .ref 17, .ref 18, .ref 19, .int 0, .int 0, .int 0]) rfl (Nat.lt_of_lt_of_le (by decide) h1) h12 rfl ?_
    refine Ev.step rfl rfl ?_
    refine Ev.step rfl rfl ?_
    refine Ev.step rfl rfl ?_
    refine Ev.step rfl rfl ?_
    refine (show Ev _ 16 ([some (.ref 12), some (.ref 53), some (.int (Int32.ofNat i))], [.int (Int32.ofNat i), .int 0, .ref 53, .int (Int32.ofNat i), .ref 13], (0, 0), _) _ from ?_)
    refine Ev.callV rfl (rcv_of (Nat.lt_of_lt_of_le (by decide) h1) h53) rfl (c_amountOf hi h1 h53 h57) ?_
    refine (show Ev _ 19 ([some (.ref 12), some (.ref 53), some (.int (Int32.ofNat i))], [.int 0, .int (Int32.ofNat i), .ref 13], (0, 0), _) _ from ?_)
    refine Ev.ast (f := fun _ => 0) rfl (Nat.lt_of_lt_of_le (by decide) h1) h13 (i_in hi (by omega)) ?_
    refine Ev.hp (up_z h13) ?_
    refine Ev.step rfl rfl ?_
    refine Ev.getf (fs := [.ref 13, .ref 14, .ref 15, .ref 16, .ref 17, .ref 18, .ref 19, .int 0, .int 0, .int 0]) rfl (Nat.lt_of_lt_of_le (by decide) h1) h12 rfl ?_
    refine Ev.step rfl rfl ?_
    refine Ev.step rfl rfl ?_
    refine Ev.ast (f := fun _ => 0) rfl (Nat.lt_of_lt_of_le (by decide) h1) h14 (i_in hi (by omega)) ?_
    refine Ev.hp (up_z h14) ?_
    refine Ev.step rfl rfl ?_
    refine Ev.getf (fs := [.ref 13, .ref 14, .ref 15, .ref 16, .ref 17, .ref 18, .ref 19, .int 0, .int 0, .int 0]) rfl (Nat.lt_of_lt_of_le (by decide) h1) h12 rfl ?_
    refine Ev.step rfl rfl ?_
    refine Ev.step rfl rfl ?_
    refine Ev.ast (f := fun _ => 0) rfl (Nat.lt_of_lt_of_le (by decide) h1) h15 (i_in hi (by omega)) ?_
    refine Ev.hp (up_z h15) ?_
    refine Ev.step rfl rfl ?_
    refine Ev.getf (fs := [.ref 13, .ref 14, .ref 15, .ref 16, .ref 17, .ref 18, .ref 19, .int 0, .int 0, .int 0]) rfl (Nat.lt_of_lt_of_le (by decide) h1) h12 rfl ?_
    refine Ev.step rfl rfl ?_
    refine Ev.step rfl rfl ?_
    refine Ev.ast (f := fun _ => 0) rfl (Nat.lt_of_lt_of_le (by decide) h1) h16 (i_in hi (by omega)) ?_
    refine Ev.hp (up_z h16) ?_
    refine Ev.step rfl rfl ?_
    refine Ev.step rfl rfl ?_
    refine (show Ev _ 2 ([some (.ref 12), some (.ref 53), some (.int (Int32.ofNat i + 1))], [], (0, 0), _) _ from ?_)
    rw [i_succ]
    exact ih _ rfl
  · rintro hp rfl
    refine Ev.step rfl rfl ?_
    refine Ev.step rfl rfl ?_
    refine Ev.step rfl rfl ?_
    refine Ev.step rfl rfl ?_
    refine Ev.step rfl rfl ?_
    refine Ev.loop (N := 8) (S := fun i x => ([some (.ref 12), some (.ref 53), some (.int (Int32.ofNat i))], [], (0, 0), x)) (fun _ x => x = hp) ?_ ?_ hp rfl
    · rintro i hp hi rfl ih
      refine Ev.step rfl rfl ?_
      refine Ev.step rfl rfl ?_
      refine Ev.step rfl rfl ?_
      refine Ev.br (fun hb => absurd (hb.symm.trans (i_ge hi (by decide))) (by decide)) (fun _ => ?_)
      refine Ev.step rfl rfl ?_
      refine Ev.getf (fs := [.ref 13, .ref 14, .ref 15, .ref 16, .ref 17, .ref 18, .ref 19, .int 0, .int 0, .int 0]) rfl (Nat.lt_of_lt_of_le (by decide) h1) h12 rfl ?_
      refine Ev.step rfl rfl ?_
      refine Ev.step rfl rfl ?_
      refine Ev.getf (fs := [.ref 54, .ref 55, .ref 56, .ref 57, .ref 58, .ref 59, .ref 60, .int 10, .int 0, .int 0, .int 0, .int 0, .long 0]) rfl (Nat.lt_of_lt_of_le (by decide) h1) h53 rfl ?_
      refine Ev.step rfl rfl ?_
      refine Ev.ald (f := fun _ => 0) rfl (Nat.lt_of_lt_of_le (by decide) h1) h56 (i_in hi (by omega)) ?_
      refine Ev.ast (f := fun _ => 0) rfl (Nat.lt_of_lt_of_le (by decide) h1) h17 (i_in hi (by omega)) ?_
      refine Ev.hp (up_z h17) ?_
      refine Ev.step rfl rfl ?_
      refine Ev.getf (fs := [.ref 13, .ref 14, .ref 15, .ref 16, .ref 17, .ref 18, .ref 19, .int 0, .int 0, .int 0]) rfl (Nat.lt_of_lt_of_le (by decide) h1) h12 rfl ?_
      refine Ev.step rfl rfl ?_
      refine Ev.step rfl rfl ?_
      refine Ev.ast (f := fun _ => 0) rfl (Nat.lt_of_lt_of_le (by decide) h1) h18 (i_in hi (by omega)) ?_
      refine Ev.hp (up_z h18) ?_
      refine Ev.step rfl rfl ?_
      refine Ev.step rfl rfl ?_
      refine (show Ev _ 49 ([some (.ref 12), some (.ref 53), some (.int (Int32.ofNat i + 1))], [], (0, 0), _) _ from ?_)
      rw [i_succ]
      exact ih _ rfl
    · rintro hp rfl
      refine Ev.step rfl rfl ?_
      refine Ev.step rfl rfl ?_
      refine Ev.step rfl rfl ?_
      refine Ev.step rfl rfl ?_
      refine Ev.step rfl rfl ?_
      refine Ev.loop (N := 64) (S := fun i x => ([some (.ref 12), some (.ref 53), some (.int (Int32.ofNat i))], [], (0, 0), x)) (fun _ x => x = hp) ?_ ?_ hp rfl
      · rintro i hp hi rfl ih
        refine Ev.step rfl rfl ?_
        refine Ev.step rfl rfl ?_
        refine Ev.step rfl rfl ?_
        refine Ev.br (fun hb => absurd (hb.symm.trans (i_ge hi (by decide))) (by decide)) (fun _ => ?_)
        refine Ev.step rfl rfl ?_
        refine Ev.getf (fs := [.ref 13, .ref 14, .ref 15, .ref 16, .ref 17, .ref 18, .ref 19, .int 0, .int 0, .int 0]) rfl (Nat.lt_of_lt_of_le (by decide) h1) h12 rfl ?_
        refine Ev.step rfl rfl ?_
        refine Ev.step rfl rfl ?_
        refine Ev.ast (f := fun _ => 0) rfl (Nat.lt_of_lt_of_le (by decide) h1) h19 (i_in hi (by omega)) ?_
        refine Ev.hp (up_z h19) ?_
        refine Ev.step rfl rfl ?_
        refine Ev.step rfl rfl ?_
        refine (show Ev _ 82 ([some (.ref 12), some (.ref 53), some (.int (Int32.ofNat i + 1))], [], (0, 0), _) _ from ?_)
        rw [i_succ]
        exact ih _ rfl
      · rintro hp rfl
        refine Ev.step rfl rfl ?_
        refine Ev.step rfl rfl ?_
        refine Ev.step rfl rfl ?_
        refine Ev.step rfl rfl ?_
        refine Ev.step rfl rfl ?_
        refine Ev.putf (fs := [.ref 13, .ref 14, .ref 15, .ref 16, .ref 17, .ref 18, .ref 19, .int 0, .int 0, .int 0]) rfl (Nat.lt_of_lt_of_le (by decide) h1) h12 (by decide) rfl ?_
        refine Ev.hp eX ?_
        refine Ev.step rfl rfl ?_
        refine Ev.step rfl rfl ?_
        refine Ev.putf (fs := [.ref 13, .ref 14, .ref 15, .ref 16, .ref 17, .ref 18, .ref 19, .int 0, .int 0, .int 0]) rfl (Nat.lt_of_lt_of_le (by decide) h1) h12 (by decide) rfl ?_
        refine Ev.hp eX ?_
        refine Ev.step rfl rfl ?_
        refine Ev.step rfl rfl ?_
        refine Ev.putf (fs := [.ref 13, .ref 14, .ref 15, .ref 16, .ref 17, .ref 18, .ref 19, .int 0, .int 0, .int 0]) rfl (Nat.lt_of_lt_of_le (by decide) h1) h12 (by decide) rfl ?_
        refine Ev.hp eX ?_
        exact Ev.ret rfl rfl rfl
set_option maxRecDepth 10000 in
set_option maxHeartbeats 4000000 in
theorem c_strait : ∃ m g, Z_X10_strait [.ref 0] H0 = some (some (.int 0), MG m g) := by
  refine cX3 (Nat.le_of_ble_eq_true rfl) ?_
  repeat refine Ev.step rfl rfl ?_
  refine Ev.inl rfl rfl rfl (Nat.le_of_ble_eq_true rfl) ?_
  refine Ev.step rfl rfl ?_
  refine Ev.callV rfl rfl rfl (c_clear (by decide) rfl rfl) ?_
  repeat refine Ev.step rfl rfl ?_
  refine Ev.ret rfl rfl ?_
  repeat refine Ev.step rfl rfl ?_
  refine Ev.callV rfl rfl rfl (c_beginAs (by decide) rfl rfl rfl rfl rfl rfl rfl rfl rfl rfl rfl) ?_
  repeat refine Ev.step rfl rfl ?_
  exact Ev.ret rfl rfl ⟨rfl, rfl, fun k => rfl⟩
