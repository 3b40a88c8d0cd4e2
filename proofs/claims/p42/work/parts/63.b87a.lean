set_option maxRecDepth 100000 in
set_option maxHeartbeats 4000000 in
theorem r_does0 {F : FW} {T : St} {S : Sh} {g s x : Nat} (hT : XT F T) (hS : XS F (t_m T) S) (hG : GW F) (hk12 : 2 * g + s < 12) (hx250 : x ≤ 250) : Pm Z_X11_does [.ref 69, .int 0, .int (Int32.ofNat g), .int (Int32.ofNat s), .int (Int32.ofNat x)] F (fun r F' => r = some (.int (jw S (0, 2 * g + s, x))) ∧ RXS F F' ∧ XS F' (t_m T) (js T S (0, 2 * g + s, x))) := by
  refine Pm.of fun N => ?_
  obtain ⟨Q, hQ⟩ : ∃ Q : Option Value → FW → Prop, Q = (fun r F' => r = some (.int (jw S (0, 2 * g + s, x))) ∧ RXS F F' ∧ XS F' (t_m T) (js T S (0, 2 * g + s, x))) := ⟨_, rfl⟩
  rw [← hQ]
  have b3 := hT.mb
  have b4 := hT.nb
  have b5 := hT.gb
  have b6 := m_from_lt S
  have b7 := hS.db
  refine (show Pv (ab_T (L_X11_does Z_X11_cell Z_X11_isDead Z_X11_whyBare Z_X11_whyHoard Z_X11_hoards Z_X11_goesOn)) N 0 [some (.ref 69), some (.int 0), some (.int (Int32.ofNat g)), some (.int (Int32.ofNat s)), some (.int (Int32.ofNat x)), none, none] [] F Q from ?_)
  refine Pv.iload rfl rfl ?_
  refine Pv.iload rfl rfl ?_
  refine Pv.callI (as := [.int (Int32.ofNat g), .int (Int32.ofNat s)]) (rest := []) (z := Int32.ofNat (2 * g + s)) rfl rfl rfl (g_cell (g := g) (s := s)) ?_
  refine Pv.istore (lo' := [some (.ref 69), some (.int 0), some (.int (Int32.ofNat g)), some (.int (Int32.ofNat s)), some (.int (Int32.ofNat x)), some (.int (Int32.ofNat (2 * g + s))), none]) rfl rfl ?_
  refine Pv.iload rfl rfl ?_
  refine Pv.lit rfl ?_
  refine Pv.icmp rfl (fun c1 => ?_) (fun c1 => ?_)
  · skip
    replace c1 : decide ((0 : Int32) = 3) = false := by simpa using c1
    replace c1 := mt (i_eq (a := 0) (b := 3) (by omega) (by omega)).mpr (of_decide_eq_false c1)
    refine Pv.iload rfl rfl ?_
    refine Pv.lit rfl ?_
    refine Pv.icmp rfl (fun c2 => ?_) (fun c2 => ?_)
    · skip
      replace c2 : decide ((0 : Int32) = 4) = false := by simpa using c2
      replace c2 := mt (i_eq (a := 0) (b := 4) (by omega) (by omega)).mpr (of_decide_eq_false c2)
      refine Pv.iload rfl rfl ?_
      refine Pv.lit rfl ?_
      refine Pv.icmp rfl (fun c3 => ?_) (fun c3 => ?_)
      · skip
        replace c3 : decide ((0 : Int32) = 1) = false := by simpa using c3
        replace c3 := mt (i_eq (a := 0) (b := 1) (by omega) (by omega)).mpr (of_decide_eq_false c3)
        refine Pv.aload rfl rfl ?_
        refine Pv.iload rfl rfl ?_
        refine Pv.iload rfl rfl ?_
        refine Pv.callVI (as := [.ref 69, .int (Int32.ofNat (2 * g + s)), .int (Int32.ofNat x)]) (rest := []) (z := m_why 0 S (2 * g + s) (Int32.ofNat x)) rfl rfl rfl (g_whyHoard (k := 2 * g + s) (n := Int32.ofNat x) hS hG (by omega)) ?_
        refine Pv.istore (lo' := [some (.ref 69), some (.int 0), some (.int (Int32.ofNat g)), some (.int (Int32.ofNat s)), some (.int (Int32.ofNat x)), some (.int (Int32.ofNat (2 * g + s))), some (.int (m_why 0 S (2 * g + s) (Int32.ofNat x)))]) rfl rfl ?_
        refine Pv.iload rfl rfl ?_
        refine Pv.if0 rfl (fun c4 => ?_) (fun c4 => ?_)
        · skip
          replace c4 := of_decide_eq_true c4
          refine Pv.iload rfl rfl ?_
          refine Pv.if0 rfl (fun c5 => ?_) (fun c5 => ?_)
          · skip
            replace c5 : decide ((0 : Int32) = 0) = false := by simpa using c5
            replace c5 := mt (i_eq (a := 0) (b := 0) (by omega) (by omega)).mpr (of_decide_eq_false c5)
            omega
          · skip
            replace c5 : decide ((0 : Int32) = 0) = true := by simpa using c5
            replace c5 := (i_eq (a := 0) (b := 0) (by omega) (by omega)).mp (of_decide_eq_true c5)
            refine Pv.aload rfl rfl ?_
            refine Pv.iload rfl rfl ?_
            refine Pv.iload rfl rfl ?_
            refine Pv.callVU (as := [.ref 69, .int (Int32.ofNat (2 * g + s)), .int (Int32.ofNat x)]) (rest := []) rfl rfl rfl (g_hoards (k := 2 * g + s) (n := Int32.ofNat x) hS hG (by omega)) ?_
            refine Pv.goto rfl ?_
            refine Pv.lit rfl ?_
            have ew : m_why 0 S (2 * g + s) (Int32.ofNat x) = 0 := (why_le (d := 0) (by decide)).mp c4
            exact Pv.ret rfl (by rw [hQ]; exact ⟨by unfold jw; rw [if_neg (show ¬ 0 = 4 by decide), if_pos ew]; first | done | rfl, (RXS.st (RXS.st RXS.rf (by omega) (by omega)) (by omega) (by omega)), by unfold js; rw [if_neg (show ¬ 0 = 4 by decide), try_y (d := 0) ew]; exact XS.do0 hS b3 (by omega)⟩)
        · skip
          replace c4 := of_decide_eq_false c4
          refine Pv.lit rfl ?_
          refine Pv.iload rfl rfl ?_
          refine Pv.bin (z := Int32.ofNat (10 * 0)) rfl (i_mul 10 0) ?_
          refine Pv.iload rfl rfl ?_
          refine Pv.bin (z := (Int32.ofNat (10 * 0)) + (m_why 0 S (2 * g + s) (Int32.ofNat x))) rfl (rfl) ?_
          have ew : ¬ m_why 0 S (2 * g + s) (Int32.ofNat x) = 0 := fun e => c4 ((why_le (d := 0) (by decide)).mpr e)
          exact Pv.ret rfl (by rw [hQ]; exact ⟨by unfold jw; rw [if_neg (show ¬ 0 = 4 by decide), if_neg ew]; first | done | rfl, RXS.rf, by unfold js; rw [if_neg (show ¬ 0 = 4 by decide), try_n (d := 0) ew]; exact hS⟩)
      · skip
        replace c3 : decide ((0 : Int32) = 1) = true := by simpa using c3
        replace c3 := (i_eq (a := 0) (b := 1) (by omega) (by omega)).mp (of_decide_eq_true c3)
        omega
    · skip
      replace c2 : decide ((0 : Int32) = 4) = true := by simpa using c2
      replace c2 := (i_eq (a := 0) (b := 4) (by omega) (by omega)).mp (of_decide_eq_true c2)
      omega
  · skip
    replace c1 : decide ((0 : Int32) = 3) = true := by simpa using c1
    replace c1 := (i_eq (a := 0) (b := 3) (by omega) (by omega)).mp (of_decide_eq_true c1)
    omega
set_option maxRecDepth 100000 in
set_option maxHeartbeats 4000000 in
theorem r_does1 {F : FW} {T : St} {S : Sh} {g s x : Nat} (hT : XT F T) (hS : XS F (t_m T) S) (hG : GW F) (hk12 : 2 * g + s < 12) (hx250 : x ≤ 250) : Pm Z_X11_does [.ref 69, .int 1, .int (Int32.ofNat g), .int (Int32.ofNat s), .int (Int32.ofNat x)] F (fun r F' => r = some (.int (jw S (1, 2 * g + s, x))) ∧ RXS F F' ∧ XS F' (t_m T) (js T S (1, 2 * g + s, x))) := by
  refine Pm.of fun N => ?_
  obtain ⟨Q, hQ⟩ : ∃ Q : Option Value → FW → Prop, Q = (fun r F' => r = some (.int (jw S (1, 2 * g + s, x))) ∧ RXS F F' ∧ XS F' (t_m T) (js T S (1, 2 * g + s, x))) := ⟨_, rfl⟩
  rw [← hQ]
  have b3 := hT.mb
  have b4 := hT.nb
  have b5 := hT.gb
  have b6 := m_from_lt S
  have b7 := hS.db
  refine (show Pv (ab_T (L_X11_does Z_X11_cell Z_X11_isDead Z_X11_whyBare Z_X11_whyHoard Z_X11_hoards Z_X11_goesOn)) N 0 [some (.ref 69), some (.int 1), some (.int (Int32.ofNat g)), some (.int (Int32.ofNat s)), some (.int (Int32.ofNat x)), none, none] [] F Q from ?_)
  refine Pv.iload rfl rfl ?_
  refine Pv.iload rfl rfl ?_
  refine Pv.callI (as := [.int (Int32.ofNat g), .int (Int32.ofNat s)]) (rest := []) (z := Int32.ofNat (2 * g + s)) rfl rfl rfl (g_cell (g := g) (s := s)) ?_
  refine Pv.istore (lo' := [some (.ref 69), some (.int 1), some (.int (Int32.ofNat g)), some (.int (Int32.ofNat s)), some (.int (Int32.ofNat x)), some (.int (Int32.ofNat (2 * g + s))), none]) rfl rfl ?_
  refine Pv.iload rfl rfl ?_
  refine Pv.lit rfl ?_
  refine Pv.icmp rfl (fun c1 => ?_) (fun c1 => ?_)
  · skip
    replace c1 : decide ((1 : Int32) = 3) = false := by simpa using c1
    replace c1 := mt (i_eq (a := 1) (b := 3) (by omega) (by omega)).mpr (of_decide_eq_false c1)
    refine Pv.iload rfl rfl ?_
    refine Pv.lit rfl ?_
    refine Pv.icmp rfl (fun c2 => ?_) (fun c2 => ?_)
    · skip
      replace c2 : decide ((1 : Int32) = 4) = false := by simpa using c2
      replace c2 := mt (i_eq (a := 1) (b := 4) (by omega) (by omega)).mpr (of_decide_eq_false c2)
      refine Pv.iload rfl rfl ?_
      refine Pv.lit rfl ?_
      refine Pv.icmp rfl (fun c3 => ?_) (fun c3 => ?_)
      · skip
        replace c3 : decide ((1 : Int32) = 1) = false := by simpa using c3
        replace c3 := mt (i_eq (a := 1) (b := 1) (by omega) (by omega)).mpr (of_decide_eq_false c3)
        omega
      · skip
        replace c3 : decide ((1 : Int32) = 1) = true := by simpa using c3
        replace c3 := (i_eq (a := 1) (b := 1) (by omega) (by omega)).mp (of_decide_eq_true c3)
        refine Pv.aload rfl rfl ?_
        refine Pv.iload rfl rfl ?_
        refine Pv.iload rfl rfl ?_
        refine Pv.callVI (as := [.ref 69, .int (Int32.ofNat (2 * g + s)), .int (Int32.ofNat x)]) (rest := []) (z := m_why 1 S (2 * g + s) (Int32.ofNat x)) rfl rfl rfl (g_whyBare (k := 2 * g + s) (n := Int32.ofNat x) hS hG (by omega)) ?_
        refine Pv.goto rfl ?_
        refine Pv.istore (lo' := [some (.ref 69), some (.int 1), some (.int (Int32.ofNat g)), some (.int (Int32.ofNat s)), some (.int (Int32.ofNat x)), some (.int (Int32.ofNat (2 * g + s))), some (.int (m_why 1 S (2 * g + s) (Int32.ofNat x)))]) rfl rfl ?_
        refine Pv.iload rfl rfl ?_
        refine Pv.if0 rfl (fun c4 => ?_) (fun c4 => ?_)
        · skip
          replace c4 := of_decide_eq_true c4
          refine Pv.iload rfl rfl ?_
          refine Pv.if0 rfl (fun c5 => ?_) (fun c5 => ?_)
          · skip
            replace c5 : decide ((1 : Int32) = 0) = false := by simpa using c5
            replace c5 := mt (i_eq (a := 1) (b := 0) (by omega) (by omega)).mpr (of_decide_eq_false c5)
            refine Pv.iload rfl rfl ?_
            refine Pv.lit rfl ?_
            refine Pv.icmp rfl (fun c6 => ?_) (fun c6 => ?_)
            · skip
              replace c6 : decide ((1 : Int32) = 1) = false := by simpa using c6
              replace c6 := mt (i_eq (a := 1) (b := 1) (by omega) (by omega)).mpr (of_decide_eq_false c6)
              omega
            · skip
              replace c6 : decide ((1 : Int32) = 1) = true := by simpa using c6
              replace c6 := (i_eq (a := 1) (b := 1) (by omega) (by omega)).mp (of_decide_eq_true c6)
              refine Pv.aload rfl rfl ?_
              refine Pv.iload rfl rfl ?_
              refine Pv.iload rfl rfl ?_
              refine Pv.un (z := -(Int32.ofNat x)) rfl (rfl) ?_
              refine Pv.callVU (as := [.ref 69, .int (Int32.ofNat (2 * g + s)), .int (-(Int32.ofNat x))]) (rest := []) rfl rfl rfl (g_hoards (k := 2 * g + s) (n := -(Int32.ofNat x)) hS hG (by omega)) ?_
              refine Pv.goto rfl ?_
              refine Pv.lit rfl ?_
              have ew : m_why 1 S (2 * g + s) (Int32.ofNat x) = 0 := (why_le (d := 1) (by decide)).mp c4
              exact Pv.ret rfl (by rw [hQ]; exact ⟨by unfold jw; rw [if_neg (show ¬ 1 = 4 by decide), if_pos ew]; first | done | rfl, (RXS.st (RXS.st RXS.rf (by omega) (by omega)) (by omega) (by omega)), by unfold js; rw [if_neg (show ¬ 1 = 4 by decide), try_y (d := 1) ew]; exact XS.do1 hS b3 (by omega)⟩)
          · skip
            replace c5 : decide ((1 : Int32) = 0) = true := by simpa using c5
            replace c5 := (i_eq (a := 1) (b := 0) (by omega) (by omega)).mp (of_decide_eq_true c5)
            omega
        · skip
          replace c4 := of_decide_eq_false c4
          refine Pv.lit rfl ?_
          refine Pv.iload rfl rfl ?_
          refine Pv.bin (z := Int32.ofNat (10 * 1)) rfl (i_mul 10 1) ?_
          refine Pv.iload rfl rfl ?_
          refine Pv.bin (z := (Int32.ofNat (10 * 1)) + (m_why 1 S (2 * g + s) (Int32.ofNat x))) rfl (rfl) ?_
          have ew : ¬ m_why 1 S (2 * g + s) (Int32.ofNat x) = 0 := fun e => c4 ((why_le (d := 1) (by decide)).mpr e)
          exact Pv.ret rfl (by rw [hQ]; exact ⟨by unfold jw; rw [if_neg (show ¬ 1 = 4 by decide), if_neg ew]; first | done | rfl, RXS.rf, by unfold js; rw [if_neg (show ¬ 1 = 4 by decide), try_n (d := 1) ew]; exact hS⟩)
    · skip
      replace c2 : decide ((1 : Int32) = 4) = true := by simpa using c2
      replace c2 := (i_eq (a := 1) (b := 4) (by omega) (by omega)).mp (of_decide_eq_true c2)
      omega
  · skip
    replace c1 : decide ((1 : Int32) = 3) = true := by simpa using c1
    replace c1 := (i_eq (a := 1) (b := 3) (by omega) (by omega)).mp (of_decide_eq_true c1)
    omega
set_option maxRecDepth 100000 in
set_option maxHeartbeats 4000000 in
theorem r_does2 {F : FW} {T : St} {S : Sh} {g s x : Nat} (hT : XT F T) (hS : XS F (t_m T) S) (hG : GW F) (hk12 : 2 * g + s < 12) (hx250 : x ≤ 250) : Pm Z_X11_does [.ref 69, .int 2, .int (Int32.ofNat g), .int (Int32.ofNat s), .int (Int32.ofNat x)] F (fun r F' => r = some (.int (jw S (2, 2 * g + s, x))) ∧ RXS F F' ∧ XS F' (t_m T) (js T S (2, 2 * g + s, x))) := by
  refine Pm.of fun N => ?_
  obtain ⟨Q, hQ⟩ : ∃ Q : Option Value → FW → Prop, Q = (fun r F' => r = some (.int (jw S (2, 2 * g + s, x))) ∧ RXS F F' ∧ XS F' (t_m T) (js T S (2, 2 * g + s, x))) := ⟨_, rfl⟩
  rw [← hQ]
  have b3 := hT.mb
  have b4 := hT.nb
  have b5 := hT.gb
  have b6 := m_from_lt S
  have b7 := hS.db
  refine (show Pv (ab_T (L_X11_does Z_X11_cell Z_X11_isDead Z_X11_whyBare Z_X11_whyHoard Z_X11_hoards Z_X11_goesOn)) N 0 [some (.ref 69), some (.int 2), some (.int (Int32.ofNat g)), some (.int (Int32.ofNat s)), some (.int (Int32.ofNat x)), none, none] [] F Q from ?_)
  refine Pv.iload rfl rfl ?_
  refine Pv.iload rfl rfl ?_
  refine Pv.callI (as := [.int (Int32.ofNat g), .int (Int32.ofNat s)]) (rest := []) (z := Int32.ofNat (2 * g + s)) rfl rfl rfl (g_cell (g := g) (s := s)) ?_
  refine Pv.istore (lo' := [some (.ref 69), some (.int 2), some (.int (Int32.ofNat g)), some (.int (Int32.ofNat s)), some (.int (Int32.ofNat x)), some (.int (Int32.ofNat (2 * g + s))), none]) rfl rfl ?_
  refine Pv.iload rfl rfl ?_
  refine Pv.lit rfl ?_
  refine Pv.icmp rfl (fun c1 => ?_) (fun c1 => ?_)
  · skip
    replace c1 : decide ((2 : Int32) = 3) = false := by simpa using c1
    replace c1 := mt (i_eq (a := 2) (b := 3) (by omega) (by omega)).mpr (of_decide_eq_false c1)
    refine Pv.iload rfl rfl ?_
    refine Pv.lit rfl ?_
    refine Pv.icmp rfl (fun c2 => ?_) (fun c2 => ?_)
    · skip
      replace c2 : decide ((2 : Int32) = 4) = false := by simpa using c2
      replace c2 := mt (i_eq (a := 2) (b := 4) (by omega) (by omega)).mpr (of_decide_eq_false c2)
      refine Pv.iload rfl rfl ?_
      refine Pv.lit rfl ?_
      refine Pv.icmp rfl (fun c3 => ?_) (fun c3 => ?_)
      · skip
        replace c3 : decide ((2 : Int32) = 1) = false := by simpa using c3
        replace c3 := mt (i_eq (a := 2) (b := 1) (by omega) (by omega)).mpr (of_decide_eq_false c3)
        refine Pv.aload rfl rfl ?_
        refine Pv.iload rfl rfl ?_
        refine Pv.iload rfl rfl ?_
        refine Pv.callVI (as := [.ref 69, .int (Int32.ofNat (2 * g + s)), .int (Int32.ofNat x)]) (rest := []) (z := m_why 0 S (2 * g + s) (Int32.ofNat x)) rfl rfl rfl (g_whyHoard (k := 2 * g + s) (n := Int32.ofNat x) hS hG (by omega)) ?_
        refine Pv.istore (lo' := [some (.ref 69), some (.int 2), some (.int (Int32.ofNat g)), some (.int (Int32.ofNat s)), some (.int (Int32.ofNat x)), some (.int (Int32.ofNat (2 * g + s))), some (.int (m_why 0 S (2 * g + s) (Int32.ofNat x)))]) rfl rfl ?_
        refine Pv.iload rfl rfl ?_
        refine Pv.if0 rfl (fun c4 => ?_) (fun c4 => ?_)
        · skip
          replace c4 := of_decide_eq_true c4
          refine Pv.iload rfl rfl ?_
          refine Pv.if0 rfl (fun c5 => ?_) (fun c5 => ?_)
          · skip
            replace c5 : decide ((2 : Int32) = 0) = false := by simpa using c5
            replace c5 := mt (i_eq (a := 2) (b := 0) (by omega) (by omega)).mpr (of_decide_eq_false c5)
            refine Pv.iload rfl rfl ?_
            refine Pv.lit rfl ?_
            refine Pv.icmp rfl (fun c6 => ?_) (fun c6 => ?_)
            · skip
              replace c6 : decide ((2 : Int32) = 1) = false := by simpa using c6
              replace c6 := mt (i_eq (a := 2) (b := 1) (by omega) (by omega)).mpr (of_decide_eq_false c6)
              refine Pv.iload rfl rfl ?_
              refine Pv.lit rfl ?_
              refine Pv.icmp rfl (fun c7 => ?_) (fun c7 => ?_)
              · skip
                replace c7 : decide ((2 : Int32) = 2) = false := by simpa using c7
                replace c7 := mt (i_eq (a := 2) (b := 2) (by omega) (by omega)).mpr (of_decide_eq_false c7)
                omega
              · skip
                replace c7 : decide ((2 : Int32) = 2) = true := by simpa using c7
                replace c7 := (i_eq (a := 2) (b := 2) (by omega) (by omega)).mp (of_decide_eq_true c7)
                refine Pv.aload rfl rfl ?_
                refine Pv.getR (v := .ref 71) rfl rfl (GW.at (a := 69) (k := 6) (b := 71) hG (by decide)) ?_
                refine Pv.lit rfl ?_
                refine Pv.iload rfl rfl ?_
                refine Pv.bin (z := Int32.ofNat (124 + (2 * g + s))) rfl (i_add 124 (2 * g + s)) ?_
                refine Pv.dup2 rfl ?_
                refine Pv.ald (z := h_s S (2 * g + s)) rfl (by rw [i_toNat (by omega)]; exact hS.s _ (by omega)) ?_
                refine Pv.iload rfl rfl ?_
                refine Pv.bin (z := (h_s S (2 * g + s)) - (Int32.ofNat x)) rfl (rfl) ?_
                refine Pv.astk (k := 124 + (2 * g + s)) (z := (h_s S (2 * g + s)) - (Int32.ofNat x)) rfl (i_toNat (by omega)) (rfl) ?_
                refine Pv.goto rfl ?_
                refine Pv.lit rfl ?_
                have ew : m_why 2 S (2 * g + s) (Int32.ofNat x) = 0 := (why_le (d := 0) (by decide)).mp c4
                exact Pv.ret rfl (by rw [hQ]; exact ⟨by unfold jw; rw [if_neg (show ¬ 2 = 4 by decide), if_pos ew]; first | done | rfl, (RXS.st RXS.rf (by omega) (by omega)), by unfold js; rw [if_neg (show ¬ 2 = 4 by decide), try_y (d := 2) ew]; exact XS.do2 hS b3 (by omega)⟩)
            · skip
              replace c6 : decide ((2 : Int32) = 1) = true := by simpa using c6
              replace c6 := (i_eq (a := 2) (b := 1) (by omega) (by omega)).mp (of_decide_eq_true c6)
              omega
          · skip
            replace c5 : decide ((2 : Int32) = 0) = true := by simpa using c5
            replace c5 := (i_eq (a := 2) (b := 0) (by omega) (by omega)).mp (of_decide_eq_true c5)
            omega
        · skip
          replace c4 := of_decide_eq_false c4
          refine Pv.lit rfl ?_
          refine Pv.iload rfl rfl ?_
          refine Pv.bin (z := Int32.ofNat (10 * 2)) rfl (i_mul 10 2) ?_
          refine Pv.iload rfl rfl ?_
          refine Pv.bin (z := (Int32.ofNat (10 * 2)) + (m_why 0 S (2 * g + s) (Int32.ofNat x))) rfl (rfl) ?_
          have ew : ¬ m_why 2 S (2 * g + s) (Int32.ofNat x) = 0 := fun e => c4 ((why_le (d := 0) (by decide)).mpr e)
          exact Pv.ret rfl (by rw [hQ]; exact ⟨by unfold jw; rw [if_neg (show ¬ 2 = 4 by decide), if_neg ew]; first | done | rfl, RXS.rf, by unfold js; rw [if_neg (show ¬ 2 = 4 by decide), try_n (d := 2) ew]; exact hS⟩)
      · skip
        replace c3 : decide ((2 : Int32) = 1) = true := by simpa using c3
        replace c3 := (i_eq (a := 2) (b := 1) (by omega) (by omega)).mp (of_decide_eq_true c3)
        omega
    · skip
      replace c2 : decide ((2 : Int32) = 4) = true := by simpa using c2
      replace c2 := (i_eq (a := 2) (b := 4) (by omega) (by omega)).mp (of_decide_eq_true c2)
      omega
  · skip
    replace c1 : decide ((2 : Int32) = 3) = true := by simpa using c1
    replace c1 := (i_eq (a := 2) (b := 3) (by omega) (by omega)).mp (of_decide_eq_true c1)
    omega
