theorem d_good {F : FW} {D : DD} (h : CR F D) (k : DOK D) (x y w : Int32) : Pm Z_X10_good [.ref 0, .int x, .int y, .int w] F (fun r F' => r = some (.int (a_good (dT D) (dS D) x y w)) ∧ CR F' D ∧ KX F F') := by
  obtain ⟨t, ht, hT, j0, -⟩ := h.t
  exact CO1 h (o_good h.G ht hT h.s j0 x y w)
theorem e_good {F : FW} {D : DD} (h : XR F D) (k : DOK D) (x y w : Int32) : Pm Z_X11_good [.ref 69, .int x, .int y, .int w] F (fun r F' => r = some (.int (a_good (dT D) (dS D) x y w)) ∧ XR F' D ∧ KC F F') :=
  QO1 h (q_good h.T h.s h.G k.1 k.2.1.sb k.2.1.hb x y w)
theorem d_crossed {F : FW} {D : DD} (h : CR F D) (k : DOK D) (x y : Int32) : Pm Z_X10_crossed [.ref 0, .int x, .int y] F (fun r F' => r = some (.int (a_crossed (dT D) (dS D) x y)) ∧ CR F' D ∧ KX F F') := by
  obtain ⟨t, ht, hT, j0, -⟩ := h.t
  exact CO1 h (o_crossed h.G ht hT h.s j0 x y)
theorem e_crossed {F : FW} {D : DD} (h : XR F D) (k : DOK D) (x y : Int32) : Pm Z_X11_crossed [.ref 69, .int x, .int y] F (fun r F' => r = some (.int (a_crossed (dT D) (dS D) x y)) ∧ XR F' D ∧ KC F F') :=
  QO1 h (q_crossed h.T h.s h.G x y)
theorem d_apart {F : FW} {D : DD} (h : CR F D) (k : DOK D) (x y : Int32) : Pm Z_X10_apart [.ref 0, .int x, .int y] F (fun r F' => r = some (.int (a_apart (dT D) (dS D) x y)) ∧ CR F' D ∧ KX F F') := by
  obtain ⟨t, ht, hT, j0, -⟩ := h.t
  exact CO1 h (o_apart h.G ht hT h.s j0 x y)
theorem e_apart {F : FW} {D : DD} (h : XR F D) (k : DOK D) (x y : Int32) : Pm Z_X11_apart [.ref 69, .int x, .int y] F (fun r F' => r = some (.int (a_apart (dT D) (dS D) x y)) ∧ XR F' D ∧ KC F F') :=
  QO1 h (q_apart h.T h.s h.G x y)
theorem d_now {F : FW} {D : DD} (h : CR F D) (k : DOK D) (w : Int32) : Pm Z_X10_now [.ref 0, .int w] F (fun r F' => r = some (.int (a_now (dT D) (dS D) w)) ∧ CR F' D ∧ KX F F') := by
  obtain ⟨t, ht, hT, j0, -⟩ := h.t
  exact CO1 h (o_now h.G ht hT h.s j0 w)
theorem e_now {F : FW} {D : DD} (h : XR F D) (k : DOK D) (w : Int32) : Pm Z_X11_now [.ref 69, .int w] F (fun r F' => r = some (.int (a_now (dT D) (dS D) w)) ∧ XR F' D ∧ KC F F') :=
  QO1 h (q_now h.T h.s h.G w)
theorem d_hoard {F : FW} {D : DD} (h : CR F D) (k : DOK D) (x y z : Int32) : Pm Z_X10_hoard [.ref 0, .int x, .int y, .int z] F (fun r F' => r = some (.int (a_act 0 (dT D) (dS D) x y z)) ∧ CR F' (dK (decide (a_act 0 (dT D) (dS D) x y z = 0)) (m_act 0 (dT D) (dS D) x y z) D) ∧ KX F F') := by
  obtain ⟨t, ht, hT, j0, -⟩ := h.t
  exact CO3 h (fun q (c : 12 ≤ q ∧ q ≤ 19) => by omega) (o_hoard h.G ht hT h.s j0 h.h h.c x y z)
theorem e_hoard {F : FW} {D : DD} (h : XR F D) (k : DOK D) (x y z : Int32) : Pm Z_X11_hoard [.ref 69, .int x, .int y, .int z] F (fun r F' => r = some (.int (a_act 0 (dT D) (dS D) x y z)) ∧ XR F' (dK (decide (a_act 0 (dT D) (dS D) x y z = 0)) (m_act 0 (dT D) (dS D) x y z) D) ∧ KC F F') :=
  QO2 h (q_hoard h.T h.s h.G h.h x y z)
theorem d_bare {F : FW} {D : DD} (h : CR F D) (k : DOK D) (x y z : Int32) : Pm Z_X10_bare [.ref 0, .int x, .int y, .int z] F (fun r F' => r = some (.int (a_act 1 (dT D) (dS D) x y z)) ∧ CR F' (dK (decide (a_act 1 (dT D) (dS D) x y z = 0)) (m_act 1 (dT D) (dS D) x y z) D) ∧ KX F F') := by
  obtain ⟨t, ht, hT, j0, -⟩ := h.t
  exact CO3 h (fun q (c : 12 ≤ q ∧ q ≤ 19) => by omega) (o_bare h.G ht hT h.s j0 h.h h.c x y z)
theorem e_bare {F : FW} {D : DD} (h : XR F D) (k : DOK D) (x y z : Int32) : Pm Z_X11_bare [.ref 69, .int x, .int y, .int z] F (fun r F' => r = some (.int (a_act 1 (dT D) (dS D) x y z)) ∧ XR F' (dK (decide (a_act 1 (dT D) (dS D) x y z = 0)) (m_act 1 (dT D) (dS D) x y z) D) ∧ KC F F') :=
  QO2 h (q_bare h.T h.s h.G h.h x y z)
theorem d_waste {F : FW} {D : DD} (h : CR F D) (k : DOK D) (x y z : Int32) : Pm Z_X10_waste [.ref 0, .int x, .int y, .int z] F (fun r F' => r = some (.int (a_act 2 (dT D) (dS D) x y z)) ∧ CR F' (dK (decide (a_act 2 (dT D) (dS D) x y z = 0)) (m_act 2 (dT D) (dS D) x y z) D) ∧ KX F F') := by
  obtain ⟨t, ht, hT, j0, -⟩ := h.t
  exact CO3 h (fun q (c : 12 ≤ q ∧ q ≤ 19) => by omega) (o_waste h.G ht hT h.s j0 h.h h.c x y z)
theorem e_waste {F : FW} {D : DD} (h : XR F D) (k : DOK D) (x y z : Int32) : Pm Z_X11_waste [.ref 69, .int x, .int y, .int z] F (fun r F' => r = some (.int (a_act 2 (dT D) (dS D) x y z)) ∧ XR F' (dK (decide (a_act 2 (dT D) (dS D) x y z = 0)) (m_act 2 (dT D) (dS D) x y z) D) ∧ KC F F') :=
  QO2 h (q_waste h.T h.s h.G h.h x y z)
theorem d_die {F : FW} {D : DD} (h : CR F D) (k : DOK D) (x : Int32) : Pm Z_X10_die [.ref 0, .int x] F (fun r F' => r = some (.int (a_die (dT D) (dS D) x)) ∧ CR F' (dK (decide (a_die (dT D) (dS D) x = 0)) (m_die (dT D) (dS D) x) D) ∧ KX F F') := by
  obtain ⟨t, ht, hT, j0, -⟩ := h.t
  exact CO3 h (fun q (c : 12 ≤ q ∧ q ≤ 19) => by omega) (o_die h.G ht hT h.s j0 h.h h.c x)
theorem e_die {F : FW} {D : DD} (h : XR F D) (k : DOK D) (x : Int32) : Pm Z_X11_die [.ref 69, .int x] F (fun r F' => r = some (.int (a_die (dT D) (dS D) x)) ∧ XR F' (dK (decide (a_die (dT D) (dS D) x = 0)) (m_die (dT D) (dS D) x) D) ∧ KC F F') :=
  QO2 h (q_die h.T h.s h.G h.h x)
theorem d_days {F : FW} {D : DD} (h : CR F D) (k : DOK D) (x : Int32) : Pm Z_X10_days [.ref 0, .int x] F (fun r F' => r = some (.int (a_days (dT D) (dS D) x)) ∧ CR F' (dK ((ndr 1 60 x).isSome && decide (h_d (dS D) < 400)) (m_dys (dT D) (dS D) x) D) ∧ KX F F') := by
  obtain ⟨t, ht, hT, j0, -⟩ := h.t
  exact CO3 h (fun q (c : (12 ≤ q ∧ q ≤ 19) ∨ (7 ≤ q ∧ q ≤ 9)) => by omega) (o_days h.G ht hT h.s j0 h.h h.c x)
theorem e_days {F : FW} {D : DD} (h : XR F D) (k : DOK D) (x : Int32) : Pm Z_X11_days [.ref 69, .int x] F (fun r F' => r = some (.int (a_days (dT D) (dS D) x)) ∧ XR F' (dK ((ndr 1 60 x).isSome && decide (h_d (dS D) < 400)) (m_dys (dT D) (dS D) x) D) ∧ KC F F') :=
  QO2 h (q_days h.T h.s h.G h.h k.1 k.2.1 x)
theorem d_lacks {F : FW} {D : DD} (h : CR F D) (k : DOK D) (y : Int32) : Pm Z_X10_lacks [.ref 0, .int y] F (fun r F' => r = some (.int (a_lacks (dT D) (dS D) y)) ∧ CR F' D ∧ KX F F') := by
  obtain ⟨t, ht, hT, j0, -⟩ := h.t
  exact CO1 h (o_lacks h.G ht hT h.s j0 y)
theorem e_lacks {F : FW} {D : DD} (h : XR F D) (k : DOK D) (y : Int32) : Pm Z_X11_lacks [.ref 69, .int y] F (fun r F' => r = some (.int (a_lacks (dT D) (dS D) y)) ∧ XR F' D ∧ KC F F') :=
  QO1 h (q_lacks h.T h.s h.G y)
theorem d_falses {F : FW} {D : DD} (h : CR F D) (k : DOK D) (y : Int32) : Pm Z_X10_falses [.ref 0, .int y] F (fun r F' => r = some (.int (a_falses (dT D) (dS D) y)) ∧ CR F' D ∧ KX F F') := by
  obtain ⟨t, ht, hT, j0, -⟩ := h.t
  exact CO1 h (o_falses h.G ht hT h.s j0 y)
theorem e_falses {F : FW} {D : DD} (h : XR F D) (k : DOK D) (y : Int32) : Pm Z_X11_falses [.ref 69, .int y] F (fun r F' => r = some (.int (a_falses (dT D) (dS D) y)) ∧ XR F' D ∧ KC F F') :=
  QO1 h (q_falses h.T h.s h.G k.1 k.2.1.sb k.2.1.hb y)
theorem d_going {F : FW} {D : DD} (h : CR F D) (k : DOK D) : Pm Z_X10_going [.ref 0] F (fun r F' => r = some (.int (a_going (dT D) (dS D))) ∧ CR F' D ∧ KX F F') := by
  obtain ⟨t, ht, hT, j0, -⟩ := h.t
  exact CO2 h (o_going h.G ht hT h.s j0)
theorem e_going {F : FW} {D : DD} (h : XR F D) (k : DOK D) : Pm Z_X11_going [.ref 69] F (fun r F' => r = some (.int (a_going (dT D) (dS D))) ∧ XR F' D ∧ KC F F') :=
  QO1 h (q_going h.T h.s h.G)
theorem d_goes {F : FW} {D : DD} (h : CR F D) (k : DOK D) (x : Int32) : Pm Z_X10_goes [.ref 0, .int x] F (fun r F' => r = some (.int (a_goes (dT D) (dS D) x)) ∧ CR F' D ∧ KX F F') := by
  obtain ⟨t, ht, hT, j0, -⟩ := h.t
  exact CO2 h (o_goes h.G ht hT h.s j0 x)
theorem e_goes {F : FW} {D : DD} (h : XR F D) (k : DOK D) (x : Int32) : Pm Z_X11_goes [.ref 69, .int x] F (fun r F' => r = some (.int (a_goes (dT D) (dS D) x)) ∧ XR F' D ∧ KC F F') :=
  QO1 h (q_goes h.T h.s h.G k.1 k.2.1 x)
theorem d_crosses {F : FW} {D : DD} (h : CR F D) (k : DOK D) (x : Int32) : Pm Z_X10_crosses [.ref 0, .int x] F (fun r F' => r = some (.int (a_crosses (dT D) (dS D) x)) ∧ CR F' D ∧ KX F F') := by
  obtain ⟨t, ht, hT, j0, -⟩ := h.t
  exact CO2 h (o_crosses h.G ht hT h.s j0 x)
theorem e_crosses {F : FW} {D : DD} (h : XR F D) (k : DOK D) (x : Int32) : Pm Z_X11_crosses [.ref 69, .int x] F (fun r F' => r = some (.int (a_crosses (dT D) (dS D) x)) ∧ XR F' D ∧ KC F F') :=
  QO1 h (q_crosses h.T h.s h.G k.1 k.2.1 x)
theorem d_comes {F : FW} {D : DD} (h : CR F D) (k : DOK D) (x y : Int32) : Pm Z_X10_comes [.ref 0, .int x, .int y] F (fun r F' => r = some (.int (a_comes (dT D) (dS D) x y)) ∧ CR F' D ∧ KX F F') := by
  obtain ⟨t, ht, hT, j0, -⟩ := h.t
  exact CO2 h (o_comes h.G ht hT h.s j0 x y)
theorem e_comes {F : FW} {D : DD} (h : XR F D) (k : DOK D) (x y : Int32) : Pm Z_X11_comes [.ref 69, .int x, .int y] F (fun r F' => r = some (.int (a_comes (dT D) (dS D) x y)) ∧ XR F' D ∧ KC F F') :=
  QO1 h (q_comes h.T h.s h.G k.1 k.2.1 x y)
theorem d_without {F : FW} {D : DD} (h : CR F D) (k : DOK D) (x y z w : Int32) : Pm Z_X10_without [.ref 0, .int x, .int y, .int z, .int w] F (fun r F' => r = some (.int (c_without (dT D) (dS D) x y z w)) ∧ CR F' D ∧ KX F F') := by
  obtain ⟨t, ht, hT, j0, -⟩ := h.t
  exact CO2 h (o_without h.G ht hT h.s j0 k.2.1 x y z w)
theorem e_without {F : FW} {D : DD} (h : XR F D) (k : DOK D) (x y z w : Int32) : Pm Z_X11_without [.ref 69, .int x, .int y, .int z, .int w] F (fun r F' => r = some (.int (a_without (dT D) (dS D) x y z w)) ∧ XR F' D ∧ KC F F') :=
  QO1 h (q_without h.T h.s h.G k.1 k.2.1 x y z w)
theorem d_meet {F : FW} {D : DD} (h : CR F D) (k : DOK D) (x y : Int32) : Pm Z_X10_meet [.ref 0, .int x, .int y] F (fun r F' => r = some (.int (a_meet (dT D) (dS D) x y)) ∧ CR F' D ∧ KX F F') := by
  obtain ⟨t, ht, hT, j0, -⟩ := h.t
  exact CO2 h (o_meet h.G ht hT h.s j0 x y)
theorem e_meet {F : FW} {D : DD} (h : XR F D) (k : DOK D) (x y : Int32) : Pm Z_X11_meet [.ref 69, .int x, .int y] F (fun r F' => r = some (.int (a_meet (dT D) (dS D) x y)) ∧ XR F' D ∧ KC F F') :=
  QO1 h (q_meet h.T h.s h.G k.1 k.2.1 x y)
theorem d_loads {F : FW} {D : DD} (h : CR F D) (k : DOK D) (x : Int32) : Pm Z_X10_loads [.ref 0, .int x] F (fun r F' => r = some (.int (a_loads (dT D) (dS D) x)) ∧ CR F' D ∧ KX F F') := by
  obtain ⟨t, ht, hT, j0, -⟩ := h.t
  exact CO2 h (o_loads h.G ht hT h.s j0 x)
theorem e_loads {F : FW} {D : DD} (h : XR F D) (k : DOK D) (x : Int32) : Pm Z_X11_loads [.ref 69, .int x] F (fun r F' => r = some (.int (a_loads (dT D) (dS D) x)) ∧ XR F' D ∧ KC F F') :=
  QO1 h (q_loads h.T h.s h.G k.1 k.2.1 x)
theorem d_hunger {F : FW} {D : DD} (h : CR F D) (k : DOK D) (x y z : Int32) : Pm Z_X10_hunger [.ref 0, .int x, .int y, .int z] F (fun r F' => r = some (.int (a_hunger (dT D) (dS D) x y z)) ∧ CR F' D ∧ KX F F') := by
  obtain ⟨t, ht, hT, j0, -⟩ := h.t
  exact CO2 h (o_hunger h.G ht hT h.s j0 x y z)
theorem e_hunger {F : FW} {D : DD} (h : XR F D) (k : DOK D) (x y z : Int32) : Pm Z_X11_hunger [.ref 69, .int x, .int y, .int z] F (fun r F' => r = some (.int (a_hunger (dT D) (dS D) x y z)) ∧ XR F' D ∧ KC F F') :=
  QO1 h (q_hunger h.T h.s h.G k.1 k.2.1 x y z)
theorem d_dearest {F : FW} {D : DD} (h : CR F D) (k : DOK D) : Pm Z_X10_dearest [.ref 0] F (fun r F' => r = some (.int (a_dearest (dT D) (dS D))) ∧ CR F' D ∧ KX F F') := by
  obtain ⟨t, ht, hT, j0, -⟩ := h.t
  exact CO1 h (o_dearest h.G ht hT h.s j0)
theorem e_dearest {F : FW} {D : DD} (h : XR F D) (k : DOK D) : Pm Z_X11_dearest [.ref 69] F (fun r F' => r = some (.int (a_dearest (dT D) (dS D))) ∧ XR F' D ∧ KC F F') :=
  QO1 h (q_dearest h.T h.s h.G)
theorem d_rats {F : FW} {D : DD} (h : CR F D) (k : DOK D) : Pm Z_X10_rats [.ref 0] F (fun r F' => r = some (.int (a_rats (dT D) (dS D))) ∧ CR F' D ∧ KX F F') := by
  obtain ⟨t, ht, hT, j0, -⟩ := h.t
  exact CO1 h (o_rats h.G ht hT h.s j0)
theorem e_rats {F : FW} {D : DD} (h : XR F D) (k : DOK D) : Pm Z_X11_rats [.ref 69] F (fun r F' => r = some (.int (a_rats (dT D) (dS D))) ∧ XR F' D ∧ KC F F') :=
  QO1 h (q_rats h.T h.s h.G k.2.1.ab)
theorem d_hoarded {F : FW} {D : DD} (h : CR F D) (k : DOK D) (y : Int32) : Pm Z_X10_hoarded [.ref 0, .int y] F (fun r F' => r = some (.int (a_hoarded (dT D) (dS D) y)) ∧ CR F' D ∧ KX F F') := by
  obtain ⟨t, ht, hT, j0, -⟩ := h.t
  exact CO1 h (o_hoarded h.G ht hT h.s j0 y)
theorem e_hoarded {F : FW} {D : DD} (h : XR F D) (k : DOK D) (y : Int32) : Pm Z_X11_hoarded [.ref 69, .int y] F (fun r F' => r = some (.int (a_hoarded (dT D) (dS D) y)) ∧ XR F' D ∧ KC F F') :=
  QO1 h (q_hoarded h.T h.s h.G y)
theorem d_drawn {F : FW} {D : DD} (h : CR F D) (k : DOK D) (x z : Int32) : Pm Z_X10_drawn [.ref 0, .int x, .int z] F (fun r F' => r = some (.int (a_drawn (dT D) (dS D) x z)) ∧ CR F' (dK ((ndr 1 60 x).isSome && decide (0 < t_g (dT D)) && decide (h_d (dS D) < 400)) (m_dwn (dT D) (dS D) x z) D) ∧ KX F F') := by
  obtain ⟨t, ht, hT, j0, -⟩ := h.t
  exact CO3 h (fun q (c : (12 ≤ q ∧ q ≤ 19) ∨ (7 ≤ q ∧ q ≤ 9) ∨ q = 40) => by omega) (o_drawn h.G ht hT h.s j0 h.h h.c x z)
theorem e_drawn {F : FW} {D : DD} (h : XR F D) (k : DOK D) (x z : Int32) : Pm Z_X11_drawn [.ref 69, .int x, .int z] F (fun r F' => r = some (.int (a_drawn (dT D) (dS D) x z)) ∧ XR F' (dK ((ndr 1 60 x).isSome && decide (0 < t_g (dT D)) && decide (h_d (dS D) < 400)) (m_dwn (dT D) (dS D) x z) D) ∧ KC F F') :=
  QO2 h (q_drawn h.T h.s h.G h.h k.1 k.2.1 x z)
theorem d_odds {F : FW} {D : DD} (h : CR F D) (k : DOK D) (x y z : Int32) : Pm Z_X10_odds [.ref 0, .int x, .int y, .int z] F (fun r F' => r = some (.int (a_odds (dT D) (dS D) x y z)) ∧ CR F' D ∧ KX F F') := by
  obtain ⟨t, ht, hT, j0, -⟩ := h.t
  exact CO2 h (o_odds h.G ht hT h.s j0 x y z)
theorem e_odds {F : FW} {D : DD} (h : XR F D) (k : DOK D) (x y z : Int32) : Pm Z_X11_odds [.ref 69, .int x, .int y, .int z] F (fun r F' => r = some (.int (a_odds (dT D) (dS D) x y z)) ∧ XR F' D ∧ KC F F') :=
  QO1 h (q_odds h.T h.s h.G k.1 k.2.1 x y z)
