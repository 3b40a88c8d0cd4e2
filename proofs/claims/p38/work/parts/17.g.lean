-- 63.b14.lean.txt
section
def kq_X11_taken_4f6882 : sf_Q := ([(1, 11, 0), (0, 0, 0)], [(1, 3, 0, 200, 200, 0)], none, [(1, 36008, 0, 0, 0, 0), (1, 36014, 0, 0, 0, 0), (1, 36017, 0, 200, 200, 0)], [(11, 2, 5), (999, 0, 0)])
def kc_X11_taken_4f6882 : List (Nat × sf_I) := [(0, 4, [1, 0]),
  (1, 4, [2, 0]),
  (2, 23, [5, 11, 2]),
  (5, 24, [8, 11, 3, 0]),
  (8, 4, [9, 0]),
  (9, 0, [10, 0]),
  (10, 24, [13, 11, 2, 0]),
  (13, 4, [14, 0]),
  (14, 0, [15, 0]),
  (15, 24, [18, 11, 4, 0]),
  (18, 4, [19, 0]),
  (19, 2, [20, 1]),
  (20, 24, [23, 11, 5, 0]),
  (23, 37, [0, 0])]
def kd_X11_taken_4f6882_0 : List (Nat × sf_D × sf_M) := [(0, ([(1, 11, 0), (0, 0, 0)], [], [(1, 4, 0, 200, 200, 0)], 0, 0), (13, [])),
  (1, ([(1, 11, 0), (0, 0, 0)], [(1, 11, 0)], [(1, 4, 0, 200, 200, 0)], 0, 0), (12, [])),
  (2, ([(1, 11, 0), (0, 0, 0)], [(1, 11, 0), (1, 11, 0)], [(1, 4, 0, 200, 200, 0)], 0, 0), (11, [])),
  (5, ([(1, 11, 0), (0, 0, 0)], [(0, 0, 940), (1, 11, 0)], [(1, 4, 0, 200, 200, 0), (1, 3, 0, 0, 940, 0), (1, 36008, 0, -2147483648, 2147483647, 0), (2, 3, 36008, 1, 0, 0)], 0, 0), (10, [])),
  (8, ([(1, 11, 0), (0, 0, 0)], [], [(1, 4, 0, 200, 200, 0), (1, 36011, 0, 0, 940, 0), (1, 36008, 0, -2147483648, 2147483647, 0), (2, 36011, 36008, 1, 0, 0)], 0, 0), (9, [])),
  (9, ([(1, 11, 0), (0, 0, 0)], [(1, 11, 0)], [(1, 4, 0, 200, 200, 0), (1, 36011, 0, 0, 940, 0), (1, 36008, 0, -2147483648, 2147483647, 0), (2, 36011, 36008, 1, 0, 0)], 0, 0), (8, [])),
  (10, ([(1, 11, 0), (0, 0, 0)], [(0, 0, 0), (1, 11, 0)], [(1, 4, 0, 200, 200, 0), (1, 36011, 0, 0, 940, 0), (1, 36008, 0, -2147483648, 2147483647, 0), (1, 3, 0, 0, 0, 0), (2, 36011, 36008, 1, 0, 0)], 0, 0), (7, [])),
  (13, ([(1, 11, 0), (0, 0, 0)], [], [(1, 4, 0, 200, 200, 0), (1, 36011, 0, 0, 940, 0), (1, 36008, 0, 0, 0, 0)], 0, 0), (6, [])),
  (14, ([(1, 11, 0), (0, 0, 0)], [(1, 11, 0)], [(1, 4, 0, 200, 200, 0), (1, 36011, 0, 0, 940, 0), (1, 36008, 0, 0, 0, 0)], 0, 0), (5, [])),
  (15, ([(1, 11, 0), (0, 0, 0)], [(0, 0, 0), (1, 11, 0)], [(1, 4, 0, 200, 200, 0), (1, 36011, 0, 0, 940, 0), (1, 36008, 0, 0, 0, 0), (1, 3, 0, 0, 0, 0)], 0, 0), (4, []))]
def kd_X11_taken_4f6882_1 : List (Nat × sf_D × sf_M) := [(18, ([(1, 11, 0), (0, 0, 0)], [], [(1, 4, 0, 200, 200, 0), (1, 36011, 0, 0, 940, 0), (1, 36008, 0, 0, 0, 0), (1, 36014, 0, 0, 0, 0)], 0, 0), (3, [])),
  (19, ([(1, 11, 0), (0, 0, 0)], [(1, 11, 0)], [(1, 4, 0, 200, 200, 0), (1, 36011, 0, 0, 940, 0), (1, 36008, 0, 0, 0, 0), (1, 36014, 0, 0, 0, 0)], 0, 0), (2, [])),
  (20, ([(1, 11, 0), (0, 0, 0)], [(0, 0, 0), (1, 11, 0)], [(1, 4, 0, 200, 200, 0), (1, 36011, 0, 0, 940, 0), (1, 36008, 0, 0, 0, 0), (1, 36014, 0, 0, 0, 0), (1, 3, 0, 200, 200, 0), (2, 3, 4, 1, 0, 0)], 0, 0), (1, [])),
  (23, ([(1, 11, 0), (0, 0, 0)], [], [(1, 4, 0, 200, 200, 0), (1, 36011, 0, 0, 940, 0), (1, 36008, 0, 0, 0, 0), (1, 36014, 0, 0, 0, 0), (1, 36017, 0, 200, 200, 0), (2, 36017, 4, 1, 0, 0)], 0, 0), (0, []))]
def kd_X11_taken_4f6882 : List (Nat × sf_D × sf_M) := kd_X11_taken_4f6882_0 ++ (kd_X11_taken_4f6882_1)
set_option maxRecDepth 100000 in
theorem kt_X11_taken_4f6882 : sf_chk [] kq_X11_taken_4f6882 2 kc_X11_taken_4f6882 kd_X11_taken_4f6882 = true := by decide +kernel
set_option maxRecDepth 100000 in
theorem kl_X11_taken_4f6882 : (kc_X11_taken_4f6882).map (fun c => (c.1, sf_den ([] : List sf_X) c.2)) = L_X11_taken := rfl
theorem ct_X11_taken_4f6882 : sf_ct kq_X11_taken_4f6882 Z_X11_taken := by
  have h := sf_meth (K := []) (E := []) (k := kq_X11_taken_4f6882) (nL := 2) (C := kc_X11_taken_4f6882) (D := kd_X11_taken_4f6882) (fun m k hk => match m, hk with
    | _ + 0, hk => (by cases hk)) kt_X11_taken_4f6882
  rw [kl_X11_taken_4f6882] at h
  exact h
def kq_X11_isSign_3976cd : sf_Q := ([(1, 11, 0), (0, 0, 0)], [(1, 3, 0, 40, 40, 0)], some (0, 0, 0), [(1, 0, 0, 0, 1, 0), (3, 0, 36035, 3, 3, 0), (3, 0, 36044, 40, 40, 0)], [])
def kc_X11_isSign_3976cd : List (Nat × sf_I) := [(0, 4, [1, 0]),
  (1, 23, [4, 11, 11]),
  (4, 0, [5, 3]),
  (5, 21, [8, 20, 1]),
  (8, 4, [9, 0]),
  (9, 23, [12, 11, 14]),
  (12, 2, [13, 1]),
  (13, 21, [16, 20, 1]),
  (16, 0, [17, 1]),
  (17, 22, [21]),
  (20, 0, [21, 0]),
  (21, 36, [0, 0])]
def kd_X11_isSign_3976cd_0 : List (Nat × sf_D × sf_M) := [(0, ([(1, 11, 0), (0, 0, 0)], [], [(1, 4, 0, 40, 40, 0)], 0, 0), (10, [])),
  (1, ([(1, 11, 0), (0, 0, 0)], [(1, 11, 0)], [(1, 4, 0, 40, 40, 0)], 0, 0), (9, [])),
  (4, ([(1, 11, 0), (0, 0, 0)], [(0, 0, 2147483647)], [(1, 4, 0, 40, 40, 0), (1, 0, 0, -2147483648, 2147483647, 0), (1, 36035, 0, -2147483648, 2147483647, 0), (2, 0, 36035, 1, 0, 0)], 0, 0), (8, [])),
  (5, ([(1, 11, 0), (0, 0, 0)], [(0, 0, 0), (0, 0, 2147483647)], [(1, 4, 0, 40, 40, 0), (1, 0, 0, -2147483648, 2147483647, 0), (1, 36035, 0, -2147483648, 2147483647, 0), (1, 3, 0, 3, 3, 0), (2, 0, 36035, 1, 0, 0)], 0, 0), (7, [])),
  (8, ([(1, 11, 0), (0, 0, 0)], [], [(1, 4, 0, 40, 40, 0), (1, 36035, 0, 3, 3, 0)], 0, 0), (6, [])),
  (9, ([(1, 11, 0), (0, 0, 0)], [(1, 11, 0)], [(1, 4, 0, 40, 40, 0), (1, 36035, 0, 3, 3, 0)], 0, 0), (5, [])),
  (12, ([(1, 11, 0), (0, 0, 0)], [(0, 0, 9999)], [(1, 4, 0, 40, 40, 0), (1, 36035, 0, 3, 3, 0), (1, 0, 0, 0, 9999, 0), (1, 36044, 0, -2147483648, 2147483647, 0), (2, 0, 36044, 1, 0, 0)], 0, 0), (4, [])),
  (13, ([(1, 11, 0), (0, 0, 0)], [(0, 0, 0), (0, 0, 9999)], [(1, 4, 0, 40, 40, 0), (1, 36035, 0, 3, 3, 0), (1, 0, 0, 0, 9999, 0), (1, 36044, 0, -2147483648, 2147483647, 0), (1, 3, 0, 40, 40, 0), (2, 0, 36044, 1, 0, 0), (2, 3, 4, 1, 0, 0)], 0, 0), (3, [])),
  (16, ([(1, 11, 0), (0, 0, 0)], [], [(1, 4, 0, 40, 40, 0), (1, 36035, 0, 3, 3, 0), (1, 36044, 0, 40, 40, 0)], 0, 0), (2, []))]
def kd_X11_isSign_3976cd_1 : List (Nat × sf_D × sf_M) := [(17, ([(1, 11, 0), (0, 0, 0)], [(0, 0, 0)], [(1, 4, 0, 40, 40, 0), (1, 36035, 0, 3, 3, 0), (1, 36044, 0, 40, 40, 0), (1, 0, 0, 1, 1, 0)], 0, 0), (1, [])),
  (20, ([(1, 11, 0), (0, 0, 0)], [], [(1, 4, 0, 40, 40, 0), (1, 36035, 0, -2147483648, 2147483647, 0)], 0, 0), (1, [])),
  (21, ([(1, 11, 0), (0, 0, 0)], [(0, 0, 0)], [(1, 4, 0, 40, 40, 0), (1, 36035, 0, -2147483648, 2147483647, 0), (1, 0, 0, 0, 1, 0), (3, 0, 36035, 3, 3, 0), (3, 0, 36044, 40, 40, 0)], 0, 0), (0, []))]
def kd_X11_isSign_3976cd : List (Nat × sf_D × sf_M) := kd_X11_isSign_3976cd_0 ++ (kd_X11_isSign_3976cd_1)
set_option maxRecDepth 100000 in
theorem kt_X11_isSign_3976cd : sf_chk [] kq_X11_isSign_3976cd 2 kc_X11_isSign_3976cd kd_X11_isSign_3976cd = true := by decide +kernel
set_option maxRecDepth 100000 in
theorem kl_X11_isSign_3976cd : (kc_X11_isSign_3976cd).map (fun c => (c.1, sf_den ([] : List sf_X) c.2)) = L_X11_isSign := rfl
theorem ct_X11_isSign_3976cd : sf_ct kq_X11_isSign_3976cd Z_X11_isSign := by
  have h := sf_meth (K := []) (E := []) (k := kq_X11_isSign_3976cd) (nL := 2) (C := kc_X11_isSign_3976cd) (D := kd_X11_isSign_3976cd) (fun m k hk => match m, hk with
    | _ + 0, hk => (by cases hk)) kt_X11_isSign_3976cd
  rw [kl_X11_isSign_3976cd] at h
  exact h
def kq_X11_leafOf_6afe8b : sf_Q := ([(1, 11, 0)], [], some (0, 0, 0), [(1, 0, 0, -1, 8, 0), (3, 0, 36035, 1, 1, -1)], [])
def kc_X11_leafOf_6afe8b : List (Nat × sf_I) := [(0, 4, [1, 0]),
  (1, 1, [4, 119165535610212]),
  (4, 32, [7, 0, 2, 11, 0, 0, 0, 0]),
  (7, 20, [10, 14, 0]),
  (10, 0, [11, 0]),
  (11, 22, [130]),
  (14, 4, [15, 0]),
  (15, 1, [18, 29395861899601252]),
  (18, 32, [21, 0, 2, 11, 0, 0, 0, 0]),
  (21, 20, [24, 28, 0]),
  (24, 0, [25, 1]),
  (25, 22, [130]),
  (28, 4, [29, 0]),
  (29, 1, [32, 1835099237]),
  (32, 32, [35, 0, 2, 11, 0, 0, 0, 0]),
  (35, 20, [38, 42, 0]),
  (38, 0, [39, 2]),
  (39, 22, [130]),
  (42, 4, [43, 0]),
  (43, 1, [46, 435426714990]),
  (46, 32, [49, 0, 2, 11, 0, 0, 0, 0]),
  (49, 20, [52, 56, 0]),
  (52, 0, [53, 3]),
  (53, 22, [130]),
  (56, 4, [57, 0]),
  (57, 1, [60, 439721161573]),
  (60, 32, [63, 0, 2, 11, 0, 0, 0, 0]),
  (63, 20, [66, 70, 0]),
  (66, 0, [67, 4]),
  (67, 22, [130]),
  (70, 4, [71, 0]),
  (71, 1, [74, 1852137842]),
  (74, 32, [77, 0, 2, 11, 0, 0, 0, 0]),
  (77, 20, [80, 84, 0]),
  (80, 0, [81, 5]),
  (81, 22, [130]),
  (84, 4, [85, 0]),
  (85, 1, [88, 6709618]),
  (88, 32, [91, 0, 2, 11, 0, 0, 0, 0]),
  (91, 20, [94, 99, 0]),
  (94, 0, [96, 6]),
  (96, 22, [130]),
  (99, 4, [100, 0]),
  (100, 1, [103, 27991845698233700]),
  (103, 32, [106, 0, 2, 11, 0, 0, 0, 0]),
  (106, 20, [109, 114, 0]),
  (109, 0, [111, 7]),
  (111, 22, [130]),
  (114, 4, [115, 0]),
  (115, 1, [118, 121450625394034]),
  (118, 32, [121, 0, 2, 11, 0, 0, 0, 0]),
  (121, 20, [124, 129, 0]),
  (124, 0, [126, 8]),
  (126, 22, [130]),
  (129, 0, [130, -1]),
  (130, 35, [0, 0])]
def kd_X11_leafOf_6afe8b_0 : List (Nat × sf_D × sf_M) := [(0, ([(1, 11, 0)], [], [], 0, 0), (38, [])),
  (1, ([(1, 11, 0)], [(1, 11, 0)], [], 0, 0), (37, [])),
  (4, ([(1, 11, 0)], [(2, 0, 0), (1, 11, 0)], [], 0, 0), (36, [])),
  (7, ([(1, 11, 0)], [(0, 0, 0)], [(1, 0, 0, 0, 1, 0), (3, 0, 36035, 1, 1, 0)], 0, 0), (35, [])),
  (10, ([(1, 11, 0)], [], [(1, 36035, 0, 1, 1, 0)], 0, 0), (2, [])),
  (11, ([(1, 11, 0)], [(0, 0, 0)], [(1, 36035, 0, 1, 1, 0), (1, 0, 0, 0, 0, 0)], 0, 0), (1, [])),
  (14, ([(1, 11, 0)], [], [], 0, 0), (34, [])),
  (15, ([(1, 11, 0)], [(1, 11, 0)], [], 0, 0), (33, [])),
  (18, ([(1, 11, 0)], [(2, 0, 0), (1, 11, 0)], [], 0, 0), (32, [])),
  (21, ([(1, 11, 0)], [(0, 0, 0)], [(1, 0, 0, 0, 1, 0), (3, 0, 36035, 1, 1, 0)], 0, 0), (31, [])),
  (24, ([(1, 11, 0)], [], [(1, 36035, 0, 1, 1, 0)], 0, 0), (2, [])),
  (25, ([(1, 11, 0)], [(0, 0, 0)], [(1, 36035, 0, 1, 1, 0), (1, 0, 0, 1, 1, 0)], 0, 0), (1, [])),
  (28, ([(1, 11, 0)], [], [], 0, 0), (30, [])),
  (29, ([(1, 11, 0)], [(1, 11, 0)], [], 0, 0), (29, [])),
  (32, ([(1, 11, 0)], [(2, 0, 0), (1, 11, 0)], [], 0, 0), (28, [])),
  (35, ([(1, 11, 0)], [(0, 0, 0)], [(1, 0, 0, 0, 1, 0), (3, 0, 36035, 1, 1, 0)], 0, 0), (27, [])),
  (38, ([(1, 11, 0)], [], [(1, 36035, 0, 1, 1, 0)], 0, 0), (2, [])),
  (39, ([(1, 11, 0)], [(0, 0, 0)], [(1, 36035, 0, 1, 1, 0), (1, 0, 0, 2, 2, 0)], 0, 0), (1, [])),
  (42, ([(1, 11, 0)], [], [], 0, 0), (26, [])),
  (43, ([(1, 11, 0)], [(1, 11, 0)], [], 0, 0), (25, [])),
  (46, ([(1, 11, 0)], [(2, 0, 0), (1, 11, 0)], [], 0, 0), (24, [])),
  (49, ([(1, 11, 0)], [(0, 0, 0)], [(1, 0, 0, 0, 1, 0), (3, 0, 36035, 1, 1, 0)], 0, 0), (23, []))]
def kd_X11_leafOf_6afe8b_1 : List (Nat × sf_D × sf_M) := [(52, ([(1, 11, 0)], [], [(1, 36035, 0, 1, 1, 0)], 0, 0), (2, [])),
  (53, ([(1, 11, 0)], [(0, 0, 0)], [(1, 36035, 0, 1, 1, 0), (1, 0, 0, 3, 3, 0)], 0, 0), (1, [])),
  (56, ([(1, 11, 0)], [], [], 0, 0), (22, [])),
  (57, ([(1, 11, 0)], [(1, 11, 0)], [], 0, 0), (21, [])),
  (60, ([(1, 11, 0)], [(2, 0, 0), (1, 11, 0)], [], 0, 0), (20, [])),
  (63, ([(1, 11, 0)], [(0, 0, 0)], [(1, 0, 0, 0, 1, 0), (3, 0, 36035, 1, 1, 0)], 0, 0), (19, [])),
  (66, ([(1, 11, 0)], [], [(1, 36035, 0, 1, 1, 0)], 0, 0), (2, [])),
  (67, ([(1, 11, 0)], [(0, 0, 0)], [(1, 36035, 0, 1, 1, 0), (1, 0, 0, 4, 4, 0)], 0, 0), (1, [])),
  (70, ([(1, 11, 0)], [], [], 0, 0), (18, [])),
  (71, ([(1, 11, 0)], [(1, 11, 0)], [], 0, 0), (17, [])),
  (74, ([(1, 11, 0)], [(2, 0, 0), (1, 11, 0)], [], 0, 0), (16, [])),
  (77, ([(1, 11, 0)], [(0, 0, 0)], [(1, 0, 0, 0, 1, 0), (3, 0, 36035, 1, 1, 0)], 0, 0), (15, [])),
  (80, ([(1, 11, 0)], [], [(1, 36035, 0, 1, 1, 0)], 0, 0), (2, [])),
  (81, ([(1, 11, 0)], [(0, 0, 0)], [(1, 36035, 0, 1, 1, 0), (1, 0, 0, 5, 5, 0)], 0, 0), (1, [])),
  (84, ([(1, 11, 0)], [], [], 0, 0), (14, [])),
  (85, ([(1, 11, 0)], [(1, 11, 0)], [], 0, 0), (13, [])),
  (88, ([(1, 11, 0)], [(2, 0, 0), (1, 11, 0)], [], 0, 0), (12, [])),
  (91, ([(1, 11, 0)], [(0, 0, 0)], [(1, 0, 0, 0, 1, 0), (3, 0, 36035, 1, 1, 0)], 0, 0), (11, [])),
  (94, ([(1, 11, 0)], [], [(1, 36035, 0, 1, 1, 0)], 0, 0), (2, [])),
  (96, ([(1, 11, 0)], [(0, 0, 0)], [(1, 36035, 0, 1, 1, 0), (1, 0, 0, 6, 6, 0)], 0, 0), (1, [])),
  (99, ([(1, 11, 0)], [], [], 0, 0), (10, [])),
  (100, ([(1, 11, 0)], [(1, 11, 0)], [], 0, 0), (9, []))]
def kd_X11_leafOf_6afe8b_2 : List (Nat × sf_D × sf_M) := [(103, ([(1, 11, 0)], [(2, 0, 0), (1, 11, 0)], [], 0, 0), (8, [])),
  (106, ([(1, 11, 0)], [(0, 0, 0)], [(1, 0, 0, 0, 1, 0), (3, 0, 36035, 1, 1, 0)], 0, 0), (7, [])),
  (109, ([(1, 11, 0)], [], [(1, 36035, 0, 1, 1, 0)], 0, 0), (2, [])),
  (111, ([(1, 11, 0)], [(0, 0, 0)], [(1, 36035, 0, 1, 1, 0), (1, 0, 0, 7, 7, 0)], 0, 0), (1, [])),
  (114, ([(1, 11, 0)], [], [], 0, 0), (6, [])),
  (115, ([(1, 11, 0)], [(1, 11, 0)], [], 0, 0), (5, [])),
  (118, ([(1, 11, 0)], [(2, 0, 0), (1, 11, 0)], [], 0, 0), (4, [])),
  (121, ([(1, 11, 0)], [(0, 0, 0)], [(1, 0, 0, 0, 1, 0), (3, 0, 36035, 1, 1, 0)], 0, 0), (3, [])),
  (124, ([(1, 11, 0)], [], [(1, 36035, 0, 1, 1, 0)], 0, 0), (2, [])),
  (126, ([(1, 11, 0)], [(0, 0, 0)], [(1, 36035, 0, 1, 1, 0), (1, 0, 0, 8, 8, 0)], 0, 0), (1, [])),
  (129, ([(1, 11, 0)], [], [], 0, 0), (1, [])),
  (130, ([(1, 11, 0)], [(0, 0, 0)], [(1, 0, 0, -1, 8, 0), (3, 0, 36035, 1, 1, -1)], 0, 0), (0, []))]
def kd_X11_leafOf_6afe8b : List (Nat × sf_D × sf_M) := kd_X11_leafOf_6afe8b_0 ++ (kd_X11_leafOf_6afe8b_1 ++ (kd_X11_leafOf_6afe8b_2))
set_option maxRecDepth 100000 in
theorem kt_X11_leafOf_6afe8b : sf_chk [kq_X11_isWord_0799ed] kq_X11_leafOf_6afe8b 1 kc_X11_leafOf_6afe8b kd_X11_leafOf_6afe8b = true := by decide +kernel
set_option maxRecDepth 100000 in
theorem kl_X11_leafOf_6afe8b : (kc_X11_leafOf_6afe8b).map (fun c => (c.1, sf_den ([Z_X11_isWord] : List sf_X) c.2)) = L_X11_leafOf Z_X11_isWord := rfl
theorem ct_X11_leafOf_6afe8b : sf_ct kq_X11_leafOf_6afe8b Z_X11_leafOf := by
  have h := sf_meth (K := [kq_X11_isWord_0799ed]) (E := [Z_X11_isWord]) (k := kq_X11_leafOf_6afe8b) (nL := 1) (C := kc_X11_leafOf_6afe8b) (D := kd_X11_leafOf_6afe8b) (fun m k hk => match m, hk with
    | 0, hk => (Option.some.inj hk) ▸ ct_X11_isWord_0799ed
    | _ + 1, hk => (by cases hk)) kt_X11_leafOf_6afe8b
  rw [kl_X11_leafOf_6afe8b] at h
  exact h
def kq_X11_code_h : sf_Q := ([(1, 11, 0), (0, 0, 0), (0, 0, 0), (0, 0, 0)], [(1, 36104, 0, 0, 44, 0)], none, [], [(11, 34, 34), (134, 0, 159)])
def ke_X11_code_h : List Value → ab_H → Option Value → ab_H → Prop := fun as hp _ hp' => ∀ (c : Int) (x y : Int32), as[1]? = some (Value.int x) → as[3]? = some (Value.int y) → sf_rd hp 69 34 = some c → sf_rd hp' 69 34 = some (c + 1) ∧ sf_rd hp' 73 (3 * c.toNat) = some x.toInt ∧ sf_rd hp' 73 (3 * c.toNat + 2) = some y.toInt ∧ ∀ q, q < 3 * c.toNat → sf_rd hp' 73 q = sf_rd hp 73 q
set_option maxRecDepth 100000 in
set_option maxHeartbeats 4000000 in
theorem ce_X11_code_h : sf_cE kq_X11_code_h Z_X11_code ke_X11_code_h := by
  intro t hp as H hl hj hpre
  match as, hl with
  | [v0, v1, v2, v3], _ =>
    obtain ⟨a0, rfl, ra0⟩ := bs_aR (hj 0 _ rfl)
    obtain rfl := ra0.eq H (p := 69) rfl
    obtain ⟨x1, rfl⟩ := bs_aI (hj 1 _ rfl)
    have rg1 := n_range x1
    obtain ⟨x2, rfl⟩ := bs_aI (hj 2 _ rfl)
    have rg2 := n_range x2
    obtain ⟨x3, rfl⟩ := bs_aI (hj 3 _ rfl)
    have rg3 := n_range x3
    obtain ⟨pv0, pe0, pl0, ph0⟩ := (hpre _ (List.mem_of_getElem? (i := 0) rfl)).1 rfl
    replace pe0 : sf_rd hp 69 34 = some pv0 := pe0
    replace pl0 : (0 : Int) ≤ pv0 := pl0
    replace ph0 : pv0 ≤ (44 : Int) := ph0
    clear hpre hj
    have F0 : sf_fr [(11, 34, 34), (134, 0, 159)] t hp t hp := sf_fr_rf
    refine bs_finx (E := ke_X11_code_h) (K := kq_X11_code_h) (L := L_X11_code) (nL := 4) (Nat.le_of_ble_eq_true rfl) ?_
    obtain ⟨Q, hQ⟩ : ∃ Q : ab_O → Prop, Q = (fun o => ∃ t', sf_h t' o.2 ∧ sf_fr (kq_X11_code_h).2.2.2.2 t hp t' o.2 ∧ sf_an t' o.2.1 (kq_X11_code_h).2.2.1 o.1 ∧ sf_S (sf_v1 o.1 [.ref 69, .int x1, .int x2, .int x3] o.2) (kq_X11_code_h).2.2.2.1 ∧ ke_X11_code_h [.ref 69, .int x1, .int x2, .int x3] hp o.1 o.2) := ⟨_, rfl⟩
    rw [← hQ]
    refine (show Ev (ab_T L_X11_code) 0 ([some (.ref 69), some (.int x1), some (.int x2), some (.int x3)], [], (0, 0), hp) Q from ?_)
    obtain ⟨L0, hL0, lL0, uL0⟩ := bs_fld (k := 34) H (bs_R.uq H (g := 11) rfl) (by decide) rfl
    have eL0 : L0 = pv0 := Option.some.inj (hL0.symm.trans pe0)
    refine Ev.step (j := 1) (s' := ([some (.ref 69), some (.int x1), some (.int x2), some (.int x3)], [.ref 69], (0, 0), hp)) rfl rfl ?_
    exact by
     refine bs_getU (g := 11) (g1 := 134) rfl rfl H (bs_R.uq H (g := 11) rfl) (by decide) rfl rfl ?_
     refine bs_lit (k := 3) rfl rfl fun z1 hz1 => ?_
     refine Ev.step (j := 6) (s' := ([some (.ref 69), some (.int x1), some (.int x2), some (.int x3)], [.ref 69, .int z1, .ref 73], (0, 0), hp)) rfl rfl ?_
     refine bs_getI 11 rfl rfl rfl H (bs_R.uq H (g := 11) rfl) (by decide) rfl fun z2 hz2 lz2 gz2 => ?_
     have e3 : z2.toInt = L0 := Option.some.inj (hz2.symm.trans hL0)
     refine bs_mul (3) rfl (Or.inl hz1) (by rw [hz1]; omega) (by rw [hz1]; omega) fun z4 hz4 => ?_
     rw [hz1] at hz4
     refine Ev.step (j := 11) (s' := ([some (.ref 69), some (.int x1), some (.int x2), some (.int x3)], [.int x1, .int z4, .ref 73], (0, 0), hp)) rfl rfl ?_
     refine bs_st (W := [(134, 0, 159)]) (g := 134) 0 159 (-2147483648, 2147483647) rfl H (bs_R.uq H (g := 134) rfl) (by decide) rfl rfl (by decide) rfl rfl (by omega) (by omega) (by dsimp only; omega) (by dsimp only; omega) fun hp5 Hhp5 fhp5 rhp5 ehp5 qhp5 nhp5 => ?_
     have Fhp5 := sf_fr_tr F0 (sf_fr_wider (W := [(11, 34, 34), (134, 0, 159)]) rfl fhp5)
     have h6 : sf_rd hp5 69 34 = some L0 := (ehp5 _ _ (Or.inl (by decide))).trans hL0
     refine Ev.step (j := 13) (s' := ([some (.ref 69), some (.int x1), some (.int x2), some (.int x3)], [.ref 69], (0, 0), hp5)) rfl rfl ?_
     exact by
      refine bs_getU (g := 11) (g1 := 134) rfl rfl Hhp5 (bs_R.uq Hhp5 (g := 11) rfl) (by decide) rfl rfl ?_
      refine bs_lit (k := 3) rfl rfl fun z7 hz7 => ?_
      refine Ev.step (j := 18) (s' := ([some (.ref 69), some (.int x1), some (.int x2), some (.int x3)], [.ref 69, .int z7, .ref 73], (0, 0), hp5)) rfl rfl ?_
      refine bs_getI 11 rfl rfl rfl Hhp5 (bs_R.uq Hhp5 (g := 11) rfl) (by decide) rfl fun z8 hz8 lz8 gz8 => ?_
      have e9 : z8.toInt = L0 := Option.some.inj (hz8.symm.trans h6)
      refine bs_mul (3) rfl (Or.inl hz7) (by rw [hz7]; omega) (by rw [hz7]; omega) fun z10 hz10 => ?_
      rw [hz7] at hz10
      refine bs_lit (k := 1) rfl rfl fun z11 hz11 => ?_
      first | (refine bs_add rfl (by omega) (by omega) fun z12 hz12 => ?_) | (refine bs_any rfl fun z12 => ?_)
      have rz12 := n_range z12
      refine Ev.step (j := 25) (s' := ([some (.ref 69), some (.int x1), some (.int x2), some (.int x3)], [.int x2, .int z12, .ref 73], (0, 0), hp5)) rfl rfl ?_
      exact by
       refine bs_st (W := [(134, 0, 159)]) (g := 134) 0 159 (-2147483648, 2147483647) rfl Hhp5 (bs_R.uq Hhp5 (g := 134) rfl) (by decide) rfl rfl (by decide) rfl rfl (by omega) (by omega) (by dsimp only; omega) (by dsimp only; omega) fun hp13 Hhp13 fhp13 rhp13 ehp13 qhp13 nhp13 => ?_
       have Fhp13 := sf_fr_tr Fhp5 (sf_fr_wider (W := [(11, 34, 34), (134, 0, 159)]) rfl fhp13)
       have h14 : sf_rd hp13 69 34 = some L0 := (ehp13 _ _ (Or.inl (by decide))).trans h6
       refine Ev.step (j := 27) (s' := ([some (.ref 69), some (.int x1), some (.int x2), some (.int x3)], [.ref 69], (0, 0), hp13)) rfl rfl ?_
       refine bs_getU (g := 11) (g1 := 134) rfl rfl Hhp13 (bs_R.uq Hhp13 (g := 11) rfl) (by decide) rfl rfl ?_
       refine bs_lit (k := 3) rfl rfl fun z15 hz15 => ?_
       refine Ev.step (j := 32) (s' := ([some (.ref 69), some (.int x1), some (.int x2), some (.int x3)], [.ref 69, .int z15, .ref 73], (0, 0), hp13)) rfl rfl ?_
       refine bs_getI 11 rfl rfl rfl Hhp13 (bs_R.uq Hhp13 (g := 11) rfl) (by decide) rfl fun z16 hz16 lz16 gz16 => ?_
       have e17 : z16.toInt = L0 := Option.some.inj (hz16.symm.trans h14)
       refine bs_mul (3) rfl (Or.inl hz15) (by rw [hz15]; omega) (by rw [hz15]; omega) fun z18 hz18 => ?_
       rw [hz15] at hz18
       refine bs_lit (k := 2) rfl rfl fun z19 hz19 => ?_
       first | (refine bs_add rfl (by omega) (by omega) fun z20 hz20 => ?_) | (refine bs_any rfl fun z20 => ?_)
       have rz20 := n_range z20
       refine Ev.step (j := 39) (s' := ([some (.ref 69), some (.int x1), some (.int x2), some (.int x3)], [.int x3, .int z20, .ref 73], (0, 0), hp13)) rfl rfl ?_
       exact by
        refine bs_st (W := [(134, 0, 159)]) (g := 134) 0 159 (-2147483648, 2147483647) rfl Hhp13 (bs_R.uq Hhp13 (g := 134) rfl) (by decide) rfl rfl (by decide) rfl rfl (by omega) (by omega) (by dsimp only; omega) (by dsimp only; omega) fun hp21 Hhp21 fhp21 rhp21 ehp21 qhp21 nhp21 => ?_
        have Fhp21 := sf_fr_tr Fhp13 (sf_fr_wider (W := [(11, 34, 34), (134, 0, 159)]) rfl fhp21)
        have h22 : sf_rd hp21 69 34 = some L0 := (ehp21 _ _ (Or.inl (by decide))).trans h14
        refine Ev.step (j := 41) (s' := ([some (.ref 69), some (.int x1), some (.int x2), some (.int x3)], [.ref 69], (0, 0), hp21)) rfl rfl ?_
        refine Ev.step (j := 42) (s' := ([some (.ref 69), some (.int x1), some (.int x2), some (.int x3)], [.ref 69, .ref 69], (0, 0), hp21)) rfl rfl ?_
        refine bs_getI 11 rfl rfl rfl Hhp21 (bs_R.uq Hhp21 (g := 11) rfl) (by decide) rfl fun z23 hz23 lz23 gz23 => ?_
        have e24 : z23.toInt = L0 := Option.some.inj (hz23.symm.trans h22)
        refine bs_lit (k := 1) rfl rfl fun z25 hz25 => ?_
        first | (refine bs_add rfl (by omega) (by omega) fun z26 hz26 => ?_) | (refine bs_any rfl fun z26 => ?_)
        have rz26 := n_range z26
        refine bs_putI (W := [(11, 34, 34)]) (g := 11) rfl rfl Hhp21 (bs_R.uq Hhp21 (g := 11) rfl) (by decide) rfl rfl rfl rfl (Or.inl rfl) (by omega) (by omega) fun hp27 Hhp27 fhp27 rhp27 ehp27 qhp27 nhp27 => ?_
        have Fhp27 := sf_fr_tr Fhp21 (sf_fr_wider (W := [(11, 34, 34), (134, 0, 159)]) rfl fhp27)
        have h28 : sf_rd hp27 73 z20.toInt.toNat = some x3.toInt := (ehp27 _ _ (Or.inl (by decide))).trans rhp21
        exact Ev.ret rfl rfl (by rw [hQ]; exact ⟨t, Hhp27, Fhp27, bs_anU, sf_S_nil, (fun c x y hx hy hc => by have e : c = L0 := Option.some.inj (hc.symm.trans hL0); have hx2 : some (Value.int x1) = some (Value.int x) := hx; obtain rfl := Value.int.inj (Option.some.inj hx2); have hy2 : some (Value.int x3) = some (Value.int y) := hy; obtain rfl := Value.int.inj (Option.some.inj hy2); exact ⟨by exact rhp27.trans (congrArg some (by omega)), ((((ehp27 _ _ (Or.inl (by decide))).trans ((ehp21 _ _ (Or.inr (by omega))).trans (ehp13 _ _ (Or.inr (by omega)))))).trans (bs_at rhp5 (by omega))), (((ehp27 _ _ (Or.inl (by decide)))).trans (bs_at rhp21 (by omega))), fun q hq => ((ehp27 _ _ (Or.inl (by decide))).trans ((ehp21 _ _ (Or.inr (by omega))).trans ((ehp13 _ _ (Or.inr (by omega))).trans (ehp5 _ _ (Or.inr (by omega))))))⟩)⟩)
def kq_X11_operand_h : sf_Q := ([(1, 11, 0)], [], some (0, 0, 0), [(1, 0, 0, 0, 1, 0)], [(11, 4, 4), (11, 11, 18), (11, 34, 38), (134, 0, 159), (143, 0, 44)])
def ke_X11_operand_h : List Value → ab_H → Option Value → ab_H → Prop := fun _ hp r hp' => ∀ c o p : Int, se hp c o p 0 → r = some (.int 1) → ∃ c' p' w' : Int, se hp' c' (o + 1) p' w' ∧ p' ≤ p + 1
set_option maxRecDepth 100000 in
set_option maxHeartbeats 4000000 in
theorem cp_X11_operand_h : sf_cG kq_X11_operand_h Z_X11_operand (fun hp => ∃ c o p : Int, se hp c o p 0) ke_X11_operand_h := by
  intro t hp as H hl hj hpre hG
  match as, hl with
  | [v0], _ =>
    obtain ⟨a0, rfl, ra0⟩ := bs_aR (hj 0 _ rfl)
    obtain rfl := ra0.eq H (p := 69) rfl
    clear hpre hj
    have F0 : sf_fr [(11, 4, 4), (11, 11, 18), (11, 34, 38), (134, 0, 159), (143, 0, 44)] t hp t hp := sf_fr_rf
    refine bs_finx (E := ke_X11_operand_h) (K := kq_X11_operand_h) (L := (L_X11_operand Z_X11_isWord Z_X11_isSign Z_X11_leafOf Z_X11_bad Z_X11_next Z_X11_takes Z_X11_code)) (nL := 5) (Nat.le_of_ble_eq_true rfl) ?_
    obtain ⟨Q, hQ⟩ : ∃ Q : ab_O → Prop, Q = (fun o => ∃ t', sf_h t' o.2 ∧ sf_fr (kq_X11_operand_h).2.2.2.2 t hp t' o.2 ∧ sf_an t' o.2.1 (kq_X11_operand_h).2.2.1 o.1 ∧ sf_S (sf_v1 o.1 [.ref 69] o.2) (kq_X11_operand_h).2.2.2.1 ∧ ke_X11_operand_h [.ref 69] hp o.1 o.2) := ⟨_, rfl⟩
    rw [← hQ]
    refine (show Ev (ab_T (L_X11_operand Z_X11_isWord Z_X11_isSign Z_X11_leafOf Z_X11_bad Z_X11_next Z_X11_takes Z_X11_code)) 0 ([some (.ref 69), none, none, none, none], [], (0, 0), hp) Q from ?_)
    obtain ⟨C, O, P, hG1⟩ := hG
    have hbhG1 := hG1.al
    refine Ev.step (j := 1) (s' := ([some (.ref 69), none, none, none, none], [.ref 69], (0, 0), hp)) rfl rfl ?_
    exact by
     refine Ev.step (j := 4) (s' := ([some (.ref 69), none, none, none, none], [.long (7237492), .ref 69], (0, 0), hp)) rfl rfl ?_
     refine bs_call (K := kq_X11_isWord_0799ed) [.ref 69, .long (7237492)] [] rfl ct_X11_isWord_0799ed H rfl rfl rfl (bs_rcv (g := 11) H (bs_R.uq H (g := 11) rfl) (by decide) rfl) rfl ?_ (sf_S_nil) fun r1 hp2 thp2 Hhp2 fhp2 ahp2 php2 => ?_
     · intro q k h
       match q, h with
       | 0, h => cases h; exact bs_jR (bs_R.uq H (g := 11) rfl)
       | 1, h => cases h; exact sf_j2
       | q + 2, h => cases h
     obtain ⟨z3, rfl⟩ := bs_anI ahp2
     have rgz3 := n_range z3
     have Fhp2 := sf_fr_tr F0 (sf_fr_wider (W := [(11, 4, 4), (11, 11, 18), (11, 34, 38), (134, 0, 159), (143, 0, 44)]) rfl fhp2)
     have h4 : sf_rd hp2 69 34 = some C := (fhp2.2.2.1 _ (bs_R.uq H (g := 11) (p := 69) rfl).1 _ (by rw [(bs_R.uq H (g := 11) (p := 69) rfl).2]; rfl)).trans hG1.1
     have h5 : sf_rd hp2 69 35 = some O := (fhp2.2.2.1 _ (bs_R.uq H (g := 11) (p := 69) rfl).1 _ (by rw [(bs_R.uq H (g := 11) (p := 69) rfl).2]; rfl)).trans hG1.2.1
     have h6 : sf_rd hp2 69 36 = some P := (fhp2.2.2.1 _ (bs_R.uq H (g := 11) (p := 69) rfl).1 _ (by rw [(bs_R.uq H (g := 11) (p := 69) rfl).2]; rfl)).trans hG1.2.2.1
     have h7 : sf_rd hp2 69 38 = some (0 : Int) := (fhp2.2.2.1 _ (bs_R.uq H (g := 11) (p := 69) rfl).1 _ (by rw [(bs_R.uq H (g := 11) (p := 69) rfl).2]; rfl)).trans hG1.2.2.2.1
     obtain ⟨uz3, vz3⟩ := bs_s1 (x := z3.toInt) rfl (php2 _ (List.mem_of_getElem? (i := 0) rfl))
     refine (show Ev _ 7 ([some (.ref 69), none, none, none, none], [.int z3], (0, 0), hp2) _ from ?_)
     exact by
      refine Ev.step (j := 8) (s' := ([some (.ref 69), some (.int z3), none, none, none], [], (0, 0), hp2)) rfl rfl ?_
      refine Ev.step (j := 9) (s' := ([some (.ref 69), some (.int z3), none, none, none], [.ref 69], (0, 0), hp2)) rfl rfl ?_
      refine bs_lit (k := 40) rfl rfl fun z8 hz8 => ?_
      refine bs_call (K := kq_X11_isSign_3976cd) [.ref 69, .int z8] [] rfl ct_X11_isSign_3976cd Hhp2 rfl rfl rfl (bs_rcv (g := 11) Hhp2 (bs_R.uq Hhp2 (g := 11) rfl) (by decide) rfl) rfl ?_ (sf_S_cons (sf_s1 (x := z8.toInt) rfl (by omega) (by omega)) (sf_S_nil)) fun r9 hp10 thp10 Hhp10 fhp10 ahp10 php10 => ?_
      · intro q k h
        match q, h with
        | 0, h => cases h; exact bs_jR (bs_R.uq Hhp2 (g := 11) rfl)
        | 1, h => cases h; exact sf_j0
        | q + 2, h => cases h
      obtain ⟨z11, rfl⟩ := bs_anI ahp10
      have rgz11 := n_range z11
      have Fhp10 := sf_fr_tr Fhp2 (sf_fr_wider (W := [(11, 4, 4), (11, 11, 18), (11, 34, 38), (134, 0, 159), (143, 0, 44)]) rfl fhp10)
      have h12 : sf_rd hp10 69 34 = some C := (fhp10.2.2.1 _ (bs_R.uq Hhp2 (g := 11) (p := 69) rfl).1 _ (by rw [(bs_R.uq Hhp2 (g := 11) (p := 69) rfl).2]; rfl)).trans h4
      have h13 : sf_rd hp10 69 35 = some O := (fhp10.2.2.1 _ (bs_R.uq Hhp2 (g := 11) (p := 69) rfl).1 _ (by rw [(bs_R.uq Hhp2 (g := 11) (p := 69) rfl).2]; rfl)).trans h5
      have h14 : sf_rd hp10 69 36 = some P := (fhp10.2.2.1 _ (bs_R.uq Hhp2 (g := 11) (p := 69) rfl).1 _ (by rw [(bs_R.uq Hhp2 (g := 11) (p := 69) rfl).2]; rfl)).trans h6
      have h15 : sf_rd hp10 69 38 = some (0 : Int) := (fhp10.2.2.1 _ (bs_R.uq Hhp2 (g := 11) (p := 69) rfl).1 _ (by rw [(bs_R.uq Hhp2 (g := 11) (p := 69) rfl).2]; rfl)).trans h7
      obtain ⟨uz11, vz11⟩ := bs_s1 (x := z11.toInt) rfl (php10 _ (List.mem_of_getElem? (i := 0) rfl))
      refine (show Ev _ 14 ([some (.ref 69), some (.int z3), none, none, none], [.int z11], (0, 0), hp10) _ from ?_)
      exact by
       refine Ev.step (j := 15) (s' := ([some (.ref 69), some (.int z3), some (.int z11), none, none], [], (0, 0), hp10)) rfl rfl ?_
       refine Ev.step (j := 16) (s' := ([some (.ref 69), some (.int z3), some (.int z11), none, none], [.ref 69], (0, 0), hp10)) rfl rfl ?_
       refine bs_call (K := kq_X11_leafOf_6afe8b) [.ref 69] [] rfl ct_X11_leafOf_6afe8b Hhp10 rfl rfl rfl (bs_rcv (g := 11) Hhp10 (bs_R.uq Hhp10 (g := 11) rfl) (by decide) rfl) rfl ?_ (sf_S_nil) fun r16 hp17 thp17 Hhp17 fhp17 ahp17 php17 => ?_
       · intro q k h
         match q, h with
         | 0, h => cases h; exact bs_jR (bs_R.uq Hhp10 (g := 11) rfl)
         | q + 1, h => cases h
       obtain ⟨z18, rfl⟩ := bs_anI ahp17
       have rgz18 := n_range z18
       have Fhp17 := sf_fr_tr Fhp10 (sf_fr_wider (W := [(11, 4, 4), (11, 11, 18), (11, 34, 38), (134, 0, 159), (143, 0, 44)]) rfl fhp17)
       have h19 : sf_rd hp17 69 34 = some C := (fhp17.2.2.1 _ (bs_R.uq Hhp10 (g := 11) (p := 69) rfl).1 _ (by rw [(bs_R.uq Hhp10 (g := 11) (p := 69) rfl).2]; rfl)).trans h12
       have h20 : sf_rd hp17 69 35 = some O := (fhp17.2.2.1 _ (bs_R.uq Hhp10 (g := 11) (p := 69) rfl).1 _ (by rw [(bs_R.uq Hhp10 (g := 11) (p := 69) rfl).2]; rfl)).trans h13
       have h21 : sf_rd hp17 69 36 = some P := (fhp17.2.2.1 _ (bs_R.uq Hhp10 (g := 11) (p := 69) rfl).1 _ (by rw [(bs_R.uq Hhp10 (g := 11) (p := 69) rfl).2]; rfl)).trans h14
       have h22 : sf_rd hp17 69 38 = some (0 : Int) := (fhp17.2.2.1 _ (bs_R.uq Hhp10 (g := 11) (p := 69) rfl).1 _ (by rw [(bs_R.uq Hhp10 (g := 11) (p := 69) rfl).2]; rfl)).trans h15
       obtain ⟨uz18, vz18⟩ := bs_s1 (x := z18.toInt) rfl (php17 _ (List.mem_of_getElem? (i := 0) rfl))
       refine (show Ev _ 19 ([some (.ref 69), some (.int z3), some (.int z11), none, none], [.int z18], (0, 0), hp17) _ from ?_)
       exact by
        refine Ev.step (j := 20) (s' := ([some (.ref 69), some (.int z3), some (.int z11), some (.int z18), none], [], (0, 0), hp17)) rfl rfl ?_
        refine Ev.step (j := 21) (s' := ([some (.ref 69), some (.int z3), some (.int z11), some (.int z18), none], [.int z3], (0, 0), hp17)) rfl rfl ?_
        refine bs_ifne rfl (fun c23 => ?_) (fun c23 => ?_)
        · skip
          refine Ev.step (j := 39) (s' := ([some (.ref 69), some (.int z3), some (.int z11), some (.int z18), none], [.ref 69], (0, 0), hp17)) rfl rfl ?_
          refine bs_getI 11 rfl rfl rfl Hhp17 (bs_R.uq Hhp17 (g := 11) rfl) (by decide) rfl fun z24 hz24 lz24 gz24 => ?_
          have e25 : z24.toInt = O := Option.some.inj (hz24.symm.trans h20)
          refine bs_lit (k := 20) rfl rfl fun z26 hz26 => ?_
          refine bs_eq rfl (fun c27 => ?_) (fun c27 => ?_)
          · skip
            have c28 : z24.toInt = 20 := by omega
            refine Ev.step (j := 57) (s' := ([some (.ref 69), some (.int z3), some (.int z11), some (.int z18), none], [.ref 69], (0, 0), hp17)) rfl rfl ?_
            exact by
             refine bs_lit (k := 4) rfl rfl fun z29 hz29 => ?_
             refine bs_call (K := kq_X11_bad_3d45d6) [.ref 69, .int z29] [] rfl ct_X11_bad_3d45d6 Hhp17 rfl rfl rfl (bs_rcv (g := 11) Hhp17 (bs_R.uq Hhp17 (g := 11) rfl) (by decide) rfl) rfl ?_ (sf_S_nil) fun r30 hp31 thp31 Hhp31 fhp31 ahp31 php31 => ?_
             · intro q k h
               match q, h with
               | 0, h => cases h; exact bs_jR (bs_R.uq Hhp17 (g := 11) rfl)
               | 1, h => cases h; exact sf_j0
               | q + 2, h => cases h
             obtain ⟨z32, rfl⟩ := bs_anI ahp31
             have rgz32 := n_range z32
             have Fhp31 := sf_fr_tr Fhp17 (sf_fr_wider (W := [(11, 4, 4), (11, 11, 18), (11, 34, 38), (134, 0, 159), (143, 0, 44)]) rfl fhp31)
             have h33 : sf_rd hp31 69 34 = some C := (fhp31.2.2.1 _ (bs_R.uq Hhp17 (g := 11) (p := 69) rfl).1 _ (by rw [(bs_R.uq Hhp17 (g := 11) (p := 69) rfl).2]; rfl)).trans h19
             have h34 : sf_rd hp31 69 35 = some O := (fhp31.2.2.1 _ (bs_R.uq Hhp17 (g := 11) (p := 69) rfl).1 _ (by rw [(bs_R.uq Hhp17 (g := 11) (p := 69) rfl).2]; rfl)).trans h20
             have h35 : sf_rd hp31 69 36 = some P := (fhp31.2.2.1 _ (bs_R.uq Hhp17 (g := 11) (p := 69) rfl).1 _ (by rw [(bs_R.uq Hhp17 (g := 11) (p := 69) rfl).2]; rfl)).trans h21
             have h36 : sf_rd hp31 69 38 = some (0 : Int) := (fhp31.2.2.1 _ (bs_R.uq Hhp17 (g := 11) (p := 69) rfl).1 _ (by rw [(bs_R.uq Hhp17 (g := 11) (p := 69) rfl).2]; rfl)).trans h22
             obtain ⟨uz32, vz32⟩ := bs_s1 (x := z32.toInt) rfl (php31 _ (List.mem_of_getElem? (i := 0) rfl))
             refine (show Ev _ 61 ([some (.ref 69), some (.int z3), some (.int z11), some (.int z18), none], [.int z32], (0, 0), hp31) _ from ?_)
             exact bs_zret rfl rfl (by omega) (by omega) (by rw [hQ]; exact ⟨thp31, Hhp31, Fhp31, bs_an0, sf_S_cons (sf_s1 (x := z32.toInt) rfl (by omega) (by omega)) (sf_S_nil), (fun c o p h hr => by have e : z32.toInt = 1 := congrArg Int32.toInt (Value.int.inj (Option.some.inj hr)); omega)⟩)
          · skip
            refine Ev.step (j := 48) (s' := ([some (.ref 69), some (.int z3), some (.int z11), some (.int z18), none], [.ref 69], (0, 0), hp17)) rfl rfl ?_
            exact by
             refine bs_getI 11 rfl rfl rfl Hhp17 (bs_R.uq Hhp17 (g := 11) rfl) (by decide) rfl fun z37 hz37 lz37 gz37 => ?_
             refine bs_lit (k := 8) rfl rfl fun z38 hz38 => ?_
             refine bs_le rfl (fun c39 => ?_) (fun c39 => ?_)
             · skip
               refine Ev.step (j := 63) (s' := ([some (.ref 69), some (.int z3), some (.int z11), some (.int z18), none], [.ref 69], (0, 0), hp17)) rfl rfl ?_
               refine Ev.step (j := 64) (s' := ([some (.ref 69), some (.int z3), some (.int z11), some (.int z18), none], [.ref 69, .ref 69], (0, 0), hp17)) rfl rfl ?_
               refine bs_getI 11 rfl rfl rfl Hhp17 (bs_R.uq Hhp17 (g := 11) rfl) (by decide) rfl fun z40 hz40 lz40 gz40 => ?_
               have e41 : z40.toInt = O := Option.some.inj (hz40.symm.trans h20)
               refine bs_lit (k := 1) rfl rfl fun z42 hz42 => ?_
               first | (refine bs_add rfl (by omega) (by omega) fun z43 hz43 => ?_) | (refine bs_any rfl fun z43 => ?_)
               have rz43 := n_range z43
               refine bs_putI (W := [(11, 35, 35)]) (g := 11) rfl rfl Hhp17 (bs_R.uq Hhp17 (g := 11) rfl) (by decide) rfl rfl rfl rfl (Or.inl rfl) (by omega) (by omega) fun hp44 Hhp44 fhp44 rhp44 ehp44 qhp44 nhp44 => ?_
               have Fhp44 := sf_fr_tr Fhp17 (sf_fr_wider (W := [(11, 4, 4), (11, 11, 18), (11, 34, 38), (134, 0, 159), (143, 0, 44)]) rfl fhp44)
               have h45 : sf_rd hp44 69 34 = some C := (ehp44 _ _ (Or.inr (by omega))).trans h19
               have h46 : sf_rd hp44 69 36 = some P := (ehp44 _ _ (Or.inr (by omega))).trans h21
               have h47 : sf_rd hp44 69 38 = some (0 : Int) := (ehp44 _ _ (Or.inr (by omega))).trans h22
               have h48 : sf_rd hp44 69 37 = some z37.toInt := (ehp44 _ _ (Or.inr (by omega))).trans hz37
               refine Ev.step (j := 73) (s' := ([some (.ref 69), some (.int z3), some (.int z11), some (.int z18), none], [.ref 69], (0, 0), hp44)) rfl rfl ?_
               exact by
                refine bs_call (K := kq_X11_next_h) [.ref 69] [] rfl ct_X11_next_h Hhp44 rfl rfl rfl (bs_rcv (g := 11) Hhp44 (bs_R.uq Hhp44 (g := 11) rfl) (by decide) rfl) rfl ?_ (sf_S_nil) fun r49 hp50 thp50 Hhp50 fhp50 ahp50 php50 => ?_
                · intro q k h
                  match q, h with
                  | 0, h => cases h; exact bs_jR (bs_R.uq Hhp44 (g := 11) rfl)
                  | q + 1, h => cases h
                obtain rfl := ahp50.1 rfl
                have Fhp50 := sf_fr_tr Fhp44 (sf_fr_wider (W := [(11, 4, 4), (11, 11, 18), (11, 34, 38), (134, 0, 159), (143, 0, 44)]) rfl fhp50)
                have h51 : sf_rd hp50 69 34 = some C := (fhp50.2.2.1 _ (bs_R.uq Hhp44 (g := 11) (p := 69) rfl).1 _ (by rw [(bs_R.uq Hhp44 (g := 11) (p := 69) rfl).2]; rfl)).trans h45
                have h52 : sf_rd hp50 69 36 = some P := (fhp50.2.2.1 _ (bs_R.uq Hhp44 (g := 11) (p := 69) rfl).1 _ (by rw [(bs_R.uq Hhp44 (g := 11) (p := 69) rfl).2]; rfl)).trans h46
                have h53 : sf_rd hp50 69 38 = some (0 : Int) := (fhp50.2.2.1 _ (bs_R.uq Hhp44 (g := 11) (p := 69) rfl).1 _ (by rw [(bs_R.uq Hhp44 (g := 11) (p := 69) rfl).2]; rfl)).trans h47
                have h54 : sf_rd hp50 69 37 = some z37.toInt := (fhp50.2.2.1 _ (bs_R.uq Hhp44 (g := 11) (p := 69) rfl).1 _ (by rw [(bs_R.uq Hhp44 (g := 11) (p := 69) rfl).2]; rfl)).trans h48
                have h55 : sf_rd hp50 69 35 = some z43.toInt := (fhp50.2.2.1 _ (bs_R.uq Hhp44 (g := 11) (p := 69) rfl).1 _ (by rw [(bs_R.uq Hhp44 (g := 11) (p := 69) rfl).2]; rfl)).trans rhp44
                refine (show Ev _ 76 ([some (.ref 69), some (.int z3), some (.int z11), some (.int z18), none], [], (0, 0), hp50) _ from ?_)
                exact by
                 refine Ev.step (j := 77) (s' := ([some (.ref 69), some (.int z3), some (.int z11), some (.int z18), none], [.int z3], (0, 0), hp50)) rfl rfl ?_
                 refine bs_ifne rfl (fun c56 => ?_) (fun c56 => ?_)
                 · skip
                   refine Ev.step (j := 85) (s' := ([some (.ref 69), some (.int z3), some (.int z11), some (.int z18), none], [.ref 69], (0, 0), hp50)) rfl rfl ?_
                   refine bs_getU (g := 11) (g1 := 143) rfl rfl Hhp50 (bs_R.uq Hhp50 (g := 11) rfl) (by decide) rfl rfl ?_
                   refine Ev.step (j := 89) (s' := ([some (.ref 69), some (.int z3), some (.int z11), some (.int z18), none], [.ref 69, .ref 82], (0, 0), hp50)) rfl rfl ?_
                   refine bs_getI 11 rfl rfl rfl Hhp50 (bs_R.uq Hhp50 (g := 11) rfl) (by decide) rfl fun z57 hz57 lz57 gz57 => ?_
                   have e58 : z57.toInt = P := Option.some.inj (hz57.symm.trans h52)
                   refine Ev.step (j := 93) (s' := ([some (.ref 69), some (.int z3), some (.int z11), some (.int z18), none], [.int z3, .int z57, .ref 82], (0, 0), hp50)) rfl rfl ?_
                   exact by
                    refine bs_ifeq rfl (fun c59 => ?_) (fun c59 => ?_)
                    · exfalso; omega
                    · skip
                      refine bs_lit (k := 20) rfl rfl fun z60 hz60 => ?_
                      refine Ev.step (j := 103) (s' := ([some (.ref 69), some (.int z3), some (.int z11), some (.int z18), none], [.int z60, .int z57, .ref 82], (0, 0), hp50)) rfl rfl ?_
                      refine bs_st (W := [(143, 0, 44)]) (g := 143) 0 44 (-2147483648, 2147483647) rfl Hhp50 (bs_R.uq Hhp50 (g := 143) rfl) (by decide) rfl rfl (by decide) rfl rfl (by omega) (by omega) (by dsimp only; omega) (by dsimp only; omega) fun hp61 Hhp61 fhp61 rhp61 ehp61 qhp61 nhp61 => ?_
                      have Fhp61 := sf_fr_tr Fhp50 (sf_fr_wider (W := [(11, 4, 4), (11, 11, 18), (11, 34, 38), (134, 0, 159), (143, 0, 44)]) rfl fhp61)
                      have h62 : sf_rd hp61 69 34 = some C := (ehp61 _ _ (Or.inl (by decide))).trans h51
                      have h63 : sf_rd hp61 69 36 = some P := (ehp61 _ _ (Or.inl (by decide))).trans h52
                      have h64 : sf_rd hp61 69 38 = some (0 : Int) := (ehp61 _ _ (Or.inl (by decide))).trans h53
                      have h65 : sf_rd hp61 69 37 = some z37.toInt := (ehp61 _ _ (Or.inl (by decide))).trans h54
                      have h66 : sf_rd hp61 69 35 = some z43.toInt := (ehp61 _ _ (Or.inl (by decide))).trans h55
                      refine Ev.step (j := 105) (s' := ([some (.ref 69), some (.int z3), some (.int z11), some (.int z18), none], [.ref 69], (0, 0), hp61)) rfl rfl ?_
                      exact by
                       refine Ev.step (j := 106) (s' := ([some (.ref 69), some (.int z3), some (.int z11), some (.int z18), none], [.ref 69, .ref 69], (0, 0), hp61)) rfl rfl ?_
                       refine bs_getI 11 rfl rfl rfl Hhp61 (bs_R.uq Hhp61 (g := 11) rfl) (by decide) rfl fun z67 hz67 lz67 gz67 => ?_
                       have e68 : z67.toInt = P := Option.some.inj (hz67.symm.trans h63)
                       refine bs_lit (k := 1) rfl rfl fun z69 hz69 => ?_
                       first | (refine bs_add rfl (by omega) (by omega) fun z70 hz70 => ?_) | (refine bs_any rfl fun z70 => ?_)
                       have rz70 := n_range z70
                       refine bs_putI (W := [(11, 36, 36)]) (g := 11) rfl rfl Hhp61 (bs_R.uq Hhp61 (g := 11) rfl) (by decide) rfl rfl rfl rfl (Or.inl rfl) (by omega) (by omega) fun hp71 Hhp71 fhp71 rhp71 ehp71 qhp71 nhp71 => ?_
                       have Fhp71 := sf_fr_tr Fhp61 (sf_fr_wider (W := [(11, 4, 4), (11, 11, 18), (11, 34, 38), (134, 0, 159), (143, 0, 44)]) rfl fhp71)
                       have h72 : sf_rd hp71 69 34 = some C := (ehp71 _ _ (Or.inr (by omega))).trans h62
                       have h73 : sf_rd hp71 69 38 = some (0 : Int) := (ehp71 _ _ (Or.inr (by omega))).trans h64
                       have h74 : sf_rd hp71 69 37 = some z37.toInt := (ehp71 _ _ (Or.inr (by omega))).trans h65
                       have h75 : sf_rd hp71 69 35 = some z43.toInt := (ehp71 _ _ (Or.inr (by omega))).trans h66
                       have h76 : sf_rd hp71 82 z57.toInt.toNat = some z60.toInt := (ehp71 _ _ (Or.inl (by decide))).trans rhp61
                       refine Ev.step (j := 115) (s' := ([some (.ref 69), some (.int z3), some (.int z11), some (.int z18), none], [.ref 69], (0, 0), hp71)) rfl rfl ?_
                       exact by
                        refine Ev.step (j := 116) (s' := ([some (.ref 69), some (.int z3), some (.int z11), some (.int z18), none], [.ref 69, .ref 69], (0, 0), hp71)) rfl rfl ?_
                        refine bs_getI 11 rfl rfl rfl Hhp71 (bs_R.uq Hhp71 (g := 11) rfl) (by decide) rfl fun z77 hz77 lz77 gz77 => ?_
                        have e78 : z77.toInt = z37.toInt := Option.some.inj (hz77.symm.trans h74)
                        refine bs_lit (k := 1) rfl rfl fun z79 hz79 => ?_
                        first | (refine bs_add rfl (by omega) (by omega) fun z80 hz80 => ?_) | (refine bs_any rfl fun z80 => ?_)
                        have rz80 := n_range z80
                        refine bs_putI (W := [(11, 37, 37)]) (g := 11) rfl rfl Hhp71 (bs_R.uq Hhp71 (g := 11) rfl) (by decide) rfl rfl rfl rfl (Or.inl rfl) (by omega) (by omega) fun hp81 Hhp81 fhp81 rhp81 ehp81 qhp81 nhp81 => ?_
                        have Fhp81 := sf_fr_tr Fhp71 (sf_fr_wider (W := [(11, 4, 4), (11, 11, 18), (11, 34, 38), (134, 0, 159), (143, 0, 44)]) rfl fhp81)
                        have h82 : sf_rd hp81 69 34 = some C := (ehp81 _ _ (Or.inr (by omega))).trans h72
                        have h83 : sf_rd hp81 69 38 = some (0 : Int) := (ehp81 _ _ (Or.inr (by omega))).trans h73
                        have h84 : sf_rd hp81 69 35 = some z43.toInt := (ehp81 _ _ (Or.inr (by omega))).trans h75
                        have h85 : sf_rd hp81 82 z57.toInt.toNat = some z60.toInt := (ehp81 _ _ (Or.inl (by decide))).trans h76
                        have h86 : sf_rd hp81 69 36 = some z70.toInt := (ehp81 _ _ (Or.inr (by omega))).trans rhp71
                        refine bs_lit (k := 1) rfl rfl fun z87 hz87 => ?_
                        exact bs_zret rfl rfl (by omega) (by omega) (by rw [hQ]; exact ⟨thp50, Hhp81, Fhp81, bs_an0, sf_S_cons (sf_s1 (x := z87.toInt) rfl (by omega) (by omega)) (sf_S_nil), (fun c o p h hr => by have eo : o = O := Option.some.inj (h.2.1.symm.trans hG1.2.1); have ep : p = P := Option.some.inj (h.2.2.1.symm.trans hG1.2.2.1); subst eo ep; exact ⟨_, _, _, se_push hG1 h82 h84 (by omega) (by omega) h86 (by omega) h83 ((((ehp81 _ _ (Or.inl (by decide))).trans (ehp71 _ _ (Or.inl (by decide))))).trans (bs_at rhp61 (by omega))) (by omega) (fun q => ((ehp81 _ _ (Or.inl (by decide))).trans ((ehp71 _ _ (Or.inl (by decide))).trans ((ehp61 _ _ (Or.inl (by decide))).trans ((fhp50.2.2.1 _ (bs_R.uq Hhp44 (g := 134) (p := 73) rfl).1 _ (by rw [(bs_R.uq Hhp44 (g := 134) (p := 73) rfl).2]; rfl)).trans ((ehp44 _ _ (Or.inl (by decide))).trans ((fhp17.2.2.1 _ (bs_R.uq Hhp10 (g := 134) (p := 73) rfl).1 _ (by rw [(bs_R.uq Hhp10 (g := 134) (p := 73) rfl).2]; rfl)).trans ((fhp10.2.2.1 _ (bs_R.uq Hhp2 (g := 134) (p := 73) rfl).1 _ (by rw [(bs_R.uq Hhp2 (g := 134) (p := 73) rfl).2]; rfl)).trans (fhp2.2.2.1 _ (bs_R.uq H (g := 134) (p := 73) rfl).1 _ (by rw [(bs_R.uq H (g := 134) (p := 73) rfl).2]; rfl)))))))))) (fun q hq => ((ehp81 _ _ (Or.inl (by decide))).trans ((ehp71 _ _ (Or.inl (by decide))).trans ((ehp61 _ _ (Or.inr (by omega))).trans ((fhp50.2.2.1 _ (bs_R.uq Hhp44 (g := 143) (p := 82) rfl).1 _ (by rw [(bs_R.uq Hhp44 (g := 143) (p := 82) rfl).2]; rfl)).trans ((ehp44 _ _ (Or.inl (by decide))).trans ((fhp17.2.2.1 _ (bs_R.uq Hhp10 (g := 143) (p := 82) rfl).1 _ (by rw [(bs_R.uq Hhp10 (g := 143) (p := 82) rfl).2]; rfl)).trans ((fhp10.2.2.1 _ (bs_R.uq Hhp2 (g := 143) (p := 82) rfl).1 _ (by rw [(bs_R.uq Hhp2 (g := 143) (p := 82) rfl).2]; rfl)).trans (fhp2.2.2.1 _ (bs_R.uq H (g := 143) (p := 82) rfl).1 _ (by rw [(bs_R.uq H (g := 143) (p := 82) rfl).2]; rfl)))))))))), by omega⟩)⟩)
                 · exfalso; omega
             · skip
               refine Ev.step (j := 57) (s' := ([some (.ref 69), some (.int z3), some (.int z11), some (.int z18), none], [.ref 69], (0, 0), hp17)) rfl rfl ?_
               exact by
                refine bs_lit (k := 4) rfl rfl fun z88 hz88 => ?_
                refine bs_call (K := kq_X11_bad_3d45d6) [.ref 69, .int z88] [] rfl ct_X11_bad_3d45d6 Hhp17 rfl rfl rfl (bs_rcv (g := 11) Hhp17 (bs_R.uq Hhp17 (g := 11) rfl) (by decide) rfl) rfl ?_ (sf_S_nil) fun r89 hp90 thp90 Hhp90 fhp90 ahp90 php90 => ?_
                · intro q k h
                  match q, h with
                  | 0, h => cases h; exact bs_jR (bs_R.uq Hhp17 (g := 11) rfl)
                  | 1, h => cases h; exact sf_j0
                  | q + 2, h => cases h
                obtain ⟨z91, rfl⟩ := bs_anI ahp90
                have rgz91 := n_range z91
                have Fhp90 := sf_fr_tr Fhp17 (sf_fr_wider (W := [(11, 4, 4), (11, 11, 18), (11, 34, 38), (134, 0, 159), (143, 0, 44)]) rfl fhp90)
                have h92 : sf_rd hp90 69 34 = some C := (fhp90.2.2.1 _ (bs_R.uq Hhp17 (g := 11) (p := 69) rfl).1 _ (by rw [(bs_R.uq Hhp17 (g := 11) (p := 69) rfl).2]; rfl)).trans h19
                have h93 : sf_rd hp90 69 35 = some O := (fhp90.2.2.1 _ (bs_R.uq Hhp17 (g := 11) (p := 69) rfl).1 _ (by rw [(bs_R.uq Hhp17 (g := 11) (p := 69) rfl).2]; rfl)).trans h20
                have h94 : sf_rd hp90 69 36 = some P := (fhp90.2.2.1 _ (bs_R.uq Hhp17 (g := 11) (p := 69) rfl).1 _ (by rw [(bs_R.uq Hhp17 (g := 11) (p := 69) rfl).2]; rfl)).trans h21
                have h95 : sf_rd hp90 69 38 = some (0 : Int) := (fhp90.2.2.1 _ (bs_R.uq Hhp17 (g := 11) (p := 69) rfl).1 _ (by rw [(bs_R.uq Hhp17 (g := 11) (p := 69) rfl).2]; rfl)).trans h22
                have h96 : sf_rd hp90 69 37 = some z37.toInt := (fhp90.2.2.1 _ (bs_R.uq Hhp17 (g := 11) (p := 69) rfl).1 _ (by rw [(bs_R.uq Hhp17 (g := 11) (p := 69) rfl).2]; rfl)).trans hz37
                obtain ⟨uz91, vz91⟩ := bs_s1 (x := z91.toInt) rfl (php90 _ (List.mem_of_getElem? (i := 0) rfl))
                refine (show Ev _ 61 ([some (.ref 69), some (.int z3), some (.int z11), some (.int z18), none], [.int z91], (0, 0), hp90) _ from ?_)
                exact bs_zret rfl rfl (by omega) (by omega) (by rw [hQ]; exact ⟨thp90, Hhp90, Fhp90, bs_an0, sf_S_cons (sf_s1 (x := z91.toInt) rfl (by omega) (by omega)) (sf_S_nil), (fun c o p h hr => by have e : z91.toInt = 1 := congrArg Int32.toInt (Value.int.inj (Option.some.inj hr)); omega)⟩)
        · skip
          have c97 : z3.toInt = 0 := by omega
          refine Ev.step (j := 25) (s' := ([some (.ref 69), some (.int z3), some (.int z11), some (.int z18), none], [.int z11], (0, 0), hp17)) rfl rfl ?_
          exact by
           refine bs_ifne rfl (fun c98 => ?_) (fun c98 => ?_)
           · skip
             refine Ev.step (j := 39) (s' := ([some (.ref 69), some (.int z3), some (.int z11), some (.int z18), none], [.ref 69], (0, 0), hp17)) rfl rfl ?_
             refine bs_getI 11 rfl rfl rfl Hhp17 (bs_R.uq Hhp17 (g := 11) rfl) (by decide) rfl fun z99 hz99 lz99 gz99 => ?_
             have e100 : z99.toInt = O := Option.some.inj (hz99.symm.trans h20)
             refine bs_lit (k := 20) rfl rfl fun z101 hz101 => ?_
             refine bs_eq rfl (fun c102 => ?_) (fun c102 => ?_)
             · skip
               have c103 : z99.toInt = 20 := by omega
               refine Ev.step (j := 57) (s' := ([some (.ref 69), some (.int z3), some (.int z11), some (.int z18), none], [.ref 69], (0, 0), hp17)) rfl rfl ?_
               exact by
                refine bs_lit (k := 4) rfl rfl fun z104 hz104 => ?_
                refine bs_call (K := kq_X11_bad_3d45d6) [.ref 69, .int z104] [] rfl ct_X11_bad_3d45d6 Hhp17 rfl rfl rfl (bs_rcv (g := 11) Hhp17 (bs_R.uq Hhp17 (g := 11) rfl) (by decide) rfl) rfl ?_ (sf_S_nil) fun r105 hp106 thp106 Hhp106 fhp106 ahp106 php106 => ?_
                · intro q k h
                  match q, h with
                  | 0, h => cases h; exact bs_jR (bs_R.uq Hhp17 (g := 11) rfl)
                  | 1, h => cases h; exact sf_j0
                  | q + 2, h => cases h
                obtain ⟨z107, rfl⟩ := bs_anI ahp106
                have rgz107 := n_range z107
                have Fhp106 := sf_fr_tr Fhp17 (sf_fr_wider (W := [(11, 4, 4), (11, 11, 18), (11, 34, 38), (134, 0, 159), (143, 0, 44)]) rfl fhp106)
                have h108 : sf_rd hp106 69 34 = some C := (fhp106.2.2.1 _ (bs_R.uq Hhp17 (g := 11) (p := 69) rfl).1 _ (by rw [(bs_R.uq Hhp17 (g := 11) (p := 69) rfl).2]; rfl)).trans h19
                have h109 : sf_rd hp106 69 35 = some O := (fhp106.2.2.1 _ (bs_R.uq Hhp17 (g := 11) (p := 69) rfl).1 _ (by rw [(bs_R.uq Hhp17 (g := 11) (p := 69) rfl).2]; rfl)).trans h20
                have h110 : sf_rd hp106 69 36 = some P := (fhp106.2.2.1 _ (bs_R.uq Hhp17 (g := 11) (p := 69) rfl).1 _ (by rw [(bs_R.uq Hhp17 (g := 11) (p := 69) rfl).2]; rfl)).trans h21
                have h111 : sf_rd hp106 69 38 = some (0 : Int) := (fhp106.2.2.1 _ (bs_R.uq Hhp17 (g := 11) (p := 69) rfl).1 _ (by rw [(bs_R.uq Hhp17 (g := 11) (p := 69) rfl).2]; rfl)).trans h22
                obtain ⟨uz107, vz107⟩ := bs_s1 (x := z107.toInt) rfl (php106 _ (List.mem_of_getElem? (i := 0) rfl))
                refine (show Ev _ 61 ([some (.ref 69), some (.int z3), some (.int z11), some (.int z18), none], [.int z107], (0, 0), hp106) _ from ?_)
                exact bs_zret rfl rfl (by omega) (by omega) (by rw [hQ]; exact ⟨thp106, Hhp106, Fhp106, bs_an0, sf_S_cons (sf_s1 (x := z107.toInt) rfl (by omega) (by omega)) (sf_S_nil), (fun c o p h hr => by have e : z107.toInt = 1 := congrArg Int32.toInt (Value.int.inj (Option.some.inj hr)); omega)⟩)
             · skip
               refine Ev.step (j := 48) (s' := ([some (.ref 69), some (.int z3), some (.int z11), some (.int z18), none], [.ref 69], (0, 0), hp17)) rfl rfl ?_
               exact by
                refine bs_getI 11 rfl rfl rfl Hhp17 (bs_R.uq Hhp17 (g := 11) rfl) (by decide) rfl fun z112 hz112 lz112 gz112 => ?_
                refine bs_lit (k := 8) rfl rfl fun z113 hz113 => ?_
                refine bs_le rfl (fun c114 => ?_) (fun c114 => ?_)
                · skip
                  refine Ev.step (j := 63) (s' := ([some (.ref 69), some (.int z3), some (.int z11), some (.int z18), none], [.ref 69], (0, 0), hp17)) rfl rfl ?_
                  refine Ev.step (j := 64) (s' := ([some (.ref 69), some (.int z3), some (.int z11), some (.int z18), none], [.ref 69, .ref 69], (0, 0), hp17)) rfl rfl ?_
                  refine bs_getI 11 rfl rfl rfl Hhp17 (bs_R.uq Hhp17 (g := 11) rfl) (by decide) rfl fun z115 hz115 lz115 gz115 => ?_
                  have e116 : z115.toInt = O := Option.some.inj (hz115.symm.trans h20)
                  refine bs_lit (k := 1) rfl rfl fun z117 hz117 => ?_
                  first | (refine bs_add rfl (by omega) (by omega) fun z118 hz118 => ?_) | (refine bs_any rfl fun z118 => ?_)
                  have rz118 := n_range z118
                  refine bs_putI (W := [(11, 35, 35)]) (g := 11) rfl rfl Hhp17 (bs_R.uq Hhp17 (g := 11) rfl) (by decide) rfl rfl rfl rfl (Or.inl rfl) (by omega) (by omega) fun hp119 Hhp119 fhp119 rhp119 ehp119 qhp119 nhp119 => ?_
                  have Fhp119 := sf_fr_tr Fhp17 (sf_fr_wider (W := [(11, 4, 4), (11, 11, 18), (11, 34, 38), (134, 0, 159), (143, 0, 44)]) rfl fhp119)
                  have h120 : sf_rd hp119 69 34 = some C := (ehp119 _ _ (Or.inr (by omega))).trans h19
                  have h121 : sf_rd hp119 69 36 = some P := (ehp119 _ _ (Or.inr (by omega))).trans h21
                  have h122 : sf_rd hp119 69 38 = some (0 : Int) := (ehp119 _ _ (Or.inr (by omega))).trans h22
                  have h123 : sf_rd hp119 69 37 = some z112.toInt := (ehp119 _ _ (Or.inr (by omega))).trans hz112
                  refine Ev.step (j := 73) (s' := ([some (.ref 69), some (.int z3), some (.int z11), some (.int z18), none], [.ref 69], (0, 0), hp119)) rfl rfl ?_
                  exact by
                   refine bs_call (K := kq_X11_next_h) [.ref 69] [] rfl ct_X11_next_h Hhp119 rfl rfl rfl (bs_rcv (g := 11) Hhp119 (bs_R.uq Hhp119 (g := 11) rfl) (by decide) rfl) rfl ?_ (sf_S_nil) fun r124 hp125 thp125 Hhp125 fhp125 ahp125 php125 => ?_
                   · intro q k h
                     match q, h with
                     | 0, h => cases h; exact bs_jR (bs_R.uq Hhp119 (g := 11) rfl)
                     | q + 1, h => cases h
                   obtain rfl := ahp125.1 rfl
                   have Fhp125 := sf_fr_tr Fhp119 (sf_fr_wider (W := [(11, 4, 4), (11, 11, 18), (11, 34, 38), (134, 0, 159), (143, 0, 44)]) rfl fhp125)
                   have h126 : sf_rd hp125 69 34 = some C := (fhp125.2.2.1 _ (bs_R.uq Hhp119 (g := 11) (p := 69) rfl).1 _ (by rw [(bs_R.uq Hhp119 (g := 11) (p := 69) rfl).2]; rfl)).trans h120
                   have h127 : sf_rd hp125 69 36 = some P := (fhp125.2.2.1 _ (bs_R.uq Hhp119 (g := 11) (p := 69) rfl).1 _ (by rw [(bs_R.uq Hhp119 (g := 11) (p := 69) rfl).2]; rfl)).trans h121
                   have h128 : sf_rd hp125 69 38 = some (0 : Int) := (fhp125.2.2.1 _ (bs_R.uq Hhp119 (g := 11) (p := 69) rfl).1 _ (by rw [(bs_R.uq Hhp119 (g := 11) (p := 69) rfl).2]; rfl)).trans h122
                   have h129 : sf_rd hp125 69 37 = some z112.toInt := (fhp125.2.2.1 _ (bs_R.uq Hhp119 (g := 11) (p := 69) rfl).1 _ (by rw [(bs_R.uq Hhp119 (g := 11) (p := 69) rfl).2]; rfl)).trans h123
                   have h130 : sf_rd hp125 69 35 = some z118.toInt := (fhp125.2.2.1 _ (bs_R.uq Hhp119 (g := 11) (p := 69) rfl).1 _ (by rw [(bs_R.uq Hhp119 (g := 11) (p := 69) rfl).2]; rfl)).trans rhp119
                   refine (show Ev _ 76 ([some (.ref 69), some (.int z3), some (.int z11), some (.int z18), none], [], (0, 0), hp125) _ from ?_)
                   exact by
                    refine Ev.step (j := 77) (s' := ([some (.ref 69), some (.int z3), some (.int z11), some (.int z18), none], [.int z3], (0, 0), hp125)) rfl rfl ?_
                    refine bs_ifne rfl (fun c131 => ?_) (fun c131 => ?_)
                    · exfalso; omega
                    · skip
                      refine Ev.step (j := 81) (s' := ([some (.ref 69), some (.int z3), some (.int z11), some (.int z18), none], [.int z11], (0, 0), hp125)) rfl rfl ?_
                      refine bs_ifeq rfl (fun c132 => ?_) (fun c132 => ?_)
                      · exfalso; omega
                      · skip
                        refine Ev.step (j := 85) (s' := ([some (.ref 69), some (.int z3), some (.int z11), some (.int z18), none], [.ref 69], (0, 0), hp125)) rfl rfl ?_
                        refine bs_getU (g := 11) (g1 := 143) rfl rfl Hhp125 (bs_R.uq Hhp125 (g := 11) rfl) (by decide) rfl rfl ?_
                        refine Ev.step (j := 89) (s' := ([some (.ref 69), some (.int z3), some (.int z11), some (.int z18), none], [.ref 69, .ref 82], (0, 0), hp125)) rfl rfl ?_
                        refine bs_getI 11 rfl rfl rfl Hhp125 (bs_R.uq Hhp125 (g := 11) rfl) (by decide) rfl fun z133 hz133 lz133 gz133 => ?_
                        have e134 : z133.toInt = P := Option.some.inj (hz133.symm.trans h127)
                        refine Ev.step (j := 93) (s' := ([some (.ref 69), some (.int z3), some (.int z11), some (.int z18), none], [.int z3, .int z133, .ref 82], (0, 0), hp125)) rfl rfl ?_
                        exact by
                         refine bs_ifeq rfl (fun c135 => ?_) (fun c135 => ?_)
                         · skip
                           refine bs_lit (k := 23) rfl rfl fun z136 hz136 => ?_
                           refine bs_st (W := [(143, 0, 44)]) (g := 143) 0 44 (-2147483648, 2147483647) rfl Hhp125 (bs_R.uq Hhp125 (g := 143) rfl) (by decide) rfl rfl (by decide) rfl rfl (by omega) (by omega) (by dsimp only; omega) (by dsimp only; omega) fun hp137 Hhp137 fhp137 rhp137 ehp137 qhp137 nhp137 => ?_
                           have Fhp137 := sf_fr_tr Fhp125 (sf_fr_wider (W := [(11, 4, 4), (11, 11, 18), (11, 34, 38), (134, 0, 159), (143, 0, 44)]) rfl fhp137)
                           have h138 : sf_rd hp137 69 34 = some C := (ehp137 _ _ (Or.inl (by decide))).trans h126
                           have h139 : sf_rd hp137 69 36 = some P := (ehp137 _ _ (Or.inl (by decide))).trans h127
                           have h140 : sf_rd hp137 69 38 = some (0 : Int) := (ehp137 _ _ (Or.inl (by decide))).trans h128
                           have h141 : sf_rd hp137 69 37 = some z112.toInt := (ehp137 _ _ (Or.inl (by decide))).trans h129
                           have h142 : sf_rd hp137 69 35 = some z118.toInt := (ehp137 _ _ (Or.inl (by decide))).trans h130
                           refine Ev.step (j := 105) (s' := ([some (.ref 69), some (.int z3), some (.int z11), some (.int z18), none], [.ref 69], (0, 0), hp137)) rfl rfl ?_
                           exact by
                            refine Ev.step (j := 106) (s' := ([some (.ref 69), some (.int z3), some (.int z11), some (.int z18), none], [.ref 69, .ref 69], (0, 0), hp137)) rfl rfl ?_
                            refine bs_getI 11 rfl rfl rfl Hhp137 (bs_R.uq Hhp137 (g := 11) rfl) (by decide) rfl fun z143 hz143 lz143 gz143 => ?_
                            have e144 : z143.toInt = P := Option.some.inj (hz143.symm.trans h139)
                            refine bs_lit (k := 1) rfl rfl fun z145 hz145 => ?_
                            first | (refine bs_add rfl (by omega) (by omega) fun z146 hz146 => ?_) | (refine bs_any rfl fun z146 => ?_)
                            have rz146 := n_range z146
                            refine bs_putI (W := [(11, 36, 36)]) (g := 11) rfl rfl Hhp137 (bs_R.uq Hhp137 (g := 11) rfl) (by decide) rfl rfl rfl rfl (Or.inl rfl) (by omega) (by omega) fun hp147 Hhp147 fhp147 rhp147 ehp147 qhp147 nhp147 => ?_
                            have Fhp147 := sf_fr_tr Fhp137 (sf_fr_wider (W := [(11, 4, 4), (11, 11, 18), (11, 34, 38), (134, 0, 159), (143, 0, 44)]) rfl fhp147)
                            have h148 : sf_rd hp147 69 34 = some C := (ehp147 _ _ (Or.inr (by omega))).trans h138
                            have h149 : sf_rd hp147 69 38 = some (0 : Int) := (ehp147 _ _ (Or.inr (by omega))).trans h140
                            have h150 : sf_rd hp147 69 37 = some z112.toInt := (ehp147 _ _ (Or.inr (by omega))).trans h141
                            have h151 : sf_rd hp147 69 35 = some z118.toInt := (ehp147 _ _ (Or.inr (by omega))).trans h142
                            have h152 : sf_rd hp147 82 z133.toInt.toNat = some z136.toInt := (ehp147 _ _ (Or.inl (by decide))).trans rhp137
                            refine Ev.step (j := 115) (s' := ([some (.ref 69), some (.int z3), some (.int z11), some (.int z18), none], [.ref 69], (0, 0), hp147)) rfl rfl ?_
                            exact by
                             refine Ev.step (j := 116) (s' := ([some (.ref 69), some (.int z3), some (.int z11), some (.int z18), none], [.ref 69, .ref 69], (0, 0), hp147)) rfl rfl ?_
                             refine bs_getI 11 rfl rfl rfl Hhp147 (bs_R.uq Hhp147 (g := 11) rfl) (by decide) rfl fun z153 hz153 lz153 gz153 => ?_
                             have e154 : z153.toInt = z112.toInt := Option.some.inj (hz153.symm.trans h150)
                             refine bs_lit (k := 1) rfl rfl fun z155 hz155 => ?_
                             first | (refine bs_add rfl (by omega) (by omega) fun z156 hz156 => ?_) | (refine bs_any rfl fun z156 => ?_)
                             have rz156 := n_range z156
                             refine bs_putI (W := [(11, 37, 37)]) (g := 11) rfl rfl Hhp147 (bs_R.uq Hhp147 (g := 11) rfl) (by decide) rfl rfl rfl rfl (Or.inl rfl) (by omega) (by omega) fun hp157 Hhp157 fhp157 rhp157 ehp157 qhp157 nhp157 => ?_
                             have Fhp157 := sf_fr_tr Fhp147 (sf_fr_wider (W := [(11, 4, 4), (11, 11, 18), (11, 34, 38), (134, 0, 159), (143, 0, 44)]) rfl fhp157)
                             have h158 : sf_rd hp157 69 34 = some C := (ehp157 _ _ (Or.inr (by omega))).trans h148
                             have h159 : sf_rd hp157 69 38 = some (0 : Int) := (ehp157 _ _ (Or.inr (by omega))).trans h149
                             have h160 : sf_rd hp157 69 35 = some z118.toInt := (ehp157 _ _ (Or.inr (by omega))).trans h151
                             have h161 : sf_rd hp157 82 z133.toInt.toNat = some z136.toInt := (ehp157 _ _ (Or.inl (by decide))).trans h152
                             have h162 : sf_rd hp157 69 36 = some z146.toInt := (ehp157 _ _ (Or.inr (by omega))).trans rhp147
                             refine bs_lit (k := 1) rfl rfl fun z163 hz163 => ?_
                             exact bs_zret rfl rfl (by omega) (by omega) (by rw [hQ]; exact ⟨thp125, Hhp157, Fhp157, bs_an0, sf_S_cons (sf_s1 (x := z163.toInt) rfl (by omega) (by omega)) (sf_S_nil), (fun c o p h hr => by have eo : o = O := Option.some.inj (h.2.1.symm.trans hG1.2.1); have ep : p = P := Option.some.inj (h.2.2.1.symm.trans hG1.2.2.1); subst eo ep; exact ⟨_, _, _, se_push hG1 h158 h160 (by omega) (by omega) h162 (by omega) h159 ((((ehp157 _ _ (Or.inl (by decide))).trans (ehp147 _ _ (Or.inl (by decide))))).trans (bs_at rhp137 (by omega))) (by omega) (fun q => ((ehp157 _ _ (Or.inl (by decide))).trans ((ehp147 _ _ (Or.inl (by decide))).trans ((ehp137 _ _ (Or.inl (by decide))).trans ((fhp125.2.2.1 _ (bs_R.uq Hhp119 (g := 134) (p := 73) rfl).1 _ (by rw [(bs_R.uq Hhp119 (g := 134) (p := 73) rfl).2]; rfl)).trans ((ehp119 _ _ (Or.inl (by decide))).trans ((fhp17.2.2.1 _ (bs_R.uq Hhp10 (g := 134) (p := 73) rfl).1 _ (by rw [(bs_R.uq Hhp10 (g := 134) (p := 73) rfl).2]; rfl)).trans ((fhp10.2.2.1 _ (bs_R.uq Hhp2 (g := 134) (p := 73) rfl).1 _ (by rw [(bs_R.uq Hhp2 (g := 134) (p := 73) rfl).2]; rfl)).trans (fhp2.2.2.1 _ (bs_R.uq H (g := 134) (p := 73) rfl).1 _ (by rw [(bs_R.uq H (g := 134) (p := 73) rfl).2]; rfl)))))))))) (fun q hq => ((ehp157 _ _ (Or.inl (by decide))).trans ((ehp147 _ _ (Or.inl (by decide))).trans ((ehp137 _ _ (Or.inr (by omega))).trans ((fhp125.2.2.1 _ (bs_R.uq Hhp119 (g := 143) (p := 82) rfl).1 _ (by rw [(bs_R.uq Hhp119 (g := 143) (p := 82) rfl).2]; rfl)).trans ((ehp119 _ _ (Or.inl (by decide))).trans ((fhp17.2.2.1 _ (bs_R.uq Hhp10 (g := 143) (p := 82) rfl).1 _ (by rw [(bs_R.uq Hhp10 (g := 143) (p := 82) rfl).2]; rfl)).trans ((fhp10.2.2.1 _ (bs_R.uq Hhp2 (g := 143) (p := 82) rfl).1 _ (by rw [(bs_R.uq Hhp2 (g := 143) (p := 82) rfl).2]; rfl)).trans (fhp2.2.2.1 _ (bs_R.uq H (g := 143) (p := 82) rfl).1 _ (by rw [(bs_R.uq H (g := 143) (p := 82) rfl).2]; rfl)))))))))), by omega⟩)⟩)
                         · exfalso; omega
                · skip
                  refine Ev.step (j := 57) (s' := ([some (.ref 69), some (.int z3), some (.int z11), some (.int z18), none], [.ref 69], (0, 0), hp17)) rfl rfl ?_
                  exact by
                   refine bs_lit (k := 4) rfl rfl fun z164 hz164 => ?_
                   refine bs_call (K := kq_X11_bad_3d45d6) [.ref 69, .int z164] [] rfl ct_X11_bad_3d45d6 Hhp17 rfl rfl rfl (bs_rcv (g := 11) Hhp17 (bs_R.uq Hhp17 (g := 11) rfl) (by decide) rfl) rfl ?_ (sf_S_nil) fun r165 hp166 thp166 Hhp166 fhp166 ahp166 php166 => ?_
                   · intro q k h
                     match q, h with
                     | 0, h => cases h; exact bs_jR (bs_R.uq Hhp17 (g := 11) rfl)
                     | 1, h => cases h; exact sf_j0
                     | q + 2, h => cases h
                   obtain ⟨z167, rfl⟩ := bs_anI ahp166
                   have rgz167 := n_range z167
                   have Fhp166 := sf_fr_tr Fhp17 (sf_fr_wider (W := [(11, 4, 4), (11, 11, 18), (11, 34, 38), (134, 0, 159), (143, 0, 44)]) rfl fhp166)
                   have h168 : sf_rd hp166 69 34 = some C := (fhp166.2.2.1 _ (bs_R.uq Hhp17 (g := 11) (p := 69) rfl).1 _ (by rw [(bs_R.uq Hhp17 (g := 11) (p := 69) rfl).2]; rfl)).trans h19
                   have h169 : sf_rd hp166 69 35 = some O := (fhp166.2.2.1 _ (bs_R.uq Hhp17 (g := 11) (p := 69) rfl).1 _ (by rw [(bs_R.uq Hhp17 (g := 11) (p := 69) rfl).2]; rfl)).trans h20
                   have h170 : sf_rd hp166 69 36 = some P := (fhp166.2.2.1 _ (bs_R.uq Hhp17 (g := 11) (p := 69) rfl).1 _ (by rw [(bs_R.uq Hhp17 (g := 11) (p := 69) rfl).2]; rfl)).trans h21
                   have h171 : sf_rd hp166 69 38 = some (0 : Int) := (fhp166.2.2.1 _ (bs_R.uq Hhp17 (g := 11) (p := 69) rfl).1 _ (by rw [(bs_R.uq Hhp17 (g := 11) (p := 69) rfl).2]; rfl)).trans h22
                   have h172 : sf_rd hp166 69 37 = some z112.toInt := (fhp166.2.2.1 _ (bs_R.uq Hhp17 (g := 11) (p := 69) rfl).1 _ (by rw [(bs_R.uq Hhp17 (g := 11) (p := 69) rfl).2]; rfl)).trans hz112
                   obtain ⟨uz167, vz167⟩ := bs_s1 (x := z167.toInt) rfl (php166 _ (List.mem_of_getElem? (i := 0) rfl))
                   refine (show Ev _ 61 ([some (.ref 69), some (.int z3), some (.int z11), some (.int z18), none], [.int z167], (0, 0), hp166) _ from ?_)
                   exact bs_zret rfl rfl (by omega) (by omega) (by rw [hQ]; exact ⟨thp166, Hhp166, Fhp166, bs_an0, sf_S_cons (sf_s1 (x := z167.toInt) rfl (by omega) (by omega)) (sf_S_nil), (fun c o p h hr => by have e : z167.toInt = 1 := congrArg Int32.toInt (Value.int.inj (Option.some.inj hr)); omega)⟩)
           · skip
             have c173 : z11.toInt = 0 := by omega
             refine Ev.step (j := 29) (s' := ([some (.ref 69), some (.int z3), some (.int z11), some (.int z18), none], [.int z18], (0, 0), hp17)) rfl rfl ?_
             exact by
              refine bs_ifge rfl (fun c174 => ?_) (fun c174 => ?_)
              · skip
                refine Ev.step (j := 39) (s' := ([some (.ref 69), some (.int z3), some (.int z11), some (.int z18), none], [.ref 69], (0, 0), hp17)) rfl rfl ?_
                refine bs_getI 11 rfl rfl rfl Hhp17 (bs_R.uq Hhp17 (g := 11) rfl) (by decide) rfl fun z175 hz175 lz175 gz175 => ?_
                have e176 : z175.toInt = O := Option.some.inj (hz175.symm.trans h20)
                refine bs_lit (k := 20) rfl rfl fun z177 hz177 => ?_
                refine bs_eq rfl (fun c178 => ?_) (fun c178 => ?_)
                · skip
                  have c179 : z175.toInt = 20 := by omega
                  refine Ev.step (j := 57) (s' := ([some (.ref 69), some (.int z3), some (.int z11), some (.int z18), none], [.ref 69], (0, 0), hp17)) rfl rfl ?_
                  exact by
                   refine bs_lit (k := 4) rfl rfl fun z180 hz180 => ?_
                   refine bs_call (K := kq_X11_bad_3d45d6) [.ref 69, .int z180] [] rfl ct_X11_bad_3d45d6 Hhp17 rfl rfl rfl (bs_rcv (g := 11) Hhp17 (bs_R.uq Hhp17 (g := 11) rfl) (by decide) rfl) rfl ?_ (sf_S_nil) fun r181 hp182 thp182 Hhp182 fhp182 ahp182 php182 => ?_
                   · intro q k h
                     match q, h with
                     | 0, h => cases h; exact bs_jR (bs_R.uq Hhp17 (g := 11) rfl)
                     | 1, h => cases h; exact sf_j0
                     | q + 2, h => cases h
                   obtain ⟨z183, rfl⟩ := bs_anI ahp182
                   have rgz183 := n_range z183
                   have Fhp182 := sf_fr_tr Fhp17 (sf_fr_wider (W := [(11, 4, 4), (11, 11, 18), (11, 34, 38), (134, 0, 159), (143, 0, 44)]) rfl fhp182)
                   have h184 : sf_rd hp182 69 34 = some C := (fhp182.2.2.1 _ (bs_R.uq Hhp17 (g := 11) (p := 69) rfl).1 _ (by rw [(bs_R.uq Hhp17 (g := 11) (p := 69) rfl).2]; rfl)).trans h19
                   have h185 : sf_rd hp182 69 35 = some O := (fhp182.2.2.1 _ (bs_R.uq Hhp17 (g := 11) (p := 69) rfl).1 _ (by rw [(bs_R.uq Hhp17 (g := 11) (p := 69) rfl).2]; rfl)).trans h20
                   have h186 : sf_rd hp182 69 36 = some P := (fhp182.2.2.1 _ (bs_R.uq Hhp17 (g := 11) (p := 69) rfl).1 _ (by rw [(bs_R.uq Hhp17 (g := 11) (p := 69) rfl).2]; rfl)).trans h21
                   have h187 : sf_rd hp182 69 38 = some (0 : Int) := (fhp182.2.2.1 _ (bs_R.uq Hhp17 (g := 11) (p := 69) rfl).1 _ (by rw [(bs_R.uq Hhp17 (g := 11) (p := 69) rfl).2]; rfl)).trans h22
                   obtain ⟨uz183, vz183⟩ := bs_s1 (x := z183.toInt) rfl (php182 _ (List.mem_of_getElem? (i := 0) rfl))
                   refine (show Ev _ 61 ([some (.ref 69), some (.int z3), some (.int z11), some (.int z18), none], [.int z183], (0, 0), hp182) _ from ?_)
                   exact bs_zret rfl rfl (by omega) (by omega) (by rw [hQ]; exact ⟨thp182, Hhp182, Fhp182, bs_an0, sf_S_cons (sf_s1 (x := z183.toInt) rfl (by omega) (by omega)) (sf_S_nil), (fun c o p h hr => by have e : z183.toInt = 1 := congrArg Int32.toInt (Value.int.inj (Option.some.inj hr)); omega)⟩)
                · skip
                  refine Ev.step (j := 48) (s' := ([some (.ref 69), some (.int z3), some (.int z11), some (.int z18), none], [.ref 69], (0, 0), hp17)) rfl rfl ?_
                  exact by
                   refine bs_getI 11 rfl rfl rfl Hhp17 (bs_R.uq Hhp17 (g := 11) rfl) (by decide) rfl fun z188 hz188 lz188 gz188 => ?_
                   refine bs_lit (k := 8) rfl rfl fun z189 hz189 => ?_
                   refine bs_le rfl (fun c190 => ?_) (fun c190 => ?_)
                   · skip
                     refine Ev.step (j := 63) (s' := ([some (.ref 69), some (.int z3), some (.int z11), some (.int z18), none], [.ref 69], (0, 0), hp17)) rfl rfl ?_
                     refine Ev.step (j := 64) (s' := ([some (.ref 69), some (.int z3), some (.int z11), some (.int z18), none], [.ref 69, .ref 69], (0, 0), hp17)) rfl rfl ?_
                     refine bs_getI 11 rfl rfl rfl Hhp17 (bs_R.uq Hhp17 (g := 11) rfl) (by decide) rfl fun z191 hz191 lz191 gz191 => ?_
                     have e192 : z191.toInt = O := Option.some.inj (hz191.symm.trans h20)
                     refine bs_lit (k := 1) rfl rfl fun z193 hz193 => ?_
                     first | (refine bs_add rfl (by omega) (by omega) fun z194 hz194 => ?_) | (refine bs_any rfl fun z194 => ?_)
                     have rz194 := n_range z194
                     refine bs_putI (W := [(11, 35, 35)]) (g := 11) rfl rfl Hhp17 (bs_R.uq Hhp17 (g := 11) rfl) (by decide) rfl rfl rfl rfl (Or.inl rfl) (by omega) (by omega) fun hp195 Hhp195 fhp195 rhp195 ehp195 qhp195 nhp195 => ?_
                     have Fhp195 := sf_fr_tr Fhp17 (sf_fr_wider (W := [(11, 4, 4), (11, 11, 18), (11, 34, 38), (134, 0, 159), (143, 0, 44)]) rfl fhp195)
                     have h196 : sf_rd hp195 69 34 = some C := (ehp195 _ _ (Or.inr (by omega))).trans h19
                     have h197 : sf_rd hp195 69 36 = some P := (ehp195 _ _ (Or.inr (by omega))).trans h21
                     have h198 : sf_rd hp195 69 38 = some (0 : Int) := (ehp195 _ _ (Or.inr (by omega))).trans h22
                     have h199 : sf_rd hp195 69 37 = some z188.toInt := (ehp195 _ _ (Or.inr (by omega))).trans hz188
                     refine Ev.step (j := 73) (s' := ([some (.ref 69), some (.int z3), some (.int z11), some (.int z18), none], [.ref 69], (0, 0), hp195)) rfl rfl ?_
                     exact by
                      refine bs_call (K := kq_X11_next_h) [.ref 69] [] rfl ct_X11_next_h Hhp195 rfl rfl rfl (bs_rcv (g := 11) Hhp195 (bs_R.uq Hhp195 (g := 11) rfl) (by decide) rfl) rfl ?_ (sf_S_nil) fun r200 hp201 thp201 Hhp201 fhp201 ahp201 php201 => ?_
                      · intro q k h
                        match q, h with
                        | 0, h => cases h; exact bs_jR (bs_R.uq Hhp195 (g := 11) rfl)
                        | q + 1, h => cases h
                      obtain rfl := ahp201.1 rfl
                      have Fhp201 := sf_fr_tr Fhp195 (sf_fr_wider (W := [(11, 4, 4), (11, 11, 18), (11, 34, 38), (134, 0, 159), (143, 0, 44)]) rfl fhp201)
                      have h202 : sf_rd hp201 69 34 = some C := (fhp201.2.2.1 _ (bs_R.uq Hhp195 (g := 11) (p := 69) rfl).1 _ (by rw [(bs_R.uq Hhp195 (g := 11) (p := 69) rfl).2]; rfl)).trans h196
                      have h203 : sf_rd hp201 69 36 = some P := (fhp201.2.2.1 _ (bs_R.uq Hhp195 (g := 11) (p := 69) rfl).1 _ (by rw [(bs_R.uq Hhp195 (g := 11) (p := 69) rfl).2]; rfl)).trans h197
                      have h204 : sf_rd hp201 69 38 = some (0 : Int) := (fhp201.2.2.1 _ (bs_R.uq Hhp195 (g := 11) (p := 69) rfl).1 _ (by rw [(bs_R.uq Hhp195 (g := 11) (p := 69) rfl).2]; rfl)).trans h198
                      have h205 : sf_rd hp201 69 37 = some z188.toInt := (fhp201.2.2.1 _ (bs_R.uq Hhp195 (g := 11) (p := 69) rfl).1 _ (by rw [(bs_R.uq Hhp195 (g := 11) (p := 69) rfl).2]; rfl)).trans h199
                      have h206 : sf_rd hp201 69 35 = some z194.toInt := (fhp201.2.2.1 _ (bs_R.uq Hhp195 (g := 11) (p := 69) rfl).1 _ (by rw [(bs_R.uq Hhp195 (g := 11) (p := 69) rfl).2]; rfl)).trans rhp195
                      refine (show Ev _ 76 ([some (.ref 69), some (.int z3), some (.int z11), some (.int z18), none], [], (0, 0), hp201) _ from ?_)
                      exact by
                       refine Ev.step (j := 77) (s' := ([some (.ref 69), some (.int z3), some (.int z11), some (.int z18), none], [.int z3], (0, 0), hp201)) rfl rfl ?_
                       refine bs_ifne rfl (fun c207 => ?_) (fun c207 => ?_)
                       · exfalso; omega
                       · skip
                         refine Ev.step (j := 81) (s' := ([some (.ref 69), some (.int z3), some (.int z11), some (.int z18), none], [.int z11], (0, 0), hp201)) rfl rfl ?_
                         refine bs_ifeq rfl (fun c208 => ?_) (fun c208 => ?_)
                         · skip
                           refine Ev.step (j := 127) (s' := ([some (.ref 69), some (.int z3), some (.int z11), some (.int z18), none], [.ref 69], (0, 0), hp201)) rfl rfl ?_
                           refine bs_lit (k := 1) rfl rfl fun z209 hz209 => ?_
                           refine bs_putI (W := [(11, 38, 38)]) (g := 11) rfl rfl Hhp201 (bs_R.uq Hhp201 (g := 11) rfl) (by decide) rfl rfl rfl rfl (Or.inr ⟨rfl, by omega, by omega⟩) (by omega) (by omega) fun hp210 Hhp210 fhp210 rhp210 ehp210 qhp210 nhp210 => ?_
                           have Fhp210 := sf_fr_tr Fhp201 (sf_fr_wider (W := [(11, 4, 4), (11, 11, 18), (11, 34, 38), (134, 0, 159), (143, 0, 44)]) rfl fhp210)
                           have h211 : sf_rd hp210 69 34 = some C := (ehp210 _ _ (Or.inr (by omega))).trans h202
                           have h212 : sf_rd hp210 69 36 = some P := (ehp210 _ _ (Or.inr (by omega))).trans h203
                           have h213 : sf_rd hp210 69 37 = some z188.toInt := (ehp210 _ _ (Or.inr (by omega))).trans h205
                           have h214 : sf_rd hp210 69 35 = some z194.toInt := (ehp210 _ _ (Or.inr (by omega))).trans h206
                           refine Ev.step (j := 132) (s' := ([some (.ref 69), some (.int z3), some (.int z11), some (.int z18), none], [.int z18], (0, 0), hp210)) rfl rfl ?_
                           exact by
                            refine bs_lit (k := 5) rfl rfl fun z215 hz215 => ?_
                            refine bs_ge rfl (fun c216 => ?_) (fun c216 => ?_)
                            · skip
                              refine Ev.step (j := 160) (s' := ([some (.ref 69), some (.int z3), some (.int z11), some (.int z18), none], [.ref 69], (0, 0), hp210)) rfl rfl ?_
                              refine bs_getI 11 rfl rfl rfl Hhp210 (bs_R.uq Hhp210 (g := 11) rfl) (by decide) rfl fun z217 hz217 lz217 gz217 => ?_
                              refine bs_lit (k := 3) rfl rfl fun z218 hz218 => ?_
                              refine bs_ne rfl (fun c219 => ?_) (fun c219 => ?_)
                              · skip
                                refine Ev.step (j := 186) (s' := ([some (.ref 69), some (.int z3), some (.int z11), some (.int z18), none], [.ref 69], (0, 0), hp210)) rfl rfl ?_
                                refine bs_lit (k := 1) rfl rfl fun z220 hz220 => ?_
                                exact by
                                 refine bs_call (K := kq_X11_bad_3d45d6) [.ref 69, .int z220] [] rfl ct_X11_bad_3d45d6 Hhp210 rfl rfl rfl (bs_rcv (g := 11) Hhp210 (bs_R.uq Hhp210 (g := 11) rfl) (by decide) rfl) rfl ?_ (sf_S_nil) fun r221 hp222 thp222 Hhp222 fhp222 ahp222 php222 => ?_
                                 · intro q k h
                                   match q, h with
                                   | 0, h => cases h; exact bs_jR (bs_R.uq Hhp210 (g := 11) rfl)
                                   | 1, h => cases h; exact sf_j0
                                   | q + 2, h => cases h
                                 obtain ⟨z223, rfl⟩ := bs_anI ahp222
                                 have rgz223 := n_range z223
                                 have Fhp222 := sf_fr_tr Fhp210 (sf_fr_wider (W := [(11, 4, 4), (11, 11, 18), (11, 34, 38), (134, 0, 159), (143, 0, 44)]) rfl fhp222)
                                 have h224 : sf_rd hp222 69 34 = some C := (fhp222.2.2.1 _ (bs_R.uq Hhp210 (g := 11) (p := 69) rfl).1 _ (by rw [(bs_R.uq Hhp210 (g := 11) (p := 69) rfl).2]; rfl)).trans h211
                                 have h225 : sf_rd hp222 69 36 = some P := (fhp222.2.2.1 _ (bs_R.uq Hhp210 (g := 11) (p := 69) rfl).1 _ (by rw [(bs_R.uq Hhp210 (g := 11) (p := 69) rfl).2]; rfl)).trans h212
                                 have h226 : sf_rd hp222 69 37 = some z188.toInt := (fhp222.2.2.1 _ (bs_R.uq Hhp210 (g := 11) (p := 69) rfl).1 _ (by rw [(bs_R.uq Hhp210 (g := 11) (p := 69) rfl).2]; rfl)).trans h213
                                 have h227 : sf_rd hp222 69 35 = some z194.toInt := (fhp222.2.2.1 _ (bs_R.uq Hhp210 (g := 11) (p := 69) rfl).1 _ (by rw [(bs_R.uq Hhp210 (g := 11) (p := 69) rfl).2]; rfl)).trans h214
                                 have h228 : sf_rd hp222 69 38 = some z209.toInt := (fhp222.2.2.1 _ (bs_R.uq Hhp210 (g := 11) (p := 69) rfl).1 _ (by rw [(bs_R.uq Hhp210 (g := 11) (p := 69) rfl).2]; rfl)).trans rhp210
                                 have h229 : sf_rd hp222 69 11 = some z217.toInt := (fhp222.2.2.1 _ (bs_R.uq Hhp210 (g := 11) (p := 69) rfl).1 _ (by rw [(bs_R.uq Hhp210 (g := 11) (p := 69) rfl).2]; rfl)).trans hz217
                                 obtain ⟨uz223, vz223⟩ := bs_s1 (x := z223.toInt) rfl (php222 _ (List.mem_of_getElem? (i := 0) rfl))
                                 refine (show Ev _ 190 ([some (.ref 69), some (.int z3), some (.int z11), some (.int z18), none], [.int z223], (0, 0), hp222) _ from ?_)
                                 exact bs_zret rfl rfl (by omega) (by omega) (by rw [hQ]; exact ⟨thp222, Hhp222, Fhp222, bs_an0, sf_S_cons (sf_s1 (x := z223.toInt) rfl (by omega) (by omega)) (sf_S_nil), (fun c o p h hr => by have e : z223.toInt = 1 := congrArg Int32.toInt (Value.int.inj (Option.some.inj hr)); omega)⟩)
                              · skip
                                have c230 : z217.toInt = 3 := by omega
                                refine Ev.step (j := 168) (s' := ([some (.ref 69), some (.int z3), some (.int z11), some (.int z18), none], [.ref 69], (0, 0), hp210)) rfl rfl ?_
                                exact by
                                 refine bs_getI 11 rfl rfl rfl Hhp210 (bs_R.uq Hhp210 (g := 11) rfl) (by decide) rfl fun z231 hz231 lz231 gz231 => ?_
                                 refine bs_lit (k := 60) rfl rfl fun z232 hz232 => ?_
                                 refine bs_lt rfl (fun c233 => ?_) (fun c233 => ?_)
                                 · skip
                                   refine Ev.step (j := 186) (s' := ([some (.ref 69), some (.int z3), some (.int z11), some (.int z18), none], [.ref 69], (0, 0), hp210)) rfl rfl ?_
                                   refine bs_lit (k := 1) rfl rfl fun z234 hz234 => ?_
                                   refine bs_call (K := kq_X11_bad_3d45d6) [.ref 69, .int z234] [] rfl ct_X11_bad_3d45d6 Hhp210 rfl rfl rfl (bs_rcv (g := 11) Hhp210 (bs_R.uq Hhp210 (g := 11) rfl) (by decide) rfl) rfl ?_ (sf_S_nil) fun r235 hp236 thp236 Hhp236 fhp236 ahp236 php236 => ?_
                                   · intro q k h
                                     match q, h with
                                     | 0, h => cases h; exact bs_jR (bs_R.uq Hhp210 (g := 11) rfl)
                                     | 1, h => cases h; exact sf_j0
                                     | q + 2, h => cases h
                                   obtain ⟨z237, rfl⟩ := bs_anI ahp236
                                   have rgz237 := n_range z237
                                   have Fhp236 := sf_fr_tr Fhp210 (sf_fr_wider (W := [(11, 4, 4), (11, 11, 18), (11, 34, 38), (134, 0, 159), (143, 0, 44)]) rfl fhp236)
                                   have h238 : sf_rd hp236 69 34 = some C := (fhp236.2.2.1 _ (bs_R.uq Hhp210 (g := 11) (p := 69) rfl).1 _ (by rw [(bs_R.uq Hhp210 (g := 11) (p := 69) rfl).2]; rfl)).trans h211
                                   have h239 : sf_rd hp236 69 36 = some P := (fhp236.2.2.1 _ (bs_R.uq Hhp210 (g := 11) (p := 69) rfl).1 _ (by rw [(bs_R.uq Hhp210 (g := 11) (p := 69) rfl).2]; rfl)).trans h212
                                   have h240 : sf_rd hp236 69 37 = some z188.toInt := (fhp236.2.2.1 _ (bs_R.uq Hhp210 (g := 11) (p := 69) rfl).1 _ (by rw [(bs_R.uq Hhp210 (g := 11) (p := 69) rfl).2]; rfl)).trans h213
                                   have h241 : sf_rd hp236 69 35 = some z194.toInt := (fhp236.2.2.1 _ (bs_R.uq Hhp210 (g := 11) (p := 69) rfl).1 _ (by rw [(bs_R.uq Hhp210 (g := 11) (p := 69) rfl).2]; rfl)).trans h214
                                   have h242 : sf_rd hp236 69 38 = some z209.toInt := (fhp236.2.2.1 _ (bs_R.uq Hhp210 (g := 11) (p := 69) rfl).1 _ (by rw [(bs_R.uq Hhp210 (g := 11) (p := 69) rfl).2]; rfl)).trans rhp210
                                   have h243 : sf_rd hp236 69 11 = some z217.toInt := (fhp236.2.2.1 _ (bs_R.uq Hhp210 (g := 11) (p := 69) rfl).1 _ (by rw [(bs_R.uq Hhp210 (g := 11) (p := 69) rfl).2]; rfl)).trans hz217
                                   have h244 : sf_rd hp236 69 14 = some z231.toInt := (fhp236.2.2.1 _ (bs_R.uq Hhp210 (g := 11) (p := 69) rfl).1 _ (by rw [(bs_R.uq Hhp210 (g := 11) (p := 69) rfl).2]; rfl)).trans hz231
                                   obtain ⟨uz237, vz237⟩ := bs_s1 (x := z237.toInt) rfl (php236 _ (List.mem_of_getElem? (i := 0) rfl))
                                   refine (show Ev _ 190 ([some (.ref 69), some (.int z3), some (.int z11), some (.int z18), none], [.int z237], (0, 0), hp236) _ from ?_)
                                   exact bs_zret rfl rfl (by omega) (by omega) (by rw [hQ]; exact ⟨thp236, Hhp236, Fhp236, bs_an0, sf_S_cons (sf_s1 (x := z237.toInt) rfl (by omega) (by omega)) (sf_S_nil), (fun c o p h hr => by have e : z237.toInt = 1 := congrArg Int32.toInt (Value.int.inj (Option.some.inj hr)); omega)⟩)
                                 · skip
                                   refine Ev.step (j := 177) (s' := ([some (.ref 69), some (.int z3), some (.int z11), some (.int z18), none], [.ref 69], (0, 0), hp210)) rfl rfl ?_
                                   exact by
                                    refine bs_getI 11 rfl rfl rfl Hhp210 (bs_R.uq Hhp210 (g := 11) rfl) (by decide) rfl fun z245 hz245 lz245 gz245 => ?_
                                    have e246 : z245.toInt = z231.toInt := Option.some.inj (hz245.symm.trans hz231)
                                    refine bs_lit (k := 62) rfl rfl fun z247 hz247 => ?_
                                    refine bs_le rfl (fun c248 => ?_) (fun c248 => ?_)
                                    · skip
                                      refine Ev.step (j := 192) (s' := ([some (.ref 69), some (.int z3), some (.int z11), some (.int z18), none], [.ref 69], (0, 0), hp210)) rfl rfl ?_
                                      refine bs_getI 11 rfl rfl rfl Hhp210 (bs_R.uq Hhp210 (g := 11) rfl) (by decide) rfl fun z249 hz249 lz249 gz249 => ?_
                                      have e250 : z249.toInt = z231.toInt := Option.some.inj (hz249.symm.trans hz231)
                                      refine Ev.step (j := 197) (s' := ([some (.ref 69), some (.int z3), some (.int z11), some (.int z18), some (.int z249)], [], (0, 0), hp210)) rfl rfl ?_
                                      exact by
                                       refine Ev.step (j := 198) (s' := ([some (.ref 69), some (.int z3), some (.int z11), some (.int z18), some (.int z249)], [.ref 69], (0, 0), hp210)) rfl rfl ?_
                                       refine bs_call (K := kq_X11_next_h) [.ref 69] [] rfl ct_X11_next_h Hhp210 rfl rfl rfl (bs_rcv (g := 11) Hhp210 (bs_R.uq Hhp210 (g := 11) rfl) (by decide) rfl) rfl ?_ (sf_S_nil) fun r251 hp252 thp252 Hhp252 fhp252 ahp252 php252 => ?_
                                       · intro q k h
                                         match q, h with
                                         | 0, h => cases h; exact bs_jR (bs_R.uq Hhp210 (g := 11) rfl)
                                         | q + 1, h => cases h
                                       obtain rfl := ahp252.1 rfl
                                       have Fhp252 := sf_fr_tr Fhp210 (sf_fr_wider (W := [(11, 4, 4), (11, 11, 18), (11, 34, 38), (134, 0, 159), (143, 0, 44)]) rfl fhp252)
                                       have h253 : sf_rd hp252 69 34 = some C := (fhp252.2.2.1 _ (bs_R.uq Hhp210 (g := 11) (p := 69) rfl).1 _ (by rw [(bs_R.uq Hhp210 (g := 11) (p := 69) rfl).2]; rfl)).trans h211
                                       have h254 : sf_rd hp252 69 36 = some P := (fhp252.2.2.1 _ (bs_R.uq Hhp210 (g := 11) (p := 69) rfl).1 _ (by rw [(bs_R.uq Hhp210 (g := 11) (p := 69) rfl).2]; rfl)).trans h212
                                       have h255 : sf_rd hp252 69 37 = some z188.toInt := (fhp252.2.2.1 _ (bs_R.uq Hhp210 (g := 11) (p := 69) rfl).1 _ (by rw [(bs_R.uq Hhp210 (g := 11) (p := 69) rfl).2]; rfl)).trans h213
                                       have h256 : sf_rd hp252 69 35 = some z194.toInt := (fhp252.2.2.1 _ (bs_R.uq Hhp210 (g := 11) (p := 69) rfl).1 _ (by rw [(bs_R.uq Hhp210 (g := 11) (p := 69) rfl).2]; rfl)).trans h214
                                       have h257 : sf_rd hp252 69 38 = some z209.toInt := (fhp252.2.2.1 _ (bs_R.uq Hhp210 (g := 11) (p := 69) rfl).1 _ (by rw [(bs_R.uq Hhp210 (g := 11) (p := 69) rfl).2]; rfl)).trans rhp210
                                       refine (show Ev _ 201 ([some (.ref 69), some (.int z3), some (.int z11), some (.int z18), some (.int z249)], [], (0, 0), hp252) _ from ?_)
                                       exact by
                                        refine Ev.step (j := 202) (s' := ([some (.ref 69), some (.int z3), some (.int z11), some (.int z18), some (.int z249)], [.ref 69], (0, 0), hp252)) rfl rfl ?_
                                        refine bs_getI 11 rfl rfl rfl Hhp252 (bs_R.uq Hhp252 (g := 11) rfl) (by decide) rfl fun z258 hz258 lz258 gz258 => ?_
                                        refine bs_lit (k := 2) rfl rfl fun z259 hz259 => ?_
                                        refine bs_eq rfl (fun c260 => ?_) (fun c260 => ?_)
                                        · skip
                                          have c261 : z258.toInt = 2 := by omega
                                          refine Ev.step (j := 216) (s' := ([some (.ref 69), some (.int z3), some (.int z11), some (.int z18), some (.int z249)], [.ref 69], (0, 0), hp252)) rfl rfl ?_
                                          refine Ev.step (j := 217) (s' := ([some (.ref 69), some (.int z3), some (.int z11), some (.int z18), some (.int z249)], [.int z18, .ref 69], (0, 0), hp252)) rfl rfl ?_
                                          refine Ev.step (j := 219) (s' := ([some (.ref 69), some (.int z3), some (.int z11), some (.int z18), some (.int z249)], [.int z249, .int z18, .ref 69], (0, 0), hp252)) rfl rfl ?_
                                          exact by
                                           refine Ev.step (j := 220) (s' := ([some (.ref 69), some (.int z3), some (.int z11), some (.int z18), some (.int z249)], [.ref 69, .int z249, .int z18, .ref 69], (0, 0), hp252)) rfl rfl ?_
                                           refine bs_getI 11 rfl rfl rfl Hhp252 (bs_R.uq Hhp252 (g := 11) rfl) (by decide) rfl fun z262 hz262 lz262 gz262 => ?_
                                           refine bs_callx (K := kq_X11_code_h) [.ref 69, .int z18, .int z249, .int z262] [] rfl ce_X11_code_h Hhp252 rfl rfl rfl (bs_rcv (g := 11) Hhp252 (bs_R.uq Hhp252 (g := 11) rfl) (by decide) rfl) rfl ?_ (sf_S_cons (sf_s1 (x := C) (show sf_v0 _ _ 36104 = _ from h253) (by omega) (by omega)) (sf_S_nil)) fun r263 hp264 thp264 Hhp264 fhp264 ahp264 php264 xhp264 => ?_
                                           · intro q k h
                                             match q, h with
                                             | 0, h => cases h; exact bs_jR (bs_R.uq Hhp252 (g := 11) rfl)
                                             | 1, h => cases h; exact sf_j0
                                             | 2, h => cases h; exact sf_j0
                                             | 3, h => cases h; exact sf_j0
                                             | q + 4, h => cases h
                                           obtain rfl := ahp264.1 rfl
                                           have Fhp264 := sf_fr_tr Fhp252 (sf_fr_wider (W := [(11, 4, 4), (11, 11, 18), (11, 34, 38), (134, 0, 159), (143, 0, 44)]) rfl fhp264)
                                           have h265 : sf_rd hp264 69 36 = some P := (fhp264.2.2.1 _ (bs_R.uq Hhp252 (g := 11) (p := 69) rfl).1 _ (by rw [(bs_R.uq Hhp252 (g := 11) (p := 69) rfl).2]; rfl)).trans h254
                                           have h266 : sf_rd hp264 69 37 = some z188.toInt := (fhp264.2.2.1 _ (bs_R.uq Hhp252 (g := 11) (p := 69) rfl).1 _ (by rw [(bs_R.uq Hhp252 (g := 11) (p := 69) rfl).2]; rfl)).trans h255
                                           have h267 : sf_rd hp264 69 35 = some z194.toInt := (fhp264.2.2.1 _ (bs_R.uq Hhp252 (g := 11) (p := 69) rfl).1 _ (by rw [(bs_R.uq Hhp252 (g := 11) (p := 69) rfl).2]; rfl)).trans h256
                                           have h268 : sf_rd hp264 69 38 = some z209.toInt := (fhp264.2.2.1 _ (bs_R.uq Hhp252 (g := 11) (p := 69) rfl).1 _ (by rw [(bs_R.uq Hhp252 (g := 11) (p := 69) rfl).2]; rfl)).trans h257
                                           have h269 : sf_rd hp264 69 11 = some z258.toInt := (fhp264.2.2.1 _ (bs_R.uq Hhp252 (g := 11) (p := 69) rfl).1 _ (by rw [(bs_R.uq Hhp252 (g := 11) (p := 69) rfl).2]; rfl)).trans hz258
                                           have h270 : sf_rd hp264 69 14 = some z262.toInt := (fhp264.2.2.1 _ (bs_R.uq Hhp252 (g := 11) (p := 69) rfl).1 _ (by rw [(bs_R.uq Hhp252 (g := 11) (p := 69) rfl).2]; rfl)).trans hz262
                                           refine (show Ev _ 226 ([some (.ref 69), some (.int z3), some (.int z11), some (.int z18), some (.int z249)], [], (0, 0), hp264) _ from ?_)
                                           have X271 := xhp264 _ _ _ rfl rfl h253
                                           refine Ev.step (j := 227) (s' := ([some (.ref 69), some (.int z3), some (.int z11), some (.int z18), some (.int z249)], [.ref 69], (0, 0), hp264)) rfl rfl ?_
                                           exact by
                                            refine bs_call (K := kq_X11_next_h) [.ref 69] [] rfl ct_X11_next_h Hhp264 rfl rfl rfl (bs_rcv (g := 11) Hhp264 (bs_R.uq Hhp264 (g := 11) rfl) (by decide) rfl) rfl ?_ (sf_S_nil) fun r272 hp273 thp273 Hhp273 fhp273 ahp273 php273 => ?_
                                            · intro q k h
                                              match q, h with
                                              | 0, h => cases h; exact bs_jR (bs_R.uq Hhp264 (g := 11) rfl)
                                              | q + 1, h => cases h
                                            obtain rfl := ahp273.1 rfl
                                            have Fhp273 := sf_fr_tr Fhp264 (sf_fr_wider (W := [(11, 4, 4), (11, 11, 18), (11, 34, 38), (134, 0, 159), (143, 0, 44)]) rfl fhp273)
                                            have h274 : sf_rd hp273 69 36 = some P := (fhp273.2.2.1 _ (bs_R.uq Hhp264 (g := 11) (p := 69) rfl).1 _ (by rw [(bs_R.uq Hhp264 (g := 11) (p := 69) rfl).2]; rfl)).trans h265
                                            have h275 : sf_rd hp273 69 37 = some z188.toInt := (fhp273.2.2.1 _ (bs_R.uq Hhp264 (g := 11) (p := 69) rfl).1 _ (by rw [(bs_R.uq Hhp264 (g := 11) (p := 69) rfl).2]; rfl)).trans h266
                                            have h276 : sf_rd hp273 69 35 = some z194.toInt := (fhp273.2.2.1 _ (bs_R.uq Hhp264 (g := 11) (p := 69) rfl).1 _ (by rw [(bs_R.uq Hhp264 (g := 11) (p := 69) rfl).2]; rfl)).trans h267
                                            have h277 : sf_rd hp273 69 38 = some z209.toInt := (fhp273.2.2.1 _ (bs_R.uq Hhp264 (g := 11) (p := 69) rfl).1 _ (by rw [(bs_R.uq Hhp264 (g := 11) (p := 69) rfl).2]; rfl)).trans h268
                                            have h278 : sf_rd hp273 69 34 = some (C + 1) := (fhp273.2.2.1 _ (bs_R.uq Hhp264 (g := 11) (p := 69) rfl).1 _ (by rw [(bs_R.uq Hhp264 (g := 11) (p := 69) rfl).2]; rfl)).trans X271.1
                                            refine (show Ev _ 230 ([some (.ref 69), some (.int z3), some (.int z11), some (.int z18), some (.int z249)], [], (0, 0), hp273) _ from ?_)
                                            exact by
                                             refine bs_lit (k := 1) rfl rfl fun z279 hz279 => ?_
                                             exact bs_zret rfl rfl (by omega) (by omega) (by rw [hQ]; exact ⟨thp273, Hhp273, Fhp273, bs_an0, sf_S_cons (sf_s1 (x := z279.toInt) rfl (by omega) (by omega)) (sf_S_nil), (fun c o p h hr => by have eo : o = O := Option.some.inj (h.2.1.symm.trans hG1.2.1); have ep : p = P := Option.some.inj (h.2.2.1.symm.trans hG1.2.2.1); subst eo ep; exact ⟨_, _, _, se_leaf hG1 h278 rfl h276 (by omega) (by omega) h274 h277 (by omega) (((fhp273.2.2.1 _ (bs_R.uq Hhp264 (g := 134) (p := 73) rfl).1 _ (by rw [(bs_R.uq Hhp264 (g := 134) (p := 73) rfl).2]; rfl))).trans X271.2.1) (by omega) (((fhp273.2.2.1 _ (bs_R.uq Hhp264 (g := 134) (p := 73) rfl).1 _ (by rw [(bs_R.uq Hhp264 (g := 134) (p := 73) rfl).2]; rfl))).trans X271.2.2.1) (fun q hq => ((fhp273.2.2.1 _ (bs_R.uq Hhp264 (g := 134) (p := 73) rfl).1 _ (by rw [(bs_R.uq Hhp264 (g := 134) (p := 73) rfl).2]; rfl))).trans ((X271.2.2.2 q hq).trans ((fhp252.2.2.1 _ (bs_R.uq Hhp210 (g := 134) (p := 73) rfl).1 _ (by rw [(bs_R.uq Hhp210 (g := 134) (p := 73) rfl).2]; rfl)).trans ((ehp210 _ _ (Or.inl (by decide))).trans ((fhp201.2.2.1 _ (bs_R.uq Hhp195 (g := 134) (p := 73) rfl).1 _ (by rw [(bs_R.uq Hhp195 (g := 134) (p := 73) rfl).2]; rfl)).trans ((ehp195 _ _ (Or.inl (by decide))).trans ((fhp17.2.2.1 _ (bs_R.uq Hhp10 (g := 134) (p := 73) rfl).1 _ (by rw [(bs_R.uq Hhp10 (g := 134) (p := 73) rfl).2]; rfl)).trans ((fhp10.2.2.1 _ (bs_R.uq Hhp2 (g := 134) (p := 73) rfl).1 _ (by rw [(bs_R.uq Hhp2 (g := 134) (p := 73) rfl).2]; rfl)).trans (fhp2.2.2.1 _ (bs_R.uq H (g := 134) (p := 73) rfl).1 _ (by rw [(bs_R.uq H (g := 134) (p := 73) rfl).2]; rfl)))))))))) (fun q => ((fhp273.2.2.1 _ (bs_R.uq Hhp264 (g := 143) (p := 82) rfl).1 _ (by rw [(bs_R.uq Hhp264 (g := 143) (p := 82) rfl).2]; rfl)).trans ((fhp264.2.2.1 _ (bs_R.uq Hhp252 (g := 143) (p := 82) rfl).1 _ (by rw [(bs_R.uq Hhp252 (g := 143) (p := 82) rfl).2]; rfl)).trans ((fhp252.2.2.1 _ (bs_R.uq Hhp210 (g := 143) (p := 82) rfl).1 _ (by rw [(bs_R.uq Hhp210 (g := 143) (p := 82) rfl).2]; rfl)).trans ((ehp210 _ _ (Or.inl (by decide))).trans ((fhp201.2.2.1 _ (bs_R.uq Hhp195 (g := 143) (p := 82) rfl).1 _ (by rw [(bs_R.uq Hhp195 (g := 143) (p := 82) rfl).2]; rfl)).trans ((ehp195 _ _ (Or.inl (by decide))).trans ((fhp17.2.2.1 _ (bs_R.uq Hhp10 (g := 143) (p := 82) rfl).1 _ (by rw [(bs_R.uq Hhp10 (g := 143) (p := 82) rfl).2]; rfl)).trans ((fhp10.2.2.1 _ (bs_R.uq Hhp2 (g := 143) (p := 82) rfl).1 _ (by rw [(bs_R.uq Hhp2 (g := 143) (p := 82) rfl).2]; rfl)).trans (fhp2.2.2.1 _ (bs_R.uq H (g := 143) (p := 82) rfl).1 _ (by rw [(bs_R.uq H (g := 143) (p := 82) rfl).2]; rfl))))))))))), by omega⟩)⟩)
                                        · skip
                                          refine Ev.step (j := 210) (s' := ([some (.ref 69), some (.int z3), some (.int z11), some (.int z18), some (.int z249)], [.ref 69], (0, 0), hp252)) rfl rfl ?_
                                          exact by
                                           refine bs_lit (k := 1) rfl rfl fun z280 hz280 => ?_
                                           refine bs_call (K := kq_X11_bad_3d45d6) [.ref 69, .int z280] [] rfl ct_X11_bad_3d45d6 Hhp252 rfl rfl rfl (bs_rcv (g := 11) Hhp252 (bs_R.uq Hhp252 (g := 11) rfl) (by decide) rfl) rfl ?_ (sf_S_nil) fun r281 hp282 thp282 Hhp282 fhp282 ahp282 php282 => ?_
                                           · intro q k h
                                             match q, h with
                                             | 0, h => cases h; exact bs_jR (bs_R.uq Hhp252 (g := 11) rfl)
                                             | 1, h => cases h; exact sf_j0
                                             | q + 2, h => cases h
                                           obtain ⟨z283, rfl⟩ := bs_anI ahp282
                                           have rgz283 := n_range z283
                                           have Fhp282 := sf_fr_tr Fhp252 (sf_fr_wider (W := [(11, 4, 4), (11, 11, 18), (11, 34, 38), (134, 0, 159), (143, 0, 44)]) rfl fhp282)
                                           have h284 : sf_rd hp282 69 34 = some C := (fhp282.2.2.1 _ (bs_R.uq Hhp252 (g := 11) (p := 69) rfl).1 _ (by rw [(bs_R.uq Hhp252 (g := 11) (p := 69) rfl).2]; rfl)).trans h253
                                           have h285 : sf_rd hp282 69 36 = some P := (fhp282.2.2.1 _ (bs_R.uq Hhp252 (g := 11) (p := 69) rfl).1 _ (by rw [(bs_R.uq Hhp252 (g := 11) (p := 69) rfl).2]; rfl)).trans h254
                                           have h286 : sf_rd hp282 69 37 = some z188.toInt := (fhp282.2.2.1 _ (bs_R.uq Hhp252 (g := 11) (p := 69) rfl).1 _ (by rw [(bs_R.uq Hhp252 (g := 11) (p := 69) rfl).2]; rfl)).trans h255
                                           have h287 : sf_rd hp282 69 35 = some z194.toInt := (fhp282.2.2.1 _ (bs_R.uq Hhp252 (g := 11) (p := 69) rfl).1 _ (by rw [(bs_R.uq Hhp252 (g := 11) (p := 69) rfl).2]; rfl)).trans h256
                                           have h288 : sf_rd hp282 69 38 = some z209.toInt := (fhp282.2.2.1 _ (bs_R.uq Hhp252 (g := 11) (p := 69) rfl).1 _ (by rw [(bs_R.uq Hhp252 (g := 11) (p := 69) rfl).2]; rfl)).trans h257
                                           have h289 : sf_rd hp282 69 11 = some z258.toInt := (fhp282.2.2.1 _ (bs_R.uq Hhp252 (g := 11) (p := 69) rfl).1 _ (by rw [(bs_R.uq Hhp252 (g := 11) (p := 69) rfl).2]; rfl)).trans hz258
                                           obtain ⟨uz283, vz283⟩ := bs_s1 (x := z283.toInt) rfl (php282 _ (List.mem_of_getElem? (i := 0) rfl))
                                           refine (show Ev _ 214 ([some (.ref 69), some (.int z3), some (.int z11), some (.int z18), some (.int z249)], [.int z283], (0, 0), hp282) _ from ?_)
                                           exact bs_zret rfl rfl (by omega) (by omega) (by rw [hQ]; exact ⟨thp282, Hhp282, Fhp282, bs_an0, sf_S_cons (sf_s1 (x := z283.toInt) rfl (by omega) (by omega)) (sf_S_nil), (fun c o p h hr => by have e : z283.toInt = 1 := congrArg Int32.toInt (Value.int.inj (Option.some.inj hr)); omega)⟩)
                                    · skip
                                      refine Ev.step (j := 186) (s' := ([some (.ref 69), some (.int z3), some (.int z11), some (.int z18), none], [.ref 69], (0, 0), hp210)) rfl rfl ?_
                                      exact by
                                       refine bs_lit (k := 1) rfl rfl fun z290 hz290 => ?_
                                       refine bs_call (K := kq_X11_bad_3d45d6) [.ref 69, .int z290] [] rfl ct_X11_bad_3d45d6 Hhp210 rfl rfl rfl (bs_rcv (g := 11) Hhp210 (bs_R.uq Hhp210 (g := 11) rfl) (by decide) rfl) rfl ?_ (sf_S_nil) fun r291 hp292 thp292 Hhp292 fhp292 ahp292 php292 => ?_
                                       · intro q k h
                                         match q, h with
                                         | 0, h => cases h; exact bs_jR (bs_R.uq Hhp210 (g := 11) rfl)
                                         | 1, h => cases h; exact sf_j0
                                         | q + 2, h => cases h
                                       obtain ⟨z293, rfl⟩ := bs_anI ahp292
                                       have rgz293 := n_range z293
                                       have Fhp292 := sf_fr_tr Fhp210 (sf_fr_wider (W := [(11, 4, 4), (11, 11, 18), (11, 34, 38), (134, 0, 159), (143, 0, 44)]) rfl fhp292)
                                       have h294 : sf_rd hp292 69 34 = some C := (fhp292.2.2.1 _ (bs_R.uq Hhp210 (g := 11) (p := 69) rfl).1 _ (by rw [(bs_R.uq Hhp210 (g := 11) (p := 69) rfl).2]; rfl)).trans h211
                                       have h295 : sf_rd hp292 69 36 = some P := (fhp292.2.2.1 _ (bs_R.uq Hhp210 (g := 11) (p := 69) rfl).1 _ (by rw [(bs_R.uq Hhp210 (g := 11) (p := 69) rfl).2]; rfl)).trans h212
                                       have h296 : sf_rd hp292 69 37 = some z188.toInt := (fhp292.2.2.1 _ (bs_R.uq Hhp210 (g := 11) (p := 69) rfl).1 _ (by rw [(bs_R.uq Hhp210 (g := 11) (p := 69) rfl).2]; rfl)).trans h213
                                       have h297 : sf_rd hp292 69 35 = some z194.toInt := (fhp292.2.2.1 _ (bs_R.uq Hhp210 (g := 11) (p := 69) rfl).1 _ (by rw [(bs_R.uq Hhp210 (g := 11) (p := 69) rfl).2]; rfl)).trans h214
                                       have h298 : sf_rd hp292 69 38 = some z209.toInt := (fhp292.2.2.1 _ (bs_R.uq Hhp210 (g := 11) (p := 69) rfl).1 _ (by rw [(bs_R.uq Hhp210 (g := 11) (p := 69) rfl).2]; rfl)).trans rhp210
                                       have h299 : sf_rd hp292 69 11 = some z217.toInt := (fhp292.2.2.1 _ (bs_R.uq Hhp210 (g := 11) (p := 69) rfl).1 _ (by rw [(bs_R.uq Hhp210 (g := 11) (p := 69) rfl).2]; rfl)).trans hz217
                                       have h300 : sf_rd hp292 69 14 = some z231.toInt := (fhp292.2.2.1 _ (bs_R.uq Hhp210 (g := 11) (p := 69) rfl).1 _ (by rw [(bs_R.uq Hhp210 (g := 11) (p := 69) rfl).2]; rfl)).trans hz231
                                       obtain ⟨uz293, vz293⟩ := bs_s1 (x := z293.toInt) rfl (php292 _ (List.mem_of_getElem? (i := 0) rfl))
                                       refine (show Ev _ 190 ([some (.ref 69), some (.int z3), some (.int z11), some (.int z18), none], [.int z293], (0, 0), hp292) _ from ?_)
                                       exact bs_zret rfl rfl (by omega) (by omega) (by rw [hQ]; exact ⟨thp292, Hhp292, Fhp292, bs_an0, sf_S_cons (sf_s1 (x := z293.toInt) rfl (by omega) (by omega)) (sf_S_nil), (fun c o p h hr => by have e : z293.toInt = 1 := congrArg Int32.toInt (Value.int.inj (Option.some.inj hr)); omega)⟩)
                            · skip
                              refine Ev.step (j := 137) (s' := ([some (.ref 69), some (.int z3), some (.int z11), some (.int z18), none], [.ref 69], (0, 0), hp210)) rfl rfl ?_
                              exact by
                               refine bs_lit (k := 0) rfl rfl fun z301 hz301 => ?_
                               refine bs_lit (k := 1) rfl rfl fun z302 hz302 => ?_
                               refine bs_call (K := kq_X11_takes_c6db50) [.ref 69, .int z301, .int z302] [] rfl ct_X11_takes_c6db50 Hhp210 rfl rfl rfl (bs_rcv (g := 11) Hhp210 (bs_R.uq Hhp210 (g := 11) rfl) (by decide) rfl) rfl ?_ (sf_S_cons (sf_s1 (x := z301.toInt) rfl (by omega) (by omega)) (sf_S_cons (sf_s1 (x := z302.toInt) rfl (by omega) (by omega)) (sf_S_nil))) fun r303 hp304 thp304 Hhp304 fhp304 ahp304 php304 => ?_
                               · intro q k h
                                 match q, h with
                                 | 0, h => cases h; exact bs_jR (bs_R.uq Hhp210 (g := 11) rfl)
                                 | 1, h => cases h; exact sf_j0
                                 | 2, h => cases h; exact sf_j0
                                 | q + 3, h => cases h
                               obtain ⟨z305, rfl⟩ := bs_anI ahp304
                               have rgz305 := n_range z305
                               have Fhp304 := sf_fr_tr Fhp210 (sf_fr_wider (W := [(11, 4, 4), (11, 11, 18), (11, 34, 38), (134, 0, 159), (143, 0, 44)]) rfl fhp304)
                               have h306 : sf_rd hp304 69 34 = some C := (fhp304.2.2.1 _ (bs_R.uq Hhp210 (g := 11) (p := 69) rfl).1 _ (by rw [(bs_R.uq Hhp210 (g := 11) (p := 69) rfl).2]; rfl)).trans h211
                               have h307 : sf_rd hp304 69 36 = some P := (fhp304.2.2.1 _ (bs_R.uq Hhp210 (g := 11) (p := 69) rfl).1 _ (by rw [(bs_R.uq Hhp210 (g := 11) (p := 69) rfl).2]; rfl)).trans h212
                               have h308 : sf_rd hp304 69 37 = some z188.toInt := (fhp304.2.2.1 _ (bs_R.uq Hhp210 (g := 11) (p := 69) rfl).1 _ (by rw [(bs_R.uq Hhp210 (g := 11) (p := 69) rfl).2]; rfl)).trans h213
                               have h309 : sf_rd hp304 69 35 = some z194.toInt := (fhp304.2.2.1 _ (bs_R.uq Hhp210 (g := 11) (p := 69) rfl).1 _ (by rw [(bs_R.uq Hhp210 (g := 11) (p := 69) rfl).2]; rfl)).trans h214
                               have h310 : sf_rd hp304 69 38 = some z209.toInt := (fhp304.2.2.1 _ (bs_R.uq Hhp210 (g := 11) (p := 69) rfl).1 _ (by rw [(bs_R.uq Hhp210 (g := 11) (p := 69) rfl).2]; rfl)).trans rhp210
                               obtain ⟨uz305, vz305⟩ := bs_s1 (x := z305.toInt) rfl (php304 _ (List.mem_of_getElem? (i := 0) rfl))
                               obtain ⟨y311, hy311, ly311, uy311⟩ := bs_fld (k := 18) Hhp304 (bs_R.uq Hhp304 (g := 11) rfl) (by decide) rfl
                               have d312 := bs_q3 (x := z305.toInt) (y := y311) rfl (show sf_v1 _ _ _ 36056 = _ from hy311) (php304 _ (List.mem_of_getElem? (i := 1) rfl))
                               refine (show Ev _ 142 ([some (.ref 69), some (.int z3), some (.int z11), some (.int z18), none], [.int z305], (0, 0), hp304) _ from ?_)
                               exact by
                                refine bs_ifne rfl (fun c313 => ?_) (fun c313 => ?_)
                                · skip
                                  refine Ev.step (j := 148) (s' := ([some (.ref 69), some (.int z3), some (.int z11), some (.int z18), none], [.ref 69], (0, 0), hp304)) rfl rfl ?_
                                  refine Ev.step (j := 149) (s' := ([some (.ref 69), some (.int z3), some (.int z11), some (.int z18), none], [.int z18, .ref 69], (0, 0), hp304)) rfl rfl ?_
                                  refine bs_lit (k := 0) rfl rfl fun z314 hz314 => ?_
                                  refine Ev.step (j := 151) (s' := ([some (.ref 69), some (.int z3), some (.int z11), some (.int z18), none], [.ref 69, .int z314, .int z18, .ref 69], (0, 0), hp304)) rfl rfl ?_
                                  refine bs_getI 11 rfl rfl rfl Hhp304 (bs_R.uq Hhp304 (g := 11) rfl) (by decide) rfl fun z315 hz315 lz315 gz315 => ?_
                                  have e316 : z315.toInt = y311 := Option.some.inj (hz315.symm.trans hy311)
                                  refine bs_callx (K := kq_X11_code_h) [.ref 69, .int z18, .int z314, .int z315] [] rfl ce_X11_code_h Hhp304 rfl rfl rfl (bs_rcv (g := 11) Hhp304 (bs_R.uq Hhp304 (g := 11) rfl) (by decide) rfl) rfl ?_ (sf_S_cons (sf_s1 (x := C) (show sf_v0 _ _ 36104 = _ from h306) (by omega) (by omega)) (sf_S_nil)) fun r317 hp318 thp318 Hhp318 fhp318 ahp318 php318 xhp318 => ?_
                                  · intro q k h
                                    match q, h with
                                    | 0, h => cases h; exact bs_jR (bs_R.uq Hhp304 (g := 11) rfl)
                                    | 1, h => cases h; exact sf_j0
                                    | 2, h => cases h; exact sf_j0
                                    | 3, h => cases h; exact sf_j0
                                    | q + 4, h => cases h
                                  obtain rfl := ahp318.1 rfl
                                  have Fhp318 := sf_fr_tr Fhp304 (sf_fr_wider (W := [(11, 4, 4), (11, 11, 18), (11, 34, 38), (134, 0, 159), (143, 0, 44)]) rfl fhp318)
                                  have h319 : sf_rd hp318 69 36 = some P := (fhp318.2.2.1 _ (bs_R.uq Hhp304 (g := 11) (p := 69) rfl).1 _ (by rw [(bs_R.uq Hhp304 (g := 11) (p := 69) rfl).2]; rfl)).trans h307
                                  have h320 : sf_rd hp318 69 37 = some z188.toInt := (fhp318.2.2.1 _ (bs_R.uq Hhp304 (g := 11) (p := 69) rfl).1 _ (by rw [(bs_R.uq Hhp304 (g := 11) (p := 69) rfl).2]; rfl)).trans h308
                                  have h321 : sf_rd hp318 69 35 = some z194.toInt := (fhp318.2.2.1 _ (bs_R.uq Hhp304 (g := 11) (p := 69) rfl).1 _ (by rw [(bs_R.uq Hhp304 (g := 11) (p := 69) rfl).2]; rfl)).trans h309
                                  have h322 : sf_rd hp318 69 38 = some z209.toInt := (fhp318.2.2.1 _ (bs_R.uq Hhp304 (g := 11) (p := 69) rfl).1 _ (by rw [(bs_R.uq Hhp304 (g := 11) (p := 69) rfl).2]; rfl)).trans h310
                                  have h323 : sf_rd hp318 69 18 = some y311 := (fhp318.2.2.1 _ (bs_R.uq Hhp304 (g := 11) (p := 69) rfl).1 _ (by rw [(bs_R.uq Hhp304 (g := 11) (p := 69) rfl).2]; rfl)).trans hy311
                                  refine (show Ev _ 157 ([some (.ref 69), some (.int z3), some (.int z11), some (.int z18), none], [], (0, 0), hp318) _ from ?_)
                                  have X324 := xhp318 _ _ _ rfl rfl h306
                                  refine bs_lit (k := 1) rfl rfl fun z325 hz325 => ?_
                                  exact bs_zret rfl rfl (by omega) (by omega) (by rw [hQ]; exact ⟨thp318, Hhp318, Fhp318, bs_an0, sf_S_cons (sf_s1 (x := z325.toInt) rfl (by omega) (by omega)) (sf_S_nil), (fun c o p h hr => by have eo : o = O := Option.some.inj (h.2.1.symm.trans hG1.2.1); have ep : p = P := Option.some.inj (h.2.2.1.symm.trans hG1.2.2.1); subst eo ep; exact ⟨_, _, _, se_leaf hG1 X324.1 rfl h321 (by omega) (by omega) h319 h322 (by omega) ((rfl).trans X324.2.1) (by omega) ((rfl).trans X324.2.2.1) (fun q hq => (rfl).trans ((X324.2.2.2 q hq).trans ((fhp304.2.2.1 _ (bs_R.uq Hhp210 (g := 134) (p := 73) rfl).1 _ (by rw [(bs_R.uq Hhp210 (g := 134) (p := 73) rfl).2]; rfl)).trans ((ehp210 _ _ (Or.inl (by decide))).trans ((fhp201.2.2.1 _ (bs_R.uq Hhp195 (g := 134) (p := 73) rfl).1 _ (by rw [(bs_R.uq Hhp195 (g := 134) (p := 73) rfl).2]; rfl)).trans ((ehp195 _ _ (Or.inl (by decide))).trans ((fhp17.2.2.1 _ (bs_R.uq Hhp10 (g := 134) (p := 73) rfl).1 _ (by rw [(bs_R.uq Hhp10 (g := 134) (p := 73) rfl).2]; rfl)).trans ((fhp10.2.2.1 _ (bs_R.uq Hhp2 (g := 134) (p := 73) rfl).1 _ (by rw [(bs_R.uq Hhp2 (g := 134) (p := 73) rfl).2]; rfl)).trans (fhp2.2.2.1 _ (bs_R.uq H (g := 134) (p := 73) rfl).1 _ (by rw [(bs_R.uq H (g := 134) (p := 73) rfl).2]; rfl)))))))))) (fun q => ((fhp318.2.2.1 _ (bs_R.uq Hhp304 (g := 143) (p := 82) rfl).1 _ (by rw [(bs_R.uq Hhp304 (g := 143) (p := 82) rfl).2]; rfl)).trans ((fhp304.2.2.1 _ (bs_R.uq Hhp210 (g := 143) (p := 82) rfl).1 _ (by rw [(bs_R.uq Hhp210 (g := 143) (p := 82) rfl).2]; rfl)).trans ((ehp210 _ _ (Or.inl (by decide))).trans ((fhp201.2.2.1 _ (bs_R.uq Hhp195 (g := 143) (p := 82) rfl).1 _ (by rw [(bs_R.uq Hhp195 (g := 143) (p := 82) rfl).2]; rfl)).trans ((ehp195 _ _ (Or.inl (by decide))).trans ((fhp17.2.2.1 _ (bs_R.uq Hhp10 (g := 143) (p := 82) rfl).1 _ (by rw [(bs_R.uq Hhp10 (g := 143) (p := 82) rfl).2]; rfl)).trans ((fhp10.2.2.1 _ (bs_R.uq Hhp2 (g := 143) (p := 82) rfl).1 _ (by rw [(bs_R.uq Hhp2 (g := 143) (p := 82) rfl).2]; rfl)).trans (fhp2.2.2.1 _ (bs_R.uq H (g := 143) (p := 82) rfl).1 _ (by rw [(bs_R.uq H (g := 143) (p := 82) rfl).2]; rfl)))))))))), by omega⟩)⟩)
                                · skip
                                  have c326 : z305.toInt = 0 := by omega
                                  refine bs_lit (k := 0) rfl rfl fun z327 hz327 => ?_
                                  exact bs_zret rfl rfl (by omega) (by omega) (by rw [hQ]; exact ⟨thp304, Hhp304, Fhp304, bs_an0, sf_S_cons (sf_s1 (x := z327.toInt) rfl (by omega) (by omega)) (sf_S_nil), (fun c o p h hr => by have e : z327.toInt = 1 := congrArg Int32.toInt (Value.int.inj (Option.some.inj hr)); omega)⟩)
                         · exfalso; omega
                   · skip
                     refine Ev.step (j := 57) (s' := ([some (.ref 69), some (.int z3), some (.int z11), some (.int z18), none], [.ref 69], (0, 0), hp17)) rfl rfl ?_
                     exact by
                      refine bs_lit (k := 4) rfl rfl fun z328 hz328 => ?_
                      refine bs_call (K := kq_X11_bad_3d45d6) [.ref 69, .int z328] [] rfl ct_X11_bad_3d45d6 Hhp17 rfl rfl rfl (bs_rcv (g := 11) Hhp17 (bs_R.uq Hhp17 (g := 11) rfl) (by decide) rfl) rfl ?_ (sf_S_nil) fun r329 hp330 thp330 Hhp330 fhp330 ahp330 php330 => ?_
                      · intro q k h
                        match q, h with
                        | 0, h => cases h; exact bs_jR (bs_R.uq Hhp17 (g := 11) rfl)
                        | 1, h => cases h; exact sf_j0
                        | q + 2, h => cases h
                      obtain ⟨z331, rfl⟩ := bs_anI ahp330
                      have rgz331 := n_range z331
                      have Fhp330 := sf_fr_tr Fhp17 (sf_fr_wider (W := [(11, 4, 4), (11, 11, 18), (11, 34, 38), (134, 0, 159), (143, 0, 44)]) rfl fhp330)
                      have h332 : sf_rd hp330 69 34 = some C := (fhp330.2.2.1 _ (bs_R.uq Hhp17 (g := 11) (p := 69) rfl).1 _ (by rw [(bs_R.uq Hhp17 (g := 11) (p := 69) rfl).2]; rfl)).trans h19
                      have h333 : sf_rd hp330 69 35 = some O := (fhp330.2.2.1 _ (bs_R.uq Hhp17 (g := 11) (p := 69) rfl).1 _ (by rw [(bs_R.uq Hhp17 (g := 11) (p := 69) rfl).2]; rfl)).trans h20
                      have h334 : sf_rd hp330 69 36 = some P := (fhp330.2.2.1 _ (bs_R.uq Hhp17 (g := 11) (p := 69) rfl).1 _ (by rw [(bs_R.uq Hhp17 (g := 11) (p := 69) rfl).2]; rfl)).trans h21
                      have h335 : sf_rd hp330 69 38 = some (0 : Int) := (fhp330.2.2.1 _ (bs_R.uq Hhp17 (g := 11) (p := 69) rfl).1 _ (by rw [(bs_R.uq Hhp17 (g := 11) (p := 69) rfl).2]; rfl)).trans h22
                      have h336 : sf_rd hp330 69 37 = some z188.toInt := (fhp330.2.2.1 _ (bs_R.uq Hhp17 (g := 11) (p := 69) rfl).1 _ (by rw [(bs_R.uq Hhp17 (g := 11) (p := 69) rfl).2]; rfl)).trans hz188
                      obtain ⟨uz331, vz331⟩ := bs_s1 (x := z331.toInt) rfl (php330 _ (List.mem_of_getElem? (i := 0) rfl))
                      refine (show Ev _ 61 ([some (.ref 69), some (.int z3), some (.int z11), some (.int z18), none], [.int z331], (0, 0), hp330) _ from ?_)
                      exact bs_zret rfl rfl (by omega) (by omega) (by rw [hQ]; exact ⟨thp330, Hhp330, Fhp330, bs_an0, sf_S_cons (sf_s1 (x := z331.toInt) rfl (by omega) (by omega)) (sf_S_nil), (fun c o p h hr => by have e : z331.toInt = 1 := congrArg Int32.toInt (Value.int.inj (Option.some.inj hr)); omega)⟩)
              · skip
                refine Ev.step (j := 33) (s' := ([some (.ref 69), some (.int z3), some (.int z11), some (.int z18), none], [.ref 69], (0, 0), hp17)) rfl rfl ?_
                exact by
                 refine bs_lit (k := 1) rfl rfl fun z337 hz337 => ?_
                 refine bs_call (K := kq_X11_bad_3d45d6) [.ref 69, .int z337] [] rfl ct_X11_bad_3d45d6 Hhp17 rfl rfl rfl (bs_rcv (g := 11) Hhp17 (bs_R.uq Hhp17 (g := 11) rfl) (by decide) rfl) rfl ?_ (sf_S_nil) fun r338 hp339 thp339 Hhp339 fhp339 ahp339 php339 => ?_
                 · intro q k h
                   match q, h with
                   | 0, h => cases h; exact bs_jR (bs_R.uq Hhp17 (g := 11) rfl)
                   | 1, h => cases h; exact sf_j0
                   | q + 2, h => cases h
                 obtain ⟨z340, rfl⟩ := bs_anI ahp339
                 have rgz340 := n_range z340
                 have Fhp339 := sf_fr_tr Fhp17 (sf_fr_wider (W := [(11, 4, 4), (11, 11, 18), (11, 34, 38), (134, 0, 159), (143, 0, 44)]) rfl fhp339)
                 have h341 : sf_rd hp339 69 34 = some C := (fhp339.2.2.1 _ (bs_R.uq Hhp17 (g := 11) (p := 69) rfl).1 _ (by rw [(bs_R.uq Hhp17 (g := 11) (p := 69) rfl).2]; rfl)).trans h19
                 have h342 : sf_rd hp339 69 35 = some O := (fhp339.2.2.1 _ (bs_R.uq Hhp17 (g := 11) (p := 69) rfl).1 _ (by rw [(bs_R.uq Hhp17 (g := 11) (p := 69) rfl).2]; rfl)).trans h20
                 have h343 : sf_rd hp339 69 36 = some P := (fhp339.2.2.1 _ (bs_R.uq Hhp17 (g := 11) (p := 69) rfl).1 _ (by rw [(bs_R.uq Hhp17 (g := 11) (p := 69) rfl).2]; rfl)).trans h21
                 have h344 : sf_rd hp339 69 38 = some (0 : Int) := (fhp339.2.2.1 _ (bs_R.uq Hhp17 (g := 11) (p := 69) rfl).1 _ (by rw [(bs_R.uq Hhp17 (g := 11) (p := 69) rfl).2]; rfl)).trans h22
                 obtain ⟨uz340, vz340⟩ := bs_s1 (x := z340.toInt) rfl (php339 _ (List.mem_of_getElem? (i := 0) rfl))
                 refine (show Ev _ 37 ([some (.ref 69), some (.int z3), some (.int z11), some (.int z18), none], [.int z340], (0, 0), hp339) _ from ?_)
                 exact bs_zret rfl rfl (by omega) (by omega) (by rw [hQ]; exact ⟨thp339, Hhp339, Fhp339, bs_an0, sf_S_cons (sf_s1 (x := z340.toInt) rfl (by omega) (by omega)) (sf_S_nil), (fun c o p h hr => by have e : z340.toInt = 1 := congrArg Int32.toInt (Value.int.inj (Option.some.inj hr)); omega)⟩)
def kq_X11_nots_h : sf_Q := ([(1, 11, 0)], [], none, [], [(11, 34, 34), (11, 36, 37), (134, 0, 159)])
def ke_X11_nots_h : List Value → ab_H → Option Value → ab_H → Prop := fun _ hp _ hp' => ∀ c o p : Int, se hp c o p 1 → ∃ c' p' : Int, se hp' c' o p' 1 ∧ p' ≤ p
set_option maxRecDepth 100000 in
set_option maxHeartbeats 4000000 in
theorem cp_X11_nots_h : sf_cG kq_X11_nots_h Z_X11_nots (fun hp => ∃ c o p : Int, se hp c o p 1) ke_X11_nots_h := by
  intro t hp as H hl hj hpre hG
  match as, hl with
  | [v0], _ =>
    obtain ⟨a0, rfl, ra0⟩ := bs_aR (hj 0 _ rfl)
    obtain rfl := ra0.eq H (p := 69) rfl
    clear hpre hj
    have F0 : sf_fr [(11, 34, 34), (11, 36, 37), (134, 0, 159)] t hp t hp := sf_fr_rf
    refine bs_finx (E := ke_X11_nots_h) (K := kq_X11_nots_h) (L := (L_X11_nots Z_X11_code)) (nL := 1) (Nat.le_of_ble_eq_true rfl) ?_
    obtain ⟨Q, hQ⟩ : ∃ Q : ab_O → Prop, Q = (fun o => ∃ t', sf_h t' o.2 ∧ sf_fr (kq_X11_nots_h).2.2.2.2 t hp t' o.2 ∧ sf_an t' o.2.1 (kq_X11_nots_h).2.2.1 o.1 ∧ sf_S (sf_v1 o.1 [.ref 69] o.2) (kq_X11_nots_h).2.2.2.1 ∧ ke_X11_nots_h [.ref 69] hp o.1 o.2) := ⟨_, rfl⟩
    rw [← hQ]
    refine (show Ev (ab_T (L_X11_nots Z_X11_code)) 0 ([some (.ref 69)], [], (0, 0), hp) Q from ?_)
    obtain ⟨C, O, P, hG1⟩ := hG
    have INV : ∃ c p : Int, se hp c O p 1 ∧ p ≤ P := ⟨C, P, hG1, by omega⟩
    refine bs_loop (ι := ab_H × (Nat → Nat)) (fun ⟨hp1, t2⟩ => ([some (.ref 69)], [], (0, 0), hp1)) (fun ⟨hp1, t2⟩ => (sf_h t2 hp1) ∧ (sf_fr [(11, 34, 34), (11, 36, 37), (134, 0, 159)] t hp t2 hp1) ∧ (∃ c p : Int, se hp1 c O p 1 ∧ p ≤ P)) (fun ⟨hp1, t2⟩ => ((sf_rd hp1 69 36).getD 0).toNat) ?_ (hp, t) ⟨H, F0, (by exact INV)⟩
    rintro ⟨hp1, t2⟩ ⟨Hhp1, Fhp1, i4⟩ ih3
    refine (show Ev _ 0 ([some (.ref 69)], [], (0, 0), hp1) _ from ?_)
    obtain ⟨cs5, ps5, hs5, ls5⟩ := i4
    have hbhs5 := hs5.al
    have ws5 := ls5
    refine Ev.step (j := 1) (s' := ([some (.ref 69)], [.ref 69], (0, 0), hp1)) rfl rfl ?_
    exact by
     refine bs_getI 11 rfl rfl rfl Hhp1 (bs_R.uq Hhp1 (g := 11) rfl) (by decide) rfl fun z6 hz6 lz6 gz6 => ?_
     have e7 : z6.toInt = ps5 := Option.some.inj (hz6.symm.trans hs5.2.2.1)
     refine bs_ifle rfl (fun c8 => ?_) (fun c8 => ?_)
     · skip
       exact Ev.ret rfl rfl (by rw [hQ]; exact ⟨t2, Hhp1, Fhp1, bs_anU, sf_S_nil, (fun c o p h => by have eo : o = O := Option.some.inj (h.2.1.symm.trans hG1.2.1); have ep : p = P := Option.some.inj (h.2.2.1.symm.trans hG1.2.2.1); subst eo ep; exact ⟨_, _, hs5, ls5⟩)⟩)
     · skip
       refine Ev.step (j := 8) (s' := ([some (.ref 69)], [.ref 69], (0, 0), hp1)) rfl rfl ?_
       refine bs_getU (g := 11) (g1 := 143) rfl rfl Hhp1 (bs_R.uq Hhp1 (g := 11) rfl) (by decide) rfl rfl ?_
       refine Ev.step (j := 12) (s' := ([some (.ref 69)], [.ref 69, .ref 82], (0, 0), hp1)) rfl rfl ?_
       refine bs_getI 11 rfl rfl rfl Hhp1 (bs_R.uq Hhp1 (g := 11) rfl) (by decide) rfl fun z9 hz9 lz9 gz9 => ?_
       have e10 : z9.toInt = ps5 := Option.some.inj (hz9.symm.trans hs5.2.2.1)
       refine bs_lit (k := 1) rfl rfl fun z11 hz11 => ?_
       first | (refine bs_sub rfl (by omega) (by omega) fun z12 hz12 => ?_) | (refine bs_any rfl fun z12 => ?_)
       have rz12 := n_range z12
       refine bs_ld (g := 143) 0 44 (-2147483648, 2147483647) rfl Hhp1 (bs_R.uq Hhp1 (g := 143) rfl) (by decide) rfl (by decide) (by decide) rfl (by decide) (by omega) (by omega) fun z13 hz13 lz13 gz13 => ?_
       dsimp only at lz13 gz13
       refine bs_lit (k := 20) rfl rfl fun z14 hz14 => ?_
       exact by
        refine bs_ne rfl (fun c15 => ?_) (fun c15 => ?_)
        · skip
          exact Ev.ret rfl rfl (by rw [hQ]; exact ⟨t2, Hhp1, Fhp1, bs_anU, sf_S_nil, (fun c o p h => by have eo : o = O := Option.some.inj (h.2.1.symm.trans hG1.2.1); have ep : p = P := Option.some.inj (h.2.2.1.symm.trans hG1.2.2.1); subst eo ep; exact ⟨_, _, hs5, ls5⟩)⟩)
        · skip
          have c16 : z13.toInt = 20 := by omega
          refine Ev.step (j := 24) (s' := ([some (.ref 69)], [.ref 69], (0, 0), hp1)) rfl rfl ?_
          refine Ev.step (j := 25) (s' := ([some (.ref 69)], [.ref 69, .ref 69], (0, 0), hp1)) rfl rfl ?_
          refine bs_getI 11 rfl rfl rfl Hhp1 (bs_R.uq Hhp1 (g := 11) rfl) (by decide) rfl fun z17 hz17 lz17 gz17 => ?_
          have e18 : z17.toInt = ps5 := Option.some.inj (hz17.symm.trans hs5.2.2.1)
          refine bs_lit (k := 1) rfl rfl fun z19 hz19 => ?_
          first | (refine bs_sub rfl (by omega) (by omega) fun z20 hz20 => ?_) | (refine bs_any rfl fun z20 => ?_)
          have rz20 := n_range z20
          refine bs_putI (W := [(11, 36, 36)]) (g := 11) rfl rfl Hhp1 (bs_R.uq Hhp1 (g := 11) rfl) (by decide) rfl rfl rfl rfl (Or.inl rfl) (by omega) (by omega) fun hp21 Hhp21 fhp21 rhp21 ehp21 qhp21 nhp21 => ?_
          have Fhp21 := sf_fr_tr Fhp1 (sf_fr_wider (W := [(11, 34, 34), (11, 36, 37), (134, 0, 159)]) rfl fhp21)
          have h22 : sf_rd hp21 69 34 = some cs5 := (ehp21 _ _ (Or.inr (by omega))).trans hs5.1
          have h23 : sf_rd hp21 69 35 = some O := (ehp21 _ _ (Or.inr (by omega))).trans hs5.2.1
          have h24 : sf_rd hp21 69 38 = some (1 : Int) := (ehp21 _ _ (Or.inr (by omega))).trans hs5.2.2.2.1
          have h25 : sf_rd hp21 82 z12.toInt.toNat = some z13.toInt := (ehp21 _ _ (Or.inl (by decide))).trans hz13
          refine Ev.step (j := 34) (s' := ([some (.ref 69)], [.ref 69], (0, 0), hp21)) rfl rfl ?_
          exact by
           refine Ev.step (j := 35) (s' := ([some (.ref 69)], [.ref 69, .ref 69], (0, 0), hp21)) rfl rfl ?_
           refine bs_getI 11 rfl rfl rfl Hhp21 (bs_R.uq Hhp21 (g := 11) rfl) (by decide) rfl fun z26 hz26 lz26 gz26 => ?_
           refine bs_lit (k := 1) rfl rfl fun z27 hz27 => ?_
           first | (refine bs_sub rfl (by omega) (by omega) fun z28 hz28 => ?_) | (refine bs_any rfl fun z28 => ?_)
           have rz28 := n_range z28
           refine bs_putI (W := [(11, 37, 37)]) (g := 11) rfl rfl Hhp21 (bs_R.uq Hhp21 (g := 11) rfl) (by decide) rfl rfl rfl rfl (Or.inl rfl) (by omega) (by omega) fun hp29 Hhp29 fhp29 rhp29 ehp29 qhp29 nhp29 => ?_
           have Fhp29 := sf_fr_tr Fhp21 (sf_fr_wider (W := [(11, 34, 34), (11, 36, 37), (134, 0, 159)]) rfl fhp29)
           have h30 : sf_rd hp29 69 34 = some cs5 := (ehp29 _ _ (Or.inr (by omega))).trans h22
           have h31 : sf_rd hp29 69 35 = some O := (ehp29 _ _ (Or.inr (by omega))).trans h23
           have h32 : sf_rd hp29 69 38 = some (1 : Int) := (ehp29 _ _ (Or.inr (by omega))).trans h24
           have h33 : sf_rd hp29 82 z12.toInt.toNat = some z13.toInt := (ehp29 _ _ (Or.inl (by decide))).trans h25
           have h34 : sf_rd hp29 69 36 = some z20.toInt := (ehp29 _ _ (Or.inr (by omega))).trans rhp21
           refine Ev.step (j := 44) (s' := ([some (.ref 69)], [.ref 69], (0, 0), hp29)) rfl rfl ?_
           exact by
            refine bs_lit (k := 20) rfl rfl fun z35 hz35 => ?_
            refine bs_lit (k := 0) rfl rfl fun z36 hz36 => ?_
            refine bs_lit (k := 0) rfl rfl fun z37 hz37 => ?_
            refine bs_callx (K := kq_X11_code_h) [.ref 69, .int z35, .int z36, .int z37] [] rfl ce_X11_code_h Hhp29 rfl rfl rfl (bs_rcv (g := 11) Hhp29 (bs_R.uq Hhp29 (g := 11) rfl) (by decide) rfl) rfl ?_ (sf_S_cons (sf_s1 (x := cs5) (show sf_v0 _ _ 36104 = _ from h30) (by omega) (by omega)) (sf_S_nil)) fun r38 hp39 thp39 Hhp39 fhp39 ahp39 php39 xhp39 => ?_
            · intro q k h
              match q, h with
              | 0, h => cases h; exact bs_jR (bs_R.uq Hhp29 (g := 11) rfl)
              | 1, h => cases h; exact sf_j0
              | 2, h => cases h; exact sf_j0
              | 3, h => cases h; exact sf_j0
              | q + 4, h => cases h
            obtain rfl := ahp39.1 rfl
            have Fhp39 := sf_fr_tr Fhp29 (sf_fr_wider (W := [(11, 34, 34), (11, 36, 37), (134, 0, 159)]) rfl fhp39)
            have h40 : sf_rd hp39 69 35 = some O := (fhp39.2.2.1 _ (bs_R.uq Hhp29 (g := 11) (p := 69) rfl).1 _ (by rw [(bs_R.uq Hhp29 (g := 11) (p := 69) rfl).2]; rfl)).trans h31
            have h41 : sf_rd hp39 69 38 = some (1 : Int) := (fhp39.2.2.1 _ (bs_R.uq Hhp29 (g := 11) (p := 69) rfl).1 _ (by rw [(bs_R.uq Hhp29 (g := 11) (p := 69) rfl).2]; rfl)).trans h32
            have h42 : sf_rd hp39 82 z12.toInt.toNat = some z13.toInt := (fhp39.2.2.1 _ (bs_R.uq Hhp29 (g := 143) (p := 82) rfl).1 _ (by rw [(bs_R.uq Hhp29 (g := 143) (p := 82) rfl).2]; rfl)).trans h33
            have h43 : sf_rd hp39 69 36 = some z20.toInt := (fhp39.2.2.1 _ (bs_R.uq Hhp29 (g := 11) (p := 69) rfl).1 _ (by rw [(bs_R.uq Hhp29 (g := 11) (p := 69) rfl).2]; rfl)).trans h34
            have h44 : sf_rd hp39 69 37 = some z28.toInt := (fhp39.2.2.1 _ (bs_R.uq Hhp29 (g := 11) (p := 69) rfl).1 _ (by rw [(bs_R.uq Hhp29 (g := 11) (p := 69) rfl).2]; rfl)).trans rhp29
            refine (show Ev _ 51 ([some (.ref 69)], [], (0, 0), hp39) _ from ?_)
            have X45 := xhp39 _ _ _ rfl rfl h30
            refine Ev.step (j := 0) (s' := ([some (.ref 69)], [], (0, 0), hp39)) rfl rfl ?_
            have SE := se_not hs5 (by omega) (bs_at hz13 (show _ = ps5.toNat - 1 by omega)) (by omega) X45.1 rfl h40 h43 (by omega) h41 ((rfl).trans X45.2.1) (by omega) ((rfl).trans X45.2.2.1) (fun q hq => (rfl).trans ((X45.2.2.2 q hq).trans ((ehp29 _ _ (Or.inl (by decide))).trans (ehp21 _ _ (Or.inl (by decide)))))) (fun q => ((fhp39.2.2.1 _ (bs_R.uq Hhp29 (g := 143) (p := 82) rfl).1 _ (by rw [(bs_R.uq Hhp29 (g := 143) (p := 82) rfl).2]; rfl)).trans ((ehp29 _ _ (Or.inl (by decide))).trans (ehp21 _ _ (Or.inl (by decide))))))
            have INV : ∃ c p : Int, se hp39 c O p 1 ∧ p ≤ P := ⟨_, _, SE, by omega⟩
            have MS : ((sf_rd hp39 69 36).getD 0).toNat < ((sf_rd hp1 69 36).getD 0).toNat := by
              rw [h43, hs5.2.2.1]
              show (z20.toInt).toNat < (ps5).toNat
              omega
            refine ih3 (hp39, thp39) ⟨Hhp39, Fhp39, (by exact INV)⟩ ?_
            show ((sf_rd hp39 69 36).getD 0).toNat < ((sf_rd hp1 69 36).getD 0).toNat
            exact MS
def kq_X11_joins_h : sf_Q := ([(1, 11, 0), (0, 0, 0)], [], none, [], [(11, 34, 34), (11, 36, 36), (134, 0, 159)])
def ke_X11_joins_h : List Value → ab_H → Option Value → ab_H → Prop := fun as hp _ hp' => ∀ c o p : Int, se hp c o p 1 → ∃ c' p' : Int, se hp' c' o p' 1 ∧ p' ≤ p ∧ ∀ x : Int32, as[1]? = some (Value.int x) → x.toInt = 22 → 0 < p' → ∀ v : Int, sf_rd hp' 82 (p'.toNat - 1) = some v → v ≠ 21 ∧ v ≠ 22
set_option maxRecDepth 100000 in
set_option maxHeartbeats 4000000 in
theorem cp_X11_joins_h : sf_cG kq_X11_joins_h Z_X11_joins (fun hp => ∃ c o p : Int, se hp c o p 1) ke_X11_joins_h := by
  intro t hp as H hl hj hpre hG
  match as, hl with
  | [v0, v1], _ =>
    obtain ⟨a0, rfl, ra0⟩ := bs_aR (hj 0 _ rfl)
    obtain rfl := ra0.eq H (p := 69) rfl
    obtain ⟨x1, rfl⟩ := bs_aI (hj 1 _ rfl)
    have rg1 := n_range x1
    clear hpre hj
    have F0 : sf_fr [(11, 34, 34), (11, 36, 36), (134, 0, 159)] t hp t hp := sf_fr_rf
    refine bs_finx (E := ke_X11_joins_h) (K := kq_X11_joins_h) (L := (L_X11_joins Z_X11_code)) (nL := 2) (Nat.le_of_ble_eq_true rfl) ?_
    obtain ⟨Q, hQ⟩ : ∃ Q : ab_O → Prop, Q = (fun o => ∃ t', sf_h t' o.2 ∧ sf_fr (kq_X11_joins_h).2.2.2.2 t hp t' o.2 ∧ sf_an t' o.2.1 (kq_X11_joins_h).2.2.1 o.1 ∧ sf_S (sf_v1 o.1 [.ref 69, .int x1] o.2) (kq_X11_joins_h).2.2.2.1 ∧ ke_X11_joins_h [.ref 69, .int x1] hp o.1 o.2) := ⟨_, rfl⟩
    rw [← hQ]
    refine (show Ev (ab_T (L_X11_joins Z_X11_code)) 0 ([some (.ref 69), some (.int x1)], [], (0, 0), hp) Q from ?_)
    obtain ⟨C, O, P, hG1⟩ := hG
    have INV : ∃ c p : Int, se hp c O p 1 ∧ p ≤ P := ⟨C, P, hG1, by omega⟩
    refine bs_loop (ι := ab_H × (Nat → Nat)) (fun ⟨hp1, t2⟩ => ([some (.ref 69), some (.int x1)], [], (0, 0), hp1)) (fun ⟨hp1, t2⟩ => (sf_h t2 hp1) ∧ (sf_fr [(11, 34, 34), (11, 36, 36), (134, 0, 159)] t hp t2 hp1) ∧ (∃ c p : Int, se hp1 c O p 1 ∧ p ≤ P)) (fun ⟨hp1, t2⟩ => ((sf_rd hp1 69 36).getD 0).toNat) ?_ (hp, t) ⟨H, F0, (by exact INV)⟩
    rintro ⟨hp1, t2⟩ ⟨Hhp1, Fhp1, i4⟩ ih3
    refine (show Ev _ 0 ([some (.ref 69), some (.int x1)], [], (0, 0), hp1) _ from ?_)
    obtain ⟨cs5, ps5, hs5, ls5⟩ := i4
    have hbhs5 := hs5.al
    have ws5 := ls5
    refine Ev.step (j := 1) (s' := ([some (.ref 69), some (.int x1)], [.ref 69], (0, 0), hp1)) rfl rfl ?_
    exact by
     refine bs_getI 11 rfl rfl rfl Hhp1 (bs_R.uq Hhp1 (g := 11) rfl) (by decide) rfl fun z6 hz6 lz6 gz6 => ?_
     have e7 : z6.toInt = ps5 := Option.some.inj (hz6.symm.trans hs5.2.2.1)
     refine bs_ifle rfl (fun c8 => ?_) (fun c8 => ?_)
     · skip
       exact Ev.ret rfl rfl (by rw [hQ]; exact ⟨t2, Hhp1, Fhp1, bs_anU, sf_S_nil, (fun c o p h => by have eo : o = O := Option.some.inj (h.2.1.symm.trans hG1.2.1); have ep : p = P := Option.some.inj (h.2.2.1.symm.trans hG1.2.2.1); subst eo ep; exact ⟨_, _, hs5, ls5, fun x hx h22 h0 v hv => by have hx2 : some (Value.int x1) = some (Value.int x) := hx; have hx3 : x1.toInt = x.toInt := congrArg Int32.toInt (Value.int.inj (Option.some.inj hx2)); refine ⟨?_, ?_⟩ <;> omega⟩)⟩)
     · skip
       refine Ev.step (j := 8) (s' := ([some (.ref 69), some (.int x1)], [.ref 69], (0, 0), hp1)) rfl rfl ?_
       refine bs_getU (g := 11) (g1 := 143) rfl rfl Hhp1 (bs_R.uq Hhp1 (g := 11) rfl) (by decide) rfl rfl ?_
       refine Ev.step (j := 12) (s' := ([some (.ref 69), some (.int x1)], [.ref 69, .ref 82], (0, 0), hp1)) rfl rfl ?_
       refine bs_getI 11 rfl rfl rfl Hhp1 (bs_R.uq Hhp1 (g := 11) rfl) (by decide) rfl fun z9 hz9 lz9 gz9 => ?_
       have e10 : z9.toInt = ps5 := Option.some.inj (hz9.symm.trans hs5.2.2.1)
       refine bs_lit (k := 1) rfl rfl fun z11 hz11 => ?_
       first | (refine bs_sub rfl (by omega) (by omega) fun z12 hz12 => ?_) | (refine bs_any rfl fun z12 => ?_)
       have rz12 := n_range z12
       refine bs_ld (g := 143) 0 44 (-2147483648, 2147483647) rfl Hhp1 (bs_R.uq Hhp1 (g := 143) rfl) (by decide) rfl (by decide) (by decide) rfl (by decide) (by omega) (by omega) fun z13 hz13 lz13 gz13 => ?_
       dsimp only at lz13 gz13
       refine bs_lit (k := 21) rfl rfl fun z14 hz14 => ?_
       exact by
        refine bs_eq rfl (fun c15 => ?_) (fun c15 => ?_)
        · skip
          have c16 : z13.toInt = 21 := by omega
          refine Ev.step (j := 46) (s' := ([some (.ref 69), some (.int x1)], [.ref 69], (0, 0), hp1)) rfl rfl ?_
          refine Ev.step (j := 47) (s' := ([some (.ref 69), some (.int x1)], [.ref 69, .ref 69], (0, 0), hp1)) rfl rfl ?_
          refine bs_getI 11 rfl rfl rfl Hhp1 (bs_R.uq Hhp1 (g := 11) rfl) (by decide) rfl fun z17 hz17 lz17 gz17 => ?_
          have e18 : z17.toInt = ps5 := Option.some.inj (hz17.symm.trans hs5.2.2.1)
          refine bs_lit (k := 1) rfl rfl fun z19 hz19 => ?_
          first | (refine bs_sub rfl (by omega) (by omega) fun z20 hz20 => ?_) | (refine bs_any rfl fun z20 => ?_)
          have rz20 := n_range z20
          refine bs_putI (W := [(11, 36, 36)]) (g := 11) rfl rfl Hhp1 (bs_R.uq Hhp1 (g := 11) rfl) (by decide) rfl rfl rfl rfl (Or.inl rfl) (by omega) (by omega) fun hp21 Hhp21 fhp21 rhp21 ehp21 qhp21 nhp21 => ?_
          have Fhp21 := sf_fr_tr Fhp1 (sf_fr_wider (W := [(11, 34, 34), (11, 36, 36), (134, 0, 159)]) rfl fhp21)
          have h22 : sf_rd hp21 69 34 = some cs5 := (ehp21 _ _ (Or.inr (by omega))).trans hs5.1
          have h23 : sf_rd hp21 69 35 = some O := (ehp21 _ _ (Or.inr (by omega))).trans hs5.2.1
          have h24 : sf_rd hp21 69 38 = some (1 : Int) := (ehp21 _ _ (Or.inr (by omega))).trans hs5.2.2.2.1
          have h25 : sf_rd hp21 82 z12.toInt.toNat = some z13.toInt := (ehp21 _ _ (Or.inl (by decide))).trans hz13
          refine Ev.step (j := 56) (s' := ([some (.ref 69), some (.int x1)], [.ref 69], (0, 0), hp21)) rfl rfl ?_
          exact by
           refine Ev.step (j := 57) (s' := ([some (.ref 69), some (.int x1)], [.ref 69, .ref 69], (0, 0), hp21)) rfl rfl ?_
           refine bs_getU (g := 11) (g1 := 143) rfl rfl Hhp21 (bs_R.uq Hhp21 (g := 11) rfl) (by decide) rfl rfl ?_
           refine Ev.step (j := 61) (s' := ([some (.ref 69), some (.int x1)], [.ref 69, .ref 82, .ref 69], (0, 0), hp21)) rfl rfl ?_
           refine bs_getI 11 rfl rfl rfl Hhp21 (bs_R.uq Hhp21 (g := 11) rfl) (by decide) rfl fun z26 hz26 lz26 gz26 => ?_
           have e27 : z26.toInt = z20.toInt := Option.some.inj (hz26.symm.trans rhp21)
           refine bs_ld (g := 143) 0 44 (-2147483648, 2147483647) rfl Hhp21 (bs_R.uq Hhp21 (g := 143) rfl) (by decide) rfl (by decide) (by decide) rfl (by decide) (by omega) (by omega) fun z28 hz28 lz28 gz28 => ?_
           dsimp only at lz28 gz28
           refine bs_lit (k := 0) rfl rfl fun z29 hz29 => ?_
           refine bs_lit (k := 0) rfl rfl fun z30 hz30 => ?_
           exact by
            refine bs_callx (K := kq_X11_code_h) [.ref 69, .int z28, .int z29, .int z30] [] rfl ce_X11_code_h Hhp21 rfl rfl rfl (bs_rcv (g := 11) Hhp21 (bs_R.uq Hhp21 (g := 11) rfl) (by decide) rfl) rfl ?_ (sf_S_cons (sf_s1 (x := cs5) (show sf_v0 _ _ 36104 = _ from h22) (by omega) (by omega)) (sf_S_nil)) fun r31 hp32 thp32 Hhp32 fhp32 ahp32 php32 xhp32 => ?_
            · intro q k h
              match q, h with
              | 0, h => cases h; exact bs_jR (bs_R.uq Hhp21 (g := 11) rfl)
              | 1, h => cases h; exact sf_j0
              | 2, h => cases h; exact sf_j0
              | 3, h => cases h; exact sf_j0
              | q + 4, h => cases h
            obtain rfl := ahp32.1 rfl
            have Fhp32 := sf_fr_tr Fhp21 (sf_fr_wider (W := [(11, 34, 34), (11, 36, 36), (134, 0, 159)]) rfl fhp32)
            have h33 : sf_rd hp32 69 35 = some O := (fhp32.2.2.1 _ (bs_R.uq Hhp21 (g := 11) (p := 69) rfl).1 _ (by rw [(bs_R.uq Hhp21 (g := 11) (p := 69) rfl).2]; rfl)).trans h23
            have h34 : sf_rd hp32 69 38 = some (1 : Int) := (fhp32.2.2.1 _ (bs_R.uq Hhp21 (g := 11) (p := 69) rfl).1 _ (by rw [(bs_R.uq Hhp21 (g := 11) (p := 69) rfl).2]; rfl)).trans h24
            have h35 : sf_rd hp32 82 z12.toInt.toNat = some z13.toInt := (fhp32.2.2.1 _ (bs_R.uq Hhp21 (g := 143) (p := 82) rfl).1 _ (by rw [(bs_R.uq Hhp21 (g := 143) (p := 82) rfl).2]; rfl)).trans h25
            have h36 : sf_rd hp32 69 36 = some z20.toInt := (fhp32.2.2.1 _ (bs_R.uq Hhp21 (g := 11) (p := 69) rfl).1 _ (by rw [(bs_R.uq Hhp21 (g := 11) (p := 69) rfl).2]; rfl)).trans rhp21
            have h37 : sf_rd hp32 82 z26.toInt.toNat = some z28.toInt := (fhp32.2.2.1 _ (bs_R.uq Hhp21 (g := 143) (p := 82) rfl).1 _ (by rw [(bs_R.uq Hhp21 (g := 143) (p := 82) rfl).2]; rfl)).trans hz28
            refine (show Ev _ 70 ([some (.ref 69), some (.int x1)], [], (0, 0), hp32) _ from ?_)
            have X38 := xhp32 _ _ _ rfl rfl h22
            refine Ev.step (j := 0) (s' := ([some (.ref 69), some (.int x1)], [], (0, 0), hp32)) rfl rfl ?_
            have eu : z28.toInt = z13.toInt := Option.some.inj ((bs_at hz28 (show _ = ps5.toNat - 1 by omega)).symm.trans (((ehp21 _ _ (Or.inl (by decide)))).trans (bs_at hz13 (show _ = ps5.toNat - 1 by omega))))
            have SE := se_bin hs5 (by omega) (bs_at hz13 (show _ = ps5.toNat - 1 by omega)) (by omega) X38.1 rfl h33 h36 (by omega) h34 ((rfl).trans X38.2.1) (by omega) ((rfl).trans X38.2.2.1) (fun q hq => (rfl).trans ((X38.2.2.2 q hq).trans (ehp21 _ _ (Or.inl (by decide))))) (fun q => ((fhp32.2.2.1 _ (bs_R.uq Hhp21 (g := 143) (p := 82) rfl).1 _ (by rw [(bs_R.uq Hhp21 (g := 143) (p := 82) rfl).2]; rfl)).trans (ehp21 _ _ (Or.inl (by decide)))))
            have INV : ∃ c p : Int, se hp32 c O p 1 ∧ p ≤ P := ⟨_, _, SE, by omega⟩
            have MS : ((sf_rd hp32 69 36).getD 0).toNat < ((sf_rd hp1 69 36).getD 0).toNat := by
              rw [h36, hs5.2.2.1]
              show (z20.toInt).toNat < (ps5).toNat
              omega
            refine ih3 (hp32, thp32) ⟨Hhp32, Fhp32, (by exact INV)⟩ ?_
            show ((sf_rd hp32 69 36).getD 0).toNat < ((sf_rd hp1 69 36).getD 0).toNat
            exact MS
        · skip
          refine Ev.step (j := 24) (s' := ([some (.ref 69), some (.int x1)], [.ref 69], (0, 0), hp1)) rfl rfl ?_
          exact by
           refine bs_getU (g := 11) (g1 := 143) rfl rfl Hhp1 (bs_R.uq Hhp1 (g := 11) rfl) (by decide) rfl rfl ?_
           refine Ev.step (j := 28) (s' := ([some (.ref 69), some (.int x1)], [.ref 69, .ref 82], (0, 0), hp1)) rfl rfl ?_
           refine bs_getI 11 rfl rfl rfl Hhp1 (bs_R.uq Hhp1 (g := 11) rfl) (by decide) rfl fun z39 hz39 lz39 gz39 => ?_
           have e40 : z39.toInt = ps5 := Option.some.inj (hz39.symm.trans hs5.2.2.1)
           refine bs_lit (k := 1) rfl rfl fun z41 hz41 => ?_
           first | (refine bs_sub rfl (by omega) (by omega) fun z42 hz42 => ?_) | (refine bs_any rfl fun z42 => ?_)
           have rz42 := n_range z42
           refine bs_ld (g := 143) 0 44 (-2147483648, 2147483647) rfl Hhp1 (bs_R.uq Hhp1 (g := 143) rfl) (by decide) rfl (by decide) (by decide) rfl (by decide) (by omega) (by omega) fun z43 hz43 lz43 gz43 => ?_
           dsimp only at lz43 gz43
           refine bs_lit (k := 22) rfl rfl fun z44 hz44 => ?_
           exact by
            refine bs_ne rfl (fun c45 => ?_) (fun c45 => ?_)
            · skip
              exact Ev.ret rfl rfl (by rw [hQ]; exact ⟨t2, Hhp1, Fhp1, bs_anU, sf_S_nil, (fun c o p h => by have eo : o = O := Option.some.inj (h.2.1.symm.trans hG1.2.1); have ep : p = P := Option.some.inj (h.2.2.1.symm.trans hG1.2.2.1); subst eo ep; exact ⟨_, _, hs5, ls5, fun x hx h22 h0 v hv => by have hx2 : some (Value.int x1) = some (Value.int x) := hx; have hx3 : x1.toInt = x.toInt := congrArg Int32.toInt (Value.int.inj (Option.some.inj hx2)); have ev0 : v = z13.toInt := Option.some.inj (hv.symm.trans (bs_at hz13 (show _ = ps5.toNat - 1 by omega))); have ev1 : v = z43.toInt := Option.some.inj (hv.symm.trans (bs_at hz43 (show _ = ps5.toNat - 1 by omega))); refine ⟨?_, ?_⟩ <;> omega⟩)⟩)
            · skip
              have c46 : z43.toInt = 22 := by omega
              refine Ev.step (j := 40) (s' := ([some (.ref 69), some (.int x1)], [.int x1], (0, 0), hp1)) rfl rfl ?_
              refine bs_lit (k := 22) rfl rfl fun z47 hz47 => ?_
              refine bs_ne rfl (fun c48 => ?_) (fun c48 => ?_)
              · skip
                exact Ev.ret rfl rfl (by rw [hQ]; exact ⟨t2, Hhp1, Fhp1, bs_anU, sf_S_nil, (fun c o p h => by have eo : o = O := Option.some.inj (h.2.1.symm.trans hG1.2.1); have ep : p = P := Option.some.inj (h.2.2.1.symm.trans hG1.2.2.1); subst eo ep; exact ⟨_, _, hs5, ls5, fun x hx h22 h0 v hv => by have hx2 : some (Value.int x1) = some (Value.int x) := hx; have hx3 : x1.toInt = x.toInt := congrArg Int32.toInt (Value.int.inj (Option.some.inj hx2)); have ev0 : v = z13.toInt := Option.some.inj (hv.symm.trans (bs_at hz13 (show _ = ps5.toNat - 1 by omega))); have ev1 : v = z43.toInt := Option.some.inj (hv.symm.trans (bs_at hz43 (show _ = ps5.toNat - 1 by omega))); refine ⟨?_, ?_⟩ <;> omega⟩)⟩)
              · skip
                have c49 : x1.toInt = 22 := by omega
                refine Ev.step (j := 46) (s' := ([some (.ref 69), some (.int x1)], [.ref 69], (0, 0), hp1)) rfl rfl ?_
                refine Ev.step (j := 47) (s' := ([some (.ref 69), some (.int x1)], [.ref 69, .ref 69], (0, 0), hp1)) rfl rfl ?_
                exact by
                 refine bs_getI 11 rfl rfl rfl Hhp1 (bs_R.uq Hhp1 (g := 11) rfl) (by decide) rfl fun z50 hz50 lz50 gz50 => ?_
                 have e51 : z50.toInt = ps5 := Option.some.inj (hz50.symm.trans hs5.2.2.1)
                 refine bs_lit (k := 1) rfl rfl fun z52 hz52 => ?_
                 first | (refine bs_sub rfl (by omega) (by omega) fun z53 hz53 => ?_) | (refine bs_any rfl fun z53 => ?_)
                 have rz53 := n_range z53
                 refine bs_putI (W := [(11, 36, 36)]) (g := 11) rfl rfl Hhp1 (bs_R.uq Hhp1 (g := 11) rfl) (by decide) rfl rfl rfl rfl (Or.inl rfl) (by omega) (by omega) fun hp54 Hhp54 fhp54 rhp54 ehp54 qhp54 nhp54 => ?_
                 have Fhp54 := sf_fr_tr Fhp1 (sf_fr_wider (W := [(11, 34, 34), (11, 36, 36), (134, 0, 159)]) rfl fhp54)
                 have h55 : sf_rd hp54 69 34 = some cs5 := (ehp54 _ _ (Or.inr (by omega))).trans hs5.1
                 have h56 : sf_rd hp54 69 35 = some O := (ehp54 _ _ (Or.inr (by omega))).trans hs5.2.1
                 have h57 : sf_rd hp54 69 38 = some (1 : Int) := (ehp54 _ _ (Or.inr (by omega))).trans hs5.2.2.2.1
                 have h58 : sf_rd hp54 82 z12.toInt.toNat = some z13.toInt := (ehp54 _ _ (Or.inl (by decide))).trans hz13
                 have h59 : sf_rd hp54 82 z42.toInt.toNat = some z43.toInt := (ehp54 _ _ (Or.inl (by decide))).trans hz43
                 refine Ev.step (j := 56) (s' := ([some (.ref 69), some (.int x1)], [.ref 69], (0, 0), hp54)) rfl rfl ?_
                 exact by
                  refine Ev.step (j := 57) (s' := ([some (.ref 69), some (.int x1)], [.ref 69, .ref 69], (0, 0), hp54)) rfl rfl ?_
                  refine bs_getU (g := 11) (g1 := 143) rfl rfl Hhp54 (bs_R.uq Hhp54 (g := 11) rfl) (by decide) rfl rfl ?_
                  refine Ev.step (j := 61) (s' := ([some (.ref 69), some (.int x1)], [.ref 69, .ref 82, .ref 69], (0, 0), hp54)) rfl rfl ?_
                  refine bs_getI 11 rfl rfl rfl Hhp54 (bs_R.uq Hhp54 (g := 11) rfl) (by decide) rfl fun z60 hz60 lz60 gz60 => ?_
                  have e61 : z60.toInt = z53.toInt := Option.some.inj (hz60.symm.trans rhp54)
                  refine bs_ld (g := 143) 0 44 (-2147483648, 2147483647) rfl Hhp54 (bs_R.uq Hhp54 (g := 143) rfl) (by decide) rfl (by decide) (by decide) rfl (by decide) (by omega) (by omega) fun z62 hz62 lz62 gz62 => ?_
                  dsimp only at lz62 gz62
                  refine bs_lit (k := 0) rfl rfl fun z63 hz63 => ?_
                  refine bs_lit (k := 0) rfl rfl fun z64 hz64 => ?_
                  exact by
                   refine bs_callx (K := kq_X11_code_h) [.ref 69, .int z62, .int z63, .int z64] [] rfl ce_X11_code_h Hhp54 rfl rfl rfl (bs_rcv (g := 11) Hhp54 (bs_R.uq Hhp54 (g := 11) rfl) (by decide) rfl) rfl ?_ (sf_S_cons (sf_s1 (x := cs5) (show sf_v0 _ _ 36104 = _ from h55) (by omega) (by omega)) (sf_S_nil)) fun r65 hp66 thp66 Hhp66 fhp66 ahp66 php66 xhp66 => ?_
                   · intro q k h
                     match q, h with
                     | 0, h => cases h; exact bs_jR (bs_R.uq Hhp54 (g := 11) rfl)
                     | 1, h => cases h; exact sf_j0
                     | 2, h => cases h; exact sf_j0
                     | 3, h => cases h; exact sf_j0
                     | q + 4, h => cases h
                   obtain rfl := ahp66.1 rfl
                   have Fhp66 := sf_fr_tr Fhp54 (sf_fr_wider (W := [(11, 34, 34), (11, 36, 36), (134, 0, 159)]) rfl fhp66)
                   have h67 : sf_rd hp66 69 35 = some O := (fhp66.2.2.1 _ (bs_R.uq Hhp54 (g := 11) (p := 69) rfl).1 _ (by rw [(bs_R.uq Hhp54 (g := 11) (p := 69) rfl).2]; rfl)).trans h56
                   have h68 : sf_rd hp66 69 38 = some (1 : Int) := (fhp66.2.2.1 _ (bs_R.uq Hhp54 (g := 11) (p := 69) rfl).1 _ (by rw [(bs_R.uq Hhp54 (g := 11) (p := 69) rfl).2]; rfl)).trans h57
                   have h69 : sf_rd hp66 82 z12.toInt.toNat = some z13.toInt := (fhp66.2.2.1 _ (bs_R.uq Hhp54 (g := 143) (p := 82) rfl).1 _ (by rw [(bs_R.uq Hhp54 (g := 143) (p := 82) rfl).2]; rfl)).trans h58
                   have h70 : sf_rd hp66 82 z42.toInt.toNat = some z43.toInt := (fhp66.2.2.1 _ (bs_R.uq Hhp54 (g := 143) (p := 82) rfl).1 _ (by rw [(bs_R.uq Hhp54 (g := 143) (p := 82) rfl).2]; rfl)).trans h59
                   have h71 : sf_rd hp66 69 36 = some z53.toInt := (fhp66.2.2.1 _ (bs_R.uq Hhp54 (g := 11) (p := 69) rfl).1 _ (by rw [(bs_R.uq Hhp54 (g := 11) (p := 69) rfl).2]; rfl)).trans rhp54
                   have h72 : sf_rd hp66 82 z60.toInt.toNat = some z62.toInt := (fhp66.2.2.1 _ (bs_R.uq Hhp54 (g := 143) (p := 82) rfl).1 _ (by rw [(bs_R.uq Hhp54 (g := 143) (p := 82) rfl).2]; rfl)).trans hz62
                   refine (show Ev _ 70 ([some (.ref 69), some (.int x1)], [], (0, 0), hp66) _ from ?_)
                   have X73 := xhp66 _ _ _ rfl rfl h55
                   refine Ev.step (j := 0) (s' := ([some (.ref 69), some (.int x1)], [], (0, 0), hp66)) rfl rfl ?_
                   have eu : z62.toInt = z43.toInt := Option.some.inj ((bs_at hz62 (show _ = ps5.toNat - 1 by omega)).symm.trans (((ehp54 _ _ (Or.inl (by decide)))).trans (bs_at hz43 (show _ = ps5.toNat - 1 by omega))))
                   have SE := se_bin hs5 (by omega) (bs_at hz43 (show _ = ps5.toNat - 1 by omega)) (by omega) X73.1 rfl h67 h71 (by omega) h68 ((rfl).trans X73.2.1) (by omega) ((rfl).trans X73.2.2.1) (fun q hq => (rfl).trans ((X73.2.2.2 q hq).trans (ehp54 _ _ (Or.inl (by decide))))) (fun q => ((fhp66.2.2.1 _ (bs_R.uq Hhp54 (g := 143) (p := 82) rfl).1 _ (by rw [(bs_R.uq Hhp54 (g := 143) (p := 82) rfl).2]; rfl)).trans (ehp54 _ _ (Or.inl (by decide)))))
                   have INV : ∃ c p : Int, se hp66 c O p 1 ∧ p ≤ P := ⟨_, _, SE, by omega⟩
                   have MS : ((sf_rd hp66 69 36).getD 0).toNat < ((sf_rd hp1 69 36).getD 0).toNat := by
                     rw [h71, hs5.2.2.1]
                     show (z53.toInt).toNat < (ps5).toNat
                     omega
                   refine ih3 (hp66, thp66) ⟨Hhp66, Fhp66, (by exact INV)⟩ ?_
                   show ((sf_rd hp66 69 36).getD 0).toNat < ((sf_rd hp1 69 36).getD 0).toNat
                   exact MS
def kq_X11_isSign_4b5524 : sf_Q := ([(1, 11, 0), (0, 0, 0)], [(1, 3, 0, 41, 41, 0)], some (0, 0, 0), [(1, 0, 0, 0, 1, 0), (3, 0, 36035, 3, 3, 0), (3, 0, 36044, 41, 41, 0)], [])
def kc_X11_isSign_4b5524 : List (Nat × sf_I) := [(0, 4, [1, 0]),
  (1, 23, [4, 11, 11]),
  (4, 0, [5, 3]),
  (5, 21, [8, 20, 1]),
  (8, 4, [9, 0]),
  (9, 23, [12, 11, 14]),
  (12, 2, [13, 1]),
  (13, 21, [16, 20, 1]),
  (16, 0, [17, 1]),
  (17, 22, [21]),
  (20, 0, [21, 0]),
  (21, 36, [0, 0])]
def kd_X11_isSign_4b5524_0 : List (Nat × sf_D × sf_M) := [(0, ([(1, 11, 0), (0, 0, 0)], [], [(1, 4, 0, 41, 41, 0)], 0, 0), (10, [])),
  (1, ([(1, 11, 0), (0, 0, 0)], [(1, 11, 0)], [(1, 4, 0, 41, 41, 0)], 0, 0), (9, [])),
  (4, ([(1, 11, 0), (0, 0, 0)], [(0, 0, 2147483647)], [(1, 4, 0, 41, 41, 0), (1, 0, 0, -2147483648, 2147483647, 0), (1, 36035, 0, -2147483648, 2147483647, 0), (2, 0, 36035, 1, 0, 0)], 0, 0), (8, [])),
  (5, ([(1, 11, 0), (0, 0, 0)], [(0, 0, 0), (0, 0, 2147483647)], [(1, 4, 0, 41, 41, 0), (1, 0, 0, -2147483648, 2147483647, 0), (1, 36035, 0, -2147483648, 2147483647, 0), (1, 3, 0, 3, 3, 0), (2, 0, 36035, 1, 0, 0)], 0, 0), (7, [])),
  (8, ([(1, 11, 0), (0, 0, 0)], [], [(1, 4, 0, 41, 41, 0), (1, 36035, 0, 3, 3, 0)], 0, 0), (6, [])),
  (9, ([(1, 11, 0), (0, 0, 0)], [(1, 11, 0)], [(1, 4, 0, 41, 41, 0), (1, 36035, 0, 3, 3, 0)], 0, 0), (5, [])),
  (12, ([(1, 11, 0), (0, 0, 0)], [(0, 0, 9999)], [(1, 4, 0, 41, 41, 0), (1, 36035, 0, 3, 3, 0), (1, 0, 0, 0, 9999, 0), (1, 36044, 0, -2147483648, 2147483647, 0), (2, 0, 36044, 1, 0, 0)], 0, 0), (4, [])),
  (13, ([(1, 11, 0), (0, 0, 0)], [(0, 0, 0), (0, 0, 9999)], [(1, 4, 0, 41, 41, 0), (1, 36035, 0, 3, 3, 0), (1, 0, 0, 0, 9999, 0), (1, 36044, 0, -2147483648, 2147483647, 0), (1, 3, 0, 41, 41, 0), (2, 0, 36044, 1, 0, 0), (2, 3, 4, 1, 0, 0)], 0, 0), (3, [])),
  (16, ([(1, 11, 0), (0, 0, 0)], [], [(1, 4, 0, 41, 41, 0), (1, 36035, 0, 3, 3, 0), (1, 36044, 0, 41, 41, 0)], 0, 0), (2, []))]
def kd_X11_isSign_4b5524_1 : List (Nat × sf_D × sf_M) := [(17, ([(1, 11, 0), (0, 0, 0)], [(0, 0, 0)], [(1, 4, 0, 41, 41, 0), (1, 36035, 0, 3, 3, 0), (1, 36044, 0, 41, 41, 0), (1, 0, 0, 1, 1, 0)], 0, 0), (1, [])),
  (20, ([(1, 11, 0), (0, 0, 0)], [], [(1, 4, 0, 41, 41, 0), (1, 36035, 0, -2147483648, 2147483647, 0)], 0, 0), (1, [])),
  (21, ([(1, 11, 0), (0, 0, 0)], [(0, 0, 0)], [(1, 4, 0, 41, 41, 0), (1, 36035, 0, -2147483648, 2147483647, 0), (1, 0, 0, 0, 1, 0), (3, 0, 36035, 3, 3, 0), (3, 0, 36044, 41, 41, 0)], 0, 0), (0, []))]
def kd_X11_isSign_4b5524 : List (Nat × sf_D × sf_M) := kd_X11_isSign_4b5524_0 ++ (kd_X11_isSign_4b5524_1)
set_option maxRecDepth 100000 in
theorem kt_X11_isSign_4b5524 : sf_chk [] kq_X11_isSign_4b5524 2 kc_X11_isSign_4b5524 kd_X11_isSign_4b5524 = true := by decide +kernel
set_option maxRecDepth 100000 in
theorem kl_X11_isSign_4b5524 : (kc_X11_isSign_4b5524).map (fun c => (c.1, sf_den ([] : List sf_X) c.2)) = L_X11_isSign := rfl
theorem ct_X11_isSign_4b5524 : sf_ct kq_X11_isSign_4b5524 Z_X11_isSign := by
  have h := sf_meth (K := []) (E := []) (k := kq_X11_isSign_4b5524) (nL := 2) (C := kc_X11_isSign_4b5524) (D := kd_X11_isSign_4b5524) (fun m k hk => match m, hk with
    | _ + 0, hk => (by cases hk)) kt_X11_isSign_4b5524
  rw [kl_X11_isSign_4b5524] at h
  exact h
def kq_X11_behind_h : sf_Q := ([(1, 11, 0)], [], some (0, 0, 0), [(1, 0, 0, 0, 1, 0)], [(11, 4, 4), (11, 11, 17), (11, 34, 34), (11, 36, 38), (134, 0, 159), (143, 0, 44)])
def ke_X11_behind_h : List Value → ab_H → Option Value → ab_H → Prop := fun _ hp r hp' => ∀ c o p : Int, se hp c o p 1 → r = some (.int 1) → ∃ c' p' w' : Int, se hp' c' o p' w' ∧ ((w' = 0 ∧ p' ≤ p + 1) ∨ (w' = 1 ∧ p' + 1 ≤ p))
set_option maxRecDepth 100000 in
set_option maxHeartbeats 4000000 in
theorem cp_X11_behind_h : sf_cG kq_X11_behind_h Z_X11_behind (fun hp => ∃ c o p : Int, se hp c o p 1) ke_X11_behind_h := by
  intro t hp as H hl hj hpre hG
  match as, hl with
  | [v0], _ =>
    obtain ⟨a0, rfl, ra0⟩ := bs_aR (hj 0 _ rfl)
    obtain rfl := ra0.eq H (p := 69) rfl
    clear hpre hj
    have F0 : sf_fr [(11, 4, 4), (11, 11, 17), (11, 34, 34), (11, 36, 38), (134, 0, 159), (143, 0, 44)] t hp t hp := sf_fr_rf
    refine bs_finx (E := ke_X11_behind_h) (K := kq_X11_behind_h) (L := (L_X11_behind Z_X11_nots Z_X11_isWord Z_X11_joins Z_X11_next Z_X11_isSign Z_X11_bad)) (nL := 1) (Nat.le_of_ble_eq_true rfl) ?_
    obtain ⟨Q, hQ⟩ : ∃ Q : ab_O → Prop, Q = (fun o => ∃ t', sf_h t' o.2 ∧ sf_fr (kq_X11_behind_h).2.2.2.2 t hp t' o.2 ∧ sf_an t' o.2.1 (kq_X11_behind_h).2.2.1 o.1 ∧ sf_S (sf_v1 o.1 [.ref 69] o.2) (kq_X11_behind_h).2.2.2.1 ∧ ke_X11_behind_h [.ref 69] hp o.1 o.2) := ⟨_, rfl⟩
    rw [← hQ]
    refine (show Ev (ab_T (L_X11_behind Z_X11_nots Z_X11_isWord Z_X11_joins Z_X11_next Z_X11_isSign Z_X11_bad)) 0 ([some (.ref 69)], [], (0, 0), hp) Q from ?_)
    obtain ⟨C, O, P, hG1⟩ := hG
    have hb0 := hG1.al
    refine Ev.step (j := 1) (s' := ([some (.ref 69)], [.ref 69], (0, 0), hp)) rfl rfl ?_
    exact by
     refine bs_callp (K := kq_X11_nots_h) [.ref 69] [] rfl cp_X11_nots_h (⟨_, _, _, hG1⟩) H rfl rfl rfl (bs_rcv (g := 11) H (bs_R.uq H (g := 11) rfl) (by decide) rfl) rfl ?_ (sf_S_nil) fun r1 hp2 thp2 Hhp2 fhp2 ahp2 php2 xhp2 => ?_
     · intro q k h
       match q, h with
       | 0, h => cases h; exact bs_jR (bs_R.uq H (g := 11) rfl)
       | q + 1, h => cases h
     obtain rfl := ahp2.1 rfl
     have Fhp2 := sf_fr_tr F0 (sf_fr_wider (W := [(11, 4, 4), (11, 11, 17), (11, 34, 34), (11, 36, 38), (134, 0, 159), (143, 0, 44)]) rfl fhp2)
     refine (show Ev _ 4 ([some (.ref 69)], [], (0, 0), hp2) _ from ?_)
     obtain ⟨C1, P1, hs1, hl1⟩ := xhp2 _ _ _ hG1
     refine Ev.step (j := 5) (s' := ([some (.ref 69)], [.ref 69], (0, 0), hp2)) rfl rfl ?_
     refine Ev.step (j := 8) (s' := ([some (.ref 69)], [.long (6385252), .ref 69], (0, 0), hp2)) rfl rfl ?_
     refine bs_call (K := kq_X11_isWord_0799ed) [.ref 69, .long (6385252)] [] rfl ct_X11_isWord_0799ed Hhp2 rfl rfl rfl (bs_rcv (g := 11) Hhp2 (bs_R.uq Hhp2 (g := 11) rfl) (by decide) rfl) rfl ?_ (sf_S_nil) fun r3 hp4 thp4 Hhp4 fhp4 ahp4 php4 => ?_
     · intro q k h
       match q, h with
       | 0, h => cases h; exact bs_jR (bs_R.uq Hhp2 (g := 11) rfl)
       | 1, h => cases h; exact sf_j2
       | q + 2, h => cases h
     obtain ⟨z5, rfl⟩ := bs_anI ahp4
     have rgz5 := n_range z5
     have Fhp4 := sf_fr_tr Fhp2 (sf_fr_wider (W := [(11, 4, 4), (11, 11, 17), (11, 34, 34), (11, 36, 38), (134, 0, 159), (143, 0, 44)]) rfl fhp4)
     obtain ⟨uz5, vz5⟩ := bs_s1 (x := z5.toInt) rfl (php4 _ (List.mem_of_getElem? (i := 0) rfl))
     refine (show Ev _ 11 ([some (.ref 69)], [.int z5], (0, 0), hp4) _ from ?_)
     exact by
      refine bs_ifne rfl (fun c6 => ?_) (fun c6 => ?_)
      · skip
        refine Ev.step (j := 25) (s' := ([some (.ref 69)], [.ref 69], (0, 0), hp4)) rfl rfl ?_
        refine Ev.step (j := 26) (s' := ([some (.ref 69)], [.ref 69, .ref 69], (0, 0), hp4)) rfl rfl ?_
        refine Ev.step (j := 29) (s' := ([some (.ref 69)], [.long (6385252), .ref 69, .ref 69], (0, 0), hp4)) rfl rfl ?_
        refine bs_call (K := kq_X11_isWord_0799ed) [.ref 69, .long (6385252)] [.ref 69] rfl ct_X11_isWord_0799ed Hhp4 rfl rfl rfl (bs_rcv (g := 11) Hhp4 (bs_R.uq Hhp4 (g := 11) rfl) (by decide) rfl) rfl ?_ (sf_S_nil) fun r7 hp8 thp8 Hhp8 fhp8 ahp8 php8 => ?_
        · intro q k h
          match q, h with
          | 0, h => cases h; exact bs_jR (bs_R.uq Hhp4 (g := 11) rfl)
          | 1, h => cases h; exact sf_j2
          | q + 2, h => cases h
        obtain ⟨z9, rfl⟩ := bs_anI ahp8
        have rgz9 := n_range z9
        have Fhp8 := sf_fr_tr Fhp4 (sf_fr_wider (W := [(11, 4, 4), (11, 11, 17), (11, 34, 34), (11, 36, 38), (134, 0, 159), (143, 0, 44)]) rfl fhp8)
        obtain ⟨uz9, vz9⟩ := bs_s1 (x := z9.toInt) rfl (php8 _ (List.mem_of_getElem? (i := 0) rfl))
        refine (show Ev _ 32 ([some (.ref 69)], [.int z9, .ref 69], (0, 0), hp8) _ from ?_)
        exact by
         refine bs_ifeq rfl (fun c10 => ?_) (fun c10 => ?_)
         · skip
           have c11 : z9.toInt = 0 := by omega
           refine bs_lit (k := 22) rfl rfl fun z12 hz12 => ?_
           have s13 := se_fr Hhp2 fhp4 rfl hs1
           have s14 := se_fr Hhp4 fhp8 rfl s13
           refine bs_callp (K := kq_X11_joins_h) [.ref 69, .int z12] [] rfl cp_X11_joins_h (⟨_, _, _, s14⟩) Hhp8 rfl rfl rfl (bs_rcv (g := 11) Hhp8 (bs_R.uq Hhp8 (g := 11) rfl) (by decide) rfl) rfl ?_ (sf_S_nil) fun r15 hp16 thp16 Hhp16 fhp16 ahp16 php16 xhp16 => ?_
           · intro q k h
             match q, h with
             | 0, h => cases h; exact bs_jR (bs_R.uq Hhp8 (g := 11) rfl)
             | 1, h => cases h; exact sf_j0
             | q + 2, h => cases h
           obtain rfl := ahp16.1 rfl
           have Fhp16 := sf_fr_tr Fhp8 (sf_fr_wider (W := [(11, 4, 4), (11, 11, 17), (11, 34, 34), (11, 36, 38), (134, 0, 159), (143, 0, 44)]) rfl fhp16)
           refine (show Ev _ 45 ([some (.ref 69)], [], (0, 0), hp16) _ from ?_)
           obtain ⟨C2, P2, hs2, hl2, hj2⟩ := xhp16 _ _ _ s14
           have hbhs2 := hs2.al
           refine Ev.step (j := 46) (s' := ([some (.ref 69)], [.ref 69], (0, 0), hp16)) rfl rfl ?_
           exact by
            refine bs_getU (g := 11) (g1 := 143) rfl rfl Hhp16 (bs_R.uq Hhp16 (g := 11) rfl) (by decide) rfl rfl ?_
            refine Ev.step (j := 50) (s' := ([some (.ref 69)], [.ref 69, .ref 82], (0, 0), hp16)) rfl rfl ?_
            refine bs_getI 11 rfl rfl rfl Hhp16 (bs_R.uq Hhp16 (g := 11) rfl) (by decide) rfl fun z17 hz17 lz17 gz17 => ?_
            have e18 : z17.toInt = P2 := Option.some.inj (hz17.symm.trans hs2.2.2.1)
            refine Ev.step (j := 54) (s' := ([some (.ref 69)], [.ref 69, .int z17, .ref 82], (0, 0), hp16)) rfl rfl ?_
            refine Ev.step (j := 57) (s' := ([some (.ref 69)], [.long (6385252), .ref 69, .int z17, .ref 82], (0, 0), hp16)) rfl rfl ?_
            refine bs_call (K := kq_X11_isWord_0799ed) [.ref 69, .long (6385252)] [.int z17, .ref 82] rfl ct_X11_isWord_0799ed Hhp16 rfl rfl rfl (bs_rcv (g := 11) Hhp16 (bs_R.uq Hhp16 (g := 11) rfl) (by decide) rfl) rfl ?_ (sf_S_nil) fun r19 hp20 thp20 Hhp20 fhp20 ahp20 php20 => ?_
            · intro q k h
              match q, h with
              | 0, h => cases h; exact bs_jR (bs_R.uq Hhp16 (g := 11) rfl)
              | 1, h => cases h; exact sf_j2
              | q + 2, h => cases h
            obtain ⟨z21, rfl⟩ := bs_anI ahp20
            have rgz21 := n_range z21
            have Fhp20 := sf_fr_tr Fhp16 (sf_fr_wider (W := [(11, 4, 4), (11, 11, 17), (11, 34, 34), (11, 36, 38), (134, 0, 159), (143, 0, 44)]) rfl fhp20)
            have h22 : sf_rd hp20 69 34 = some C2 := (fhp20.2.2.1 _ (bs_R.uq Hhp16 (g := 11) (p := 69) rfl).1 _ (by rw [(bs_R.uq Hhp16 (g := 11) (p := 69) rfl).2]; rfl)).trans hs2.1
            have h23 : sf_rd hp20 69 35 = some O := (fhp20.2.2.1 _ (bs_R.uq Hhp16 (g := 11) (p := 69) rfl).1 _ (by rw [(bs_R.uq Hhp16 (g := 11) (p := 69) rfl).2]; rfl)).trans hs2.2.1
            have h24 : sf_rd hp20 69 36 = some P2 := (fhp20.2.2.1 _ (bs_R.uq Hhp16 (g := 11) (p := 69) rfl).1 _ (by rw [(bs_R.uq Hhp16 (g := 11) (p := 69) rfl).2]; rfl)).trans hs2.2.2.1
            have h25 : sf_rd hp20 69 38 = some (1 : Int) := (fhp20.2.2.1 _ (bs_R.uq Hhp16 (g := 11) (p := 69) rfl).1 _ (by rw [(bs_R.uq Hhp16 (g := 11) (p := 69) rfl).2]; rfl)).trans hs2.2.2.2.1
            obtain ⟨uz21, vz21⟩ := bs_s1 (x := z21.toInt) rfl (php20 _ (List.mem_of_getElem? (i := 0) rfl))
            refine (show Ev _ 60 ([some (.ref 69)], [.int z21, .int z17, .ref 82], (0, 0), hp20) _ from ?_)
            exact by
             refine bs_ifeq rfl (fun c26 => ?_) (fun c26 => ?_)
             · skip
               have c27 : z21.toInt = 0 := by omega
               refine bs_lit (k := 22) rfl rfl fun z28 hz28 => ?_
               refine bs_st (W := [(143, 0, 44)]) (g := 143) 0 44 (-2147483648, 2147483647) rfl Hhp20 (bs_R.uq Hhp20 (g := 143) rfl) (by decide) rfl rfl (by decide) rfl rfl (by omega) (by omega) (by dsimp only; omega) (by dsimp only; omega) fun hp29 Hhp29 fhp29 rhp29 ehp29 qhp29 nhp29 => ?_
               have Fhp29 := sf_fr_tr Fhp20 (sf_fr_wider (W := [(11, 4, 4), (11, 11, 17), (11, 34, 34), (11, 36, 38), (134, 0, 159), (143, 0, 44)]) rfl fhp29)
               have h30 : sf_rd hp29 69 34 = some C2 := (ehp29 _ _ (Or.inl (by decide))).trans h22
               have h31 : sf_rd hp29 69 35 = some O := (ehp29 _ _ (Or.inl (by decide))).trans h23
               have h32 : sf_rd hp29 69 36 = some P2 := (ehp29 _ _ (Or.inl (by decide))).trans h24
               have h33 : sf_rd hp29 69 38 = some (1 : Int) := (ehp29 _ _ (Or.inl (by decide))).trans h25
               refine Ev.step (j := 72) (s' := ([some (.ref 69)], [.ref 69], (0, 0), hp29)) rfl rfl ?_
               exact by
                refine Ev.step (j := 73) (s' := ([some (.ref 69)], [.ref 69, .ref 69], (0, 0), hp29)) rfl rfl ?_
                refine bs_getI 11 rfl rfl rfl Hhp29 (bs_R.uq Hhp29 (g := 11) rfl) (by decide) rfl fun z34 hz34 lz34 gz34 => ?_
                have e35 : z34.toInt = P2 := Option.some.inj (hz34.symm.trans h32)
                refine bs_lit (k := 1) rfl rfl fun z36 hz36 => ?_
                first | (refine bs_add rfl (by omega) (by omega) fun z37 hz37 => ?_) | (refine bs_any rfl fun z37 => ?_)
                have rz37 := n_range z37
                refine bs_putI (W := [(11, 36, 36)]) (g := 11) rfl rfl Hhp29 (bs_R.uq Hhp29 (g := 11) rfl) (by decide) rfl rfl rfl rfl (Or.inl rfl) (by omega) (by omega) fun hp38 Hhp38 fhp38 rhp38 ehp38 qhp38 nhp38 => ?_
                have Fhp38 := sf_fr_tr Fhp29 (sf_fr_wider (W := [(11, 4, 4), (11, 11, 17), (11, 34, 34), (11, 36, 38), (134, 0, 159), (143, 0, 44)]) rfl fhp38)
                have h39 : sf_rd hp38 69 34 = some C2 := (ehp38 _ _ (Or.inr (by omega))).trans h30
                have h40 : sf_rd hp38 69 35 = some O := (ehp38 _ _ (Or.inr (by omega))).trans h31
                have h41 : sf_rd hp38 69 38 = some (1 : Int) := (ehp38 _ _ (Or.inr (by omega))).trans h33
                have h42 : sf_rd hp38 82 z17.toInt.toNat = some z28.toInt := (ehp38 _ _ (Or.inl (by decide))).trans rhp29
                refine Ev.step (j := 82) (s' := ([some (.ref 69)], [.ref 69], (0, 0), hp38)) rfl rfl ?_
                exact by
                 refine bs_lit (k := 0) rfl rfl fun z43 hz43 => ?_
                 refine bs_putI (W := [(11, 38, 38)]) (g := 11) rfl rfl Hhp38 (bs_R.uq Hhp38 (g := 11) rfl) (by decide) rfl rfl rfl rfl (Or.inr ⟨rfl, by omega, by omega⟩) (by omega) (by omega) fun hp44 Hhp44 fhp44 rhp44 ehp44 qhp44 nhp44 => ?_
                 have Fhp44 := sf_fr_tr Fhp38 (sf_fr_wider (W := [(11, 4, 4), (11, 11, 17), (11, 34, 34), (11, 36, 38), (134, 0, 159), (143, 0, 44)]) rfl fhp44)
                 have h45 : sf_rd hp44 69 34 = some C2 := (ehp44 _ _ (Or.inr (by omega))).trans h39
                 have h46 : sf_rd hp44 69 35 = some O := (ehp44 _ _ (Or.inr (by omega))).trans h40
                 have h47 : sf_rd hp44 82 z17.toInt.toNat = some z28.toInt := (ehp44 _ _ (Or.inl (by decide))).trans h42
                 have h48 : sf_rd hp44 69 36 = some z37.toInt := (ehp44 _ _ (Or.inr (by omega))).trans rhp38
                 refine Ev.step (j := 87) (s' := ([some (.ref 69)], [.ref 69], (0, 0), hp44)) rfl rfl ?_
                 exact by
                  refine bs_call (K := kq_X11_next_h) [.ref 69] [] rfl ct_X11_next_h Hhp44 rfl rfl rfl (bs_rcv (g := 11) Hhp44 (bs_R.uq Hhp44 (g := 11) rfl) (by decide) rfl) rfl ?_ (sf_S_nil) fun r49 hp50 thp50 Hhp50 fhp50 ahp50 php50 => ?_
                  · intro q k h
                    match q, h with
                    | 0, h => cases h; exact bs_jR (bs_R.uq Hhp44 (g := 11) rfl)
                    | q + 1, h => cases h
                  obtain rfl := ahp50.1 rfl
                  have Fhp50 := sf_fr_tr Fhp44 (sf_fr_wider (W := [(11, 4, 4), (11, 11, 17), (11, 34, 34), (11, 36, 38), (134, 0, 159), (143, 0, 44)]) rfl fhp50)
                  have h51 : sf_rd hp50 69 34 = some C2 := (fhp50.2.2.1 _ (bs_R.uq Hhp44 (g := 11) (p := 69) rfl).1 _ (by rw [(bs_R.uq Hhp44 (g := 11) (p := 69) rfl).2]; rfl)).trans h45
                  have h52 : sf_rd hp50 69 35 = some O := (fhp50.2.2.1 _ (bs_R.uq Hhp44 (g := 11) (p := 69) rfl).1 _ (by rw [(bs_R.uq Hhp44 (g := 11) (p := 69) rfl).2]; rfl)).trans h46
                  have h53 : sf_rd hp50 82 z17.toInt.toNat = some z28.toInt := (fhp50.2.2.1 _ (bs_R.uq Hhp44 (g := 143) (p := 82) rfl).1 _ (by rw [(bs_R.uq Hhp44 (g := 143) (p := 82) rfl).2]; rfl)).trans h47
                  have h54 : sf_rd hp50 69 36 = some z37.toInt := (fhp50.2.2.1 _ (bs_R.uq Hhp44 (g := 11) (p := 69) rfl).1 _ (by rw [(bs_R.uq Hhp44 (g := 11) (p := 69) rfl).2]; rfl)).trans h48
                  have h55 : sf_rd hp50 69 38 = some z43.toInt := (fhp50.2.2.1 _ (bs_R.uq Hhp44 (g := 11) (p := 69) rfl).1 _ (by rw [(bs_R.uq Hhp44 (g := 11) (p := 69) rfl).2]; rfl)).trans rhp44
                  refine (show Ev _ 90 ([some (.ref 69)], [], (0, 0), hp50) _ from ?_)
                  exact by
                   refine bs_lit (k := 1) rfl rfl fun z56 hz56 => ?_
                   exact bs_zret rfl rfl (by omega) (by omega) (by rw [hQ]; exact ⟨thp50, Hhp50, Fhp50, bs_an0, sf_S_cons (sf_s1 (x := z56.toInt) rfl (by omega) (by omega)) (sf_S_nil), (fun c o p h hr => by have eo : o = O := Option.some.inj (h.2.1.symm.trans hG1.2.1); have ep : p = P := Option.some.inj (h.2.2.1.symm.trans hG1.2.2.1); subst eo ep; exact ⟨_, _, _, se_pushb hs2 h51 h52 h54 (by omega) h55 (by omega) ((((fhp50.2.2.1 _ (bs_R.uq Hhp44 (g := 143) (p := 82) rfl).1 _ (by rw [(bs_R.uq Hhp44 (g := 143) (p := 82) rfl).2]; rfl)).trans ((ehp44 _ _ (Or.inl (by decide))).trans (ehp38 _ _ (Or.inl (by decide)))))).trans (bs_at rhp29 (by omega))) (by omega) (fun q => ((fhp50.2.2.1 _ (bs_R.uq Hhp44 (g := 134) (p := 73) rfl).1 _ (by rw [(bs_R.uq Hhp44 (g := 134) (p := 73) rfl).2]; rfl)).trans ((ehp44 _ _ (Or.inl (by decide))).trans ((ehp38 _ _ (Or.inl (by decide))).trans ((ehp29 _ _ (Or.inl (by decide))).trans (fhp20.2.2.1 _ (bs_R.uq Hhp16 (g := 134) (p := 73) rfl).1 _ (by rw [(bs_R.uq Hhp16 (g := 134) (p := 73) rfl).2]; rfl))))))) (fun q hq => ((fhp50.2.2.1 _ (bs_R.uq Hhp44 (g := 143) (p := 82) rfl).1 _ (by rw [(bs_R.uq Hhp44 (g := 143) (p := 82) rfl).2]; rfl)).trans ((ehp44 _ _ (Or.inl (by decide))).trans ((ehp38 _ _ (Or.inl (by decide))).trans ((ehp29 _ _ (Or.inr (by omega))).trans (fhp20.2.2.1 _ (bs_R.uq Hhp16 (g := 143) (p := 82) rfl).1 _ (by rw [(bs_R.uq Hhp16 (g := 143) (p := 82) rfl).2]; rfl))))))), Or.inl ⟨rfl, by omega⟩⟩)⟩)
             · skip
               refine bs_lit (k := 21) rfl rfl fun z57 hz57 => ?_
               exact by
                refine Ev.step (j := 70) (s' := ([some (.ref 69)], [.int z57, .int z17, .ref 82], (0, 0), hp20)) rfl rfl ?_
                refine bs_st (W := [(143, 0, 44)]) (g := 143) 0 44 (-2147483648, 2147483647) rfl Hhp20 (bs_R.uq Hhp20 (g := 143) rfl) (by decide) rfl rfl (by decide) rfl rfl (by omega) (by omega) (by dsimp only; omega) (by dsimp only; omega) fun hp58 Hhp58 fhp58 rhp58 ehp58 qhp58 nhp58 => ?_
                have Fhp58 := sf_fr_tr Fhp20 (sf_fr_wider (W := [(11, 4, 4), (11, 11, 17), (11, 34, 34), (11, 36, 38), (134, 0, 159), (143, 0, 44)]) rfl fhp58)
                have h59 : sf_rd hp58 69 34 = some C2 := (ehp58 _ _ (Or.inl (by decide))).trans h22
                have h60 : sf_rd hp58 69 35 = some O := (ehp58 _ _ (Or.inl (by decide))).trans h23
                have h61 : sf_rd hp58 69 36 = some P2 := (ehp58 _ _ (Or.inl (by decide))).trans h24
                have h62 : sf_rd hp58 69 38 = some (1 : Int) := (ehp58 _ _ (Or.inl (by decide))).trans h25
                refine Ev.step (j := 72) (s' := ([some (.ref 69)], [.ref 69], (0, 0), hp58)) rfl rfl ?_
                exact by
                 refine Ev.step (j := 73) (s' := ([some (.ref 69)], [.ref 69, .ref 69], (0, 0), hp58)) rfl rfl ?_
                 refine bs_getI 11 rfl rfl rfl Hhp58 (bs_R.uq Hhp58 (g := 11) rfl) (by decide) rfl fun z63 hz63 lz63 gz63 => ?_
                 have e64 : z63.toInt = P2 := Option.some.inj (hz63.symm.trans h61)
                 refine bs_lit (k := 1) rfl rfl fun z65 hz65 => ?_
                 first | (refine bs_add rfl (by omega) (by omega) fun z66 hz66 => ?_) | (refine bs_any rfl fun z66 => ?_)
                 have rz66 := n_range z66
                 refine bs_putI (W := [(11, 36, 36)]) (g := 11) rfl rfl Hhp58 (bs_R.uq Hhp58 (g := 11) rfl) (by decide) rfl rfl rfl rfl (Or.inl rfl) (by omega) (by omega) fun hp67 Hhp67 fhp67 rhp67 ehp67 qhp67 nhp67 => ?_
                 have Fhp67 := sf_fr_tr Fhp58 (sf_fr_wider (W := [(11, 4, 4), (11, 11, 17), (11, 34, 34), (11, 36, 38), (134, 0, 159), (143, 0, 44)]) rfl fhp67)
                 have h68 : sf_rd hp67 69 34 = some C2 := (ehp67 _ _ (Or.inr (by omega))).trans h59
                 have h69 : sf_rd hp67 69 35 = some O := (ehp67 _ _ (Or.inr (by omega))).trans h60
                 have h70 : sf_rd hp67 69 38 = some (1 : Int) := (ehp67 _ _ (Or.inr (by omega))).trans h62
                 have h71 : sf_rd hp67 82 z17.toInt.toNat = some z57.toInt := (ehp67 _ _ (Or.inl (by decide))).trans rhp58
                 refine Ev.step (j := 82) (s' := ([some (.ref 69)], [.ref 69], (0, 0), hp67)) rfl rfl ?_
                 exact by
                  refine bs_lit (k := 0) rfl rfl fun z72 hz72 => ?_
                  refine bs_putI (W := [(11, 38, 38)]) (g := 11) rfl rfl Hhp67 (bs_R.uq Hhp67 (g := 11) rfl) (by decide) rfl rfl rfl rfl (Or.inr ⟨rfl, by omega, by omega⟩) (by omega) (by omega) fun hp73 Hhp73 fhp73 rhp73 ehp73 qhp73 nhp73 => ?_
                  have Fhp73 := sf_fr_tr Fhp67 (sf_fr_wider (W := [(11, 4, 4), (11, 11, 17), (11, 34, 34), (11, 36, 38), (134, 0, 159), (143, 0, 44)]) rfl fhp73)
                  have h74 : sf_rd hp73 69 34 = some C2 := (ehp73 _ _ (Or.inr (by omega))).trans h68
                  have h75 : sf_rd hp73 69 35 = some O := (ehp73 _ _ (Or.inr (by omega))).trans h69
                  have h76 : sf_rd hp73 82 z17.toInt.toNat = some z57.toInt := (ehp73 _ _ (Or.inl (by decide))).trans h71
                  have h77 : sf_rd hp73 69 36 = some z66.toInt := (ehp73 _ _ (Or.inr (by omega))).trans rhp67
                  refine Ev.step (j := 87) (s' := ([some (.ref 69)], [.ref 69], (0, 0), hp73)) rfl rfl ?_
                  exact by
                   refine bs_call (K := kq_X11_next_h) [.ref 69] [] rfl ct_X11_next_h Hhp73 rfl rfl rfl (bs_rcv (g := 11) Hhp73 (bs_R.uq Hhp73 (g := 11) rfl) (by decide) rfl) rfl ?_ (sf_S_nil) fun r78 hp79 thp79 Hhp79 fhp79 ahp79 php79 => ?_
                   · intro q k h
                     match q, h with
                     | 0, h => cases h; exact bs_jR (bs_R.uq Hhp73 (g := 11) rfl)
                     | q + 1, h => cases h
                   obtain rfl := ahp79.1 rfl
                   have Fhp79 := sf_fr_tr Fhp73 (sf_fr_wider (W := [(11, 4, 4), (11, 11, 17), (11, 34, 34), (11, 36, 38), (134, 0, 159), (143, 0, 44)]) rfl fhp79)
                   have h80 : sf_rd hp79 69 34 = some C2 := (fhp79.2.2.1 _ (bs_R.uq Hhp73 (g := 11) (p := 69) rfl).1 _ (by rw [(bs_R.uq Hhp73 (g := 11) (p := 69) rfl).2]; rfl)).trans h74
                   have h81 : sf_rd hp79 69 35 = some O := (fhp79.2.2.1 _ (bs_R.uq Hhp73 (g := 11) (p := 69) rfl).1 _ (by rw [(bs_R.uq Hhp73 (g := 11) (p := 69) rfl).2]; rfl)).trans h75
                   have h82 : sf_rd hp79 82 z17.toInt.toNat = some z57.toInt := (fhp79.2.2.1 _ (bs_R.uq Hhp73 (g := 143) (p := 82) rfl).1 _ (by rw [(bs_R.uq Hhp73 (g := 143) (p := 82) rfl).2]; rfl)).trans h76
                   have h83 : sf_rd hp79 69 36 = some z66.toInt := (fhp79.2.2.1 _ (bs_R.uq Hhp73 (g := 11) (p := 69) rfl).1 _ (by rw [(bs_R.uq Hhp73 (g := 11) (p := 69) rfl).2]; rfl)).trans h77
                   have h84 : sf_rd hp79 69 38 = some z72.toInt := (fhp79.2.2.1 _ (bs_R.uq Hhp73 (g := 11) (p := 69) rfl).1 _ (by rw [(bs_R.uq Hhp73 (g := 11) (p := 69) rfl).2]; rfl)).trans rhp73
                   refine (show Ev _ 90 ([some (.ref 69)], [], (0, 0), hp79) _ from ?_)
                   exact by
                    refine bs_lit (k := 1) rfl rfl fun z85 hz85 => ?_
                    exact bs_zret rfl rfl (by omega) (by omega) (by rw [hQ]; exact ⟨thp79, Hhp79, Fhp79, bs_an0, sf_S_cons (sf_s1 (x := z85.toInt) rfl (by omega) (by omega)) (sf_S_nil), (fun c o p h hr => by have eo : o = O := Option.some.inj (h.2.1.symm.trans hG1.2.1); have ep : p = P := Option.some.inj (h.2.2.1.symm.trans hG1.2.2.1); subst eo ep; exact ⟨_, _, _, se_pushb hs2 h80 h81 h83 (by omega) h84 (by omega) ((((fhp79.2.2.1 _ (bs_R.uq Hhp73 (g := 143) (p := 82) rfl).1 _ (by rw [(bs_R.uq Hhp73 (g := 143) (p := 82) rfl).2]; rfl)).trans ((ehp73 _ _ (Or.inl (by decide))).trans (ehp67 _ _ (Or.inl (by decide)))))).trans (bs_at rhp58 (by omega))) (by omega) (fun q => ((fhp79.2.2.1 _ (bs_R.uq Hhp73 (g := 134) (p := 73) rfl).1 _ (by rw [(bs_R.uq Hhp73 (g := 134) (p := 73) rfl).2]; rfl)).trans ((ehp73 _ _ (Or.inl (by decide))).trans ((ehp67 _ _ (Or.inl (by decide))).trans ((ehp58 _ _ (Or.inl (by decide))).trans (fhp20.2.2.1 _ (bs_R.uq Hhp16 (g := 134) (p := 73) rfl).1 _ (by rw [(bs_R.uq Hhp16 (g := 134) (p := 73) rfl).2]; rfl))))))) (fun q hq => ((fhp79.2.2.1 _ (bs_R.uq Hhp73 (g := 143) (p := 82) rfl).1 _ (by rw [(bs_R.uq Hhp73 (g := 143) (p := 82) rfl).2]; rfl)).trans ((ehp73 _ _ (Or.inl (by decide))).trans ((ehp67 _ _ (Or.inl (by decide))).trans ((ehp58 _ _ (Or.inr (by omega))).trans (fhp20.2.2.1 _ (bs_R.uq Hhp16 (g := 143) (p := 82) rfl).1 _ (by rw [(bs_R.uq Hhp16 (g := 143) (p := 82) rfl).2]; rfl))))))), Or.inl ⟨rfl, by omega⟩⟩)⟩)
         · skip
           refine bs_lit (k := 21) rfl rfl fun z86 hz86 => ?_
           exact by
            refine Ev.step (j := 42) (s' := ([some (.ref 69)], [.int z86, .ref 69], (0, 0), hp8)) rfl rfl ?_
            have s87 := se_fr Hhp2 fhp4 rfl hs1
            have s88 := se_fr Hhp4 fhp8 rfl s87
            refine bs_callp (K := kq_X11_joins_h) [.ref 69, .int z86] [] rfl cp_X11_joins_h (⟨_, _, _, s88⟩) Hhp8 rfl rfl rfl (bs_rcv (g := 11) Hhp8 (bs_R.uq Hhp8 (g := 11) rfl) (by decide) rfl) rfl ?_ (sf_S_nil) fun r89 hp90 thp90 Hhp90 fhp90 ahp90 php90 xhp90 => ?_
            · intro q k h
              match q, h with
              | 0, h => cases h; exact bs_jR (bs_R.uq Hhp8 (g := 11) rfl)
              | 1, h => cases h; exact sf_j0
              | q + 2, h => cases h
            obtain rfl := ahp90.1 rfl
            have Fhp90 := sf_fr_tr Fhp8 (sf_fr_wider (W := [(11, 4, 4), (11, 11, 17), (11, 34, 34), (11, 36, 38), (134, 0, 159), (143, 0, 44)]) rfl fhp90)
            refine (show Ev _ 45 ([some (.ref 69)], [], (0, 0), hp90) _ from ?_)
            obtain ⟨C2, P2, hs2, hl2, hj2⟩ := xhp90 _ _ _ s88
            have hbhs2 := hs2.al
            refine Ev.step (j := 46) (s' := ([some (.ref 69)], [.ref 69], (0, 0), hp90)) rfl rfl ?_
            exact by
             refine bs_getU (g := 11) (g1 := 143) rfl rfl Hhp90 (bs_R.uq Hhp90 (g := 11) rfl) (by decide) rfl rfl ?_
             refine Ev.step (j := 50) (s' := ([some (.ref 69)], [.ref 69, .ref 82], (0, 0), hp90)) rfl rfl ?_
             refine bs_getI 11 rfl rfl rfl Hhp90 (bs_R.uq Hhp90 (g := 11) rfl) (by decide) rfl fun z91 hz91 lz91 gz91 => ?_
             have e92 : z91.toInt = P2 := Option.some.inj (hz91.symm.trans hs2.2.2.1)
             refine Ev.step (j := 54) (s' := ([some (.ref 69)], [.ref 69, .int z91, .ref 82], (0, 0), hp90)) rfl rfl ?_
             refine Ev.step (j := 57) (s' := ([some (.ref 69)], [.long (6385252), .ref 69, .int z91, .ref 82], (0, 0), hp90)) rfl rfl ?_
             refine bs_call (K := kq_X11_isWord_0799ed) [.ref 69, .long (6385252)] [.int z91, .ref 82] rfl ct_X11_isWord_0799ed Hhp90 rfl rfl rfl (bs_rcv (g := 11) Hhp90 (bs_R.uq Hhp90 (g := 11) rfl) (by decide) rfl) rfl ?_ (sf_S_nil) fun r93 hp94 thp94 Hhp94 fhp94 ahp94 php94 => ?_
             · intro q k h
               match q, h with
               | 0, h => cases h; exact bs_jR (bs_R.uq Hhp90 (g := 11) rfl)
               | 1, h => cases h; exact sf_j2
               | q + 2, h => cases h
             obtain ⟨z95, rfl⟩ := bs_anI ahp94
             have rgz95 := n_range z95
             have Fhp94 := sf_fr_tr Fhp90 (sf_fr_wider (W := [(11, 4, 4), (11, 11, 17), (11, 34, 34), (11, 36, 38), (134, 0, 159), (143, 0, 44)]) rfl fhp94)
             have h96 : sf_rd hp94 69 34 = some C2 := (fhp94.2.2.1 _ (bs_R.uq Hhp90 (g := 11) (p := 69) rfl).1 _ (by rw [(bs_R.uq Hhp90 (g := 11) (p := 69) rfl).2]; rfl)).trans hs2.1
             have h97 : sf_rd hp94 69 35 = some O := (fhp94.2.2.1 _ (bs_R.uq Hhp90 (g := 11) (p := 69) rfl).1 _ (by rw [(bs_R.uq Hhp90 (g := 11) (p := 69) rfl).2]; rfl)).trans hs2.2.1
             have h98 : sf_rd hp94 69 36 = some P2 := (fhp94.2.2.1 _ (bs_R.uq Hhp90 (g := 11) (p := 69) rfl).1 _ (by rw [(bs_R.uq Hhp90 (g := 11) (p := 69) rfl).2]; rfl)).trans hs2.2.2.1
             have h99 : sf_rd hp94 69 38 = some (1 : Int) := (fhp94.2.2.1 _ (bs_R.uq Hhp90 (g := 11) (p := 69) rfl).1 _ (by rw [(bs_R.uq Hhp90 (g := 11) (p := 69) rfl).2]; rfl)).trans hs2.2.2.2.1
             obtain ⟨uz95, vz95⟩ := bs_s1 (x := z95.toInt) rfl (php94 _ (List.mem_of_getElem? (i := 0) rfl))
             refine (show Ev _ 60 ([some (.ref 69)], [.int z95, .int z91, .ref 82], (0, 0), hp94) _ from ?_)
             exact by
              refine bs_ifeq rfl (fun c100 => ?_) (fun c100 => ?_)
              · skip
                have c101 : z95.toInt = 0 := by omega
                refine bs_lit (k := 22) rfl rfl fun z102 hz102 => ?_
                refine bs_st (W := [(143, 0, 44)]) (g := 143) 0 44 (-2147483648, 2147483647) rfl Hhp94 (bs_R.uq Hhp94 (g := 143) rfl) (by decide) rfl rfl (by decide) rfl rfl (by omega) (by omega) (by dsimp only; omega) (by dsimp only; omega) fun hp103 Hhp103 fhp103 rhp103 ehp103 qhp103 nhp103 => ?_
                have Fhp103 := sf_fr_tr Fhp94 (sf_fr_wider (W := [(11, 4, 4), (11, 11, 17), (11, 34, 34), (11, 36, 38), (134, 0, 159), (143, 0, 44)]) rfl fhp103)
                have h104 : sf_rd hp103 69 34 = some C2 := (ehp103 _ _ (Or.inl (by decide))).trans h96
                have h105 : sf_rd hp103 69 35 = some O := (ehp103 _ _ (Or.inl (by decide))).trans h97
                have h106 : sf_rd hp103 69 36 = some P2 := (ehp103 _ _ (Or.inl (by decide))).trans h98
                have h107 : sf_rd hp103 69 38 = some (1 : Int) := (ehp103 _ _ (Or.inl (by decide))).trans h99
                refine Ev.step (j := 72) (s' := ([some (.ref 69)], [.ref 69], (0, 0), hp103)) rfl rfl ?_
                exact by
                 refine Ev.step (j := 73) (s' := ([some (.ref 69)], [.ref 69, .ref 69], (0, 0), hp103)) rfl rfl ?_
                 refine bs_getI 11 rfl rfl rfl Hhp103 (bs_R.uq Hhp103 (g := 11) rfl) (by decide) rfl fun z108 hz108 lz108 gz108 => ?_
                 have e109 : z108.toInt = P2 := Option.some.inj (hz108.symm.trans h106)
                 refine bs_lit (k := 1) rfl rfl fun z110 hz110 => ?_
                 first | (refine bs_add rfl (by omega) (by omega) fun z111 hz111 => ?_) | (refine bs_any rfl fun z111 => ?_)
                 have rz111 := n_range z111
                 refine bs_putI (W := [(11, 36, 36)]) (g := 11) rfl rfl Hhp103 (bs_R.uq Hhp103 (g := 11) rfl) (by decide) rfl rfl rfl rfl (Or.inl rfl) (by omega) (by omega) fun hp112 Hhp112 fhp112 rhp112 ehp112 qhp112 nhp112 => ?_
                 have Fhp112 := sf_fr_tr Fhp103 (sf_fr_wider (W := [(11, 4, 4), (11, 11, 17), (11, 34, 34), (11, 36, 38), (134, 0, 159), (143, 0, 44)]) rfl fhp112)
                 have h113 : sf_rd hp112 69 34 = some C2 := (ehp112 _ _ (Or.inr (by omega))).trans h104
                 have h114 : sf_rd hp112 69 35 = some O := (ehp112 _ _ (Or.inr (by omega))).trans h105
                 have h115 : sf_rd hp112 69 38 = some (1 : Int) := (ehp112 _ _ (Or.inr (by omega))).trans h107
                 have h116 : sf_rd hp112 82 z91.toInt.toNat = some z102.toInt := (ehp112 _ _ (Or.inl (by decide))).trans rhp103
                 refine Ev.step (j := 82) (s' := ([some (.ref 69)], [.ref 69], (0, 0), hp112)) rfl rfl ?_
                 exact by
                  refine bs_lit (k := 0) rfl rfl fun z117 hz117 => ?_
                  refine bs_putI (W := [(11, 38, 38)]) (g := 11) rfl rfl Hhp112 (bs_R.uq Hhp112 (g := 11) rfl) (by decide) rfl rfl rfl rfl (Or.inr ⟨rfl, by omega, by omega⟩) (by omega) (by omega) fun hp118 Hhp118 fhp118 rhp118 ehp118 qhp118 nhp118 => ?_
                  have Fhp118 := sf_fr_tr Fhp112 (sf_fr_wider (W := [(11, 4, 4), (11, 11, 17), (11, 34, 34), (11, 36, 38), (134, 0, 159), (143, 0, 44)]) rfl fhp118)
                  have h119 : sf_rd hp118 69 34 = some C2 := (ehp118 _ _ (Or.inr (by omega))).trans h113
                  have h120 : sf_rd hp118 69 35 = some O := (ehp118 _ _ (Or.inr (by omega))).trans h114
                  have h121 : sf_rd hp118 82 z91.toInt.toNat = some z102.toInt := (ehp118 _ _ (Or.inl (by decide))).trans h116
                  have h122 : sf_rd hp118 69 36 = some z111.toInt := (ehp118 _ _ (Or.inr (by omega))).trans rhp112
                  refine Ev.step (j := 87) (s' := ([some (.ref 69)], [.ref 69], (0, 0), hp118)) rfl rfl ?_
                  exact by
                   refine bs_call (K := kq_X11_next_h) [.ref 69] [] rfl ct_X11_next_h Hhp118 rfl rfl rfl (bs_rcv (g := 11) Hhp118 (bs_R.uq Hhp118 (g := 11) rfl) (by decide) rfl) rfl ?_ (sf_S_nil) fun r123 hp124 thp124 Hhp124 fhp124 ahp124 php124 => ?_
                   · intro q k h
                     match q, h with
                     | 0, h => cases h; exact bs_jR (bs_R.uq Hhp118 (g := 11) rfl)
                     | q + 1, h => cases h
                   obtain rfl := ahp124.1 rfl
                   have Fhp124 := sf_fr_tr Fhp118 (sf_fr_wider (W := [(11, 4, 4), (11, 11, 17), (11, 34, 34), (11, 36, 38), (134, 0, 159), (143, 0, 44)]) rfl fhp124)
                   have h125 : sf_rd hp124 69 34 = some C2 := (fhp124.2.2.1 _ (bs_R.uq Hhp118 (g := 11) (p := 69) rfl).1 _ (by rw [(bs_R.uq Hhp118 (g := 11) (p := 69) rfl).2]; rfl)).trans h119
                   have h126 : sf_rd hp124 69 35 = some O := (fhp124.2.2.1 _ (bs_R.uq Hhp118 (g := 11) (p := 69) rfl).1 _ (by rw [(bs_R.uq Hhp118 (g := 11) (p := 69) rfl).2]; rfl)).trans h120
                   have h127 : sf_rd hp124 82 z91.toInt.toNat = some z102.toInt := (fhp124.2.2.1 _ (bs_R.uq Hhp118 (g := 143) (p := 82) rfl).1 _ (by rw [(bs_R.uq Hhp118 (g := 143) (p := 82) rfl).2]; rfl)).trans h121
                   have h128 : sf_rd hp124 69 36 = some z111.toInt := (fhp124.2.2.1 _ (bs_R.uq Hhp118 (g := 11) (p := 69) rfl).1 _ (by rw [(bs_R.uq Hhp118 (g := 11) (p := 69) rfl).2]; rfl)).trans h122
                   have h129 : sf_rd hp124 69 38 = some z117.toInt := (fhp124.2.2.1 _ (bs_R.uq Hhp118 (g := 11) (p := 69) rfl).1 _ (by rw [(bs_R.uq Hhp118 (g := 11) (p := 69) rfl).2]; rfl)).trans rhp118
                   refine (show Ev _ 90 ([some (.ref 69)], [], (0, 0), hp124) _ from ?_)
                   exact by
                    refine bs_lit (k := 1) rfl rfl fun z130 hz130 => ?_
                    exact bs_zret rfl rfl (by omega) (by omega) (by rw [hQ]; exact ⟨thp124, Hhp124, Fhp124, bs_an0, sf_S_cons (sf_s1 (x := z130.toInt) rfl (by omega) (by omega)) (sf_S_nil), (fun c o p h hr => by have eo : o = O := Option.some.inj (h.2.1.symm.trans hG1.2.1); have ep : p = P := Option.some.inj (h.2.2.1.symm.trans hG1.2.2.1); subst eo ep; exact ⟨_, _, _, se_pushb hs2 h125 h126 h128 (by omega) h129 (by omega) ((((fhp124.2.2.1 _ (bs_R.uq Hhp118 (g := 143) (p := 82) rfl).1 _ (by rw [(bs_R.uq Hhp118 (g := 143) (p := 82) rfl).2]; rfl)).trans ((ehp118 _ _ (Or.inl (by decide))).trans (ehp112 _ _ (Or.inl (by decide)))))).trans (bs_at rhp103 (by omega))) (by omega) (fun q => ((fhp124.2.2.1 _ (bs_R.uq Hhp118 (g := 134) (p := 73) rfl).1 _ (by rw [(bs_R.uq Hhp118 (g := 134) (p := 73) rfl).2]; rfl)).trans ((ehp118 _ _ (Or.inl (by decide))).trans ((ehp112 _ _ (Or.inl (by decide))).trans ((ehp103 _ _ (Or.inl (by decide))).trans (fhp94.2.2.1 _ (bs_R.uq Hhp90 (g := 134) (p := 73) rfl).1 _ (by rw [(bs_R.uq Hhp90 (g := 134) (p := 73) rfl).2]; rfl))))))) (fun q hq => ((fhp124.2.2.1 _ (bs_R.uq Hhp118 (g := 143) (p := 82) rfl).1 _ (by rw [(bs_R.uq Hhp118 (g := 143) (p := 82) rfl).2]; rfl)).trans ((ehp118 _ _ (Or.inl (by decide))).trans ((ehp112 _ _ (Or.inl (by decide))).trans ((ehp103 _ _ (Or.inr (by omega))).trans (fhp94.2.2.1 _ (bs_R.uq Hhp90 (g := 143) (p := 82) rfl).1 _ (by rw [(bs_R.uq Hhp90 (g := 143) (p := 82) rfl).2]; rfl))))))), Or.inl ⟨rfl, by omega⟩⟩)⟩)
              · skip
                refine bs_lit (k := 21) rfl rfl fun z131 hz131 => ?_
                exact by
                 refine Ev.step (j := 70) (s' := ([some (.ref 69)], [.int z131, .int z91, .ref 82], (0, 0), hp94)) rfl rfl ?_
                 refine bs_st (W := [(143, 0, 44)]) (g := 143) 0 44 (-2147483648, 2147483647) rfl Hhp94 (bs_R.uq Hhp94 (g := 143) rfl) (by decide) rfl rfl (by decide) rfl rfl (by omega) (by omega) (by dsimp only; omega) (by dsimp only; omega) fun hp132 Hhp132 fhp132 rhp132 ehp132 qhp132 nhp132 => ?_
                 have Fhp132 := sf_fr_tr Fhp94 (sf_fr_wider (W := [(11, 4, 4), (11, 11, 17), (11, 34, 34), (11, 36, 38), (134, 0, 159), (143, 0, 44)]) rfl fhp132)
                 have h133 : sf_rd hp132 69 34 = some C2 := (ehp132 _ _ (Or.inl (by decide))).trans h96
                 have h134 : sf_rd hp132 69 35 = some O := (ehp132 _ _ (Or.inl (by decide))).trans h97
                 have h135 : sf_rd hp132 69 36 = some P2 := (ehp132 _ _ (Or.inl (by decide))).trans h98
                 have h136 : sf_rd hp132 69 38 = some (1 : Int) := (ehp132 _ _ (Or.inl (by decide))).trans h99
                 refine Ev.step (j := 72) (s' := ([some (.ref 69)], [.ref 69], (0, 0), hp132)) rfl rfl ?_
                 exact by
                  refine Ev.step (j := 73) (s' := ([some (.ref 69)], [.ref 69, .ref 69], (0, 0), hp132)) rfl rfl ?_
                  refine bs_getI 11 rfl rfl rfl Hhp132 (bs_R.uq Hhp132 (g := 11) rfl) (by decide) rfl fun z137 hz137 lz137 gz137 => ?_
                  have e138 : z137.toInt = P2 := Option.some.inj (hz137.symm.trans h135)
                  refine bs_lit (k := 1) rfl rfl fun z139 hz139 => ?_
                  first | (refine bs_add rfl (by omega) (by omega) fun z140 hz140 => ?_) | (refine bs_any rfl fun z140 => ?_)
                  have rz140 := n_range z140
                  refine bs_putI (W := [(11, 36, 36)]) (g := 11) rfl rfl Hhp132 (bs_R.uq Hhp132 (g := 11) rfl) (by decide) rfl rfl rfl rfl (Or.inl rfl) (by omega) (by omega) fun hp141 Hhp141 fhp141 rhp141 ehp141 qhp141 nhp141 => ?_
                  have Fhp141 := sf_fr_tr Fhp132 (sf_fr_wider (W := [(11, 4, 4), (11, 11, 17), (11, 34, 34), (11, 36, 38), (134, 0, 159), (143, 0, 44)]) rfl fhp141)
                  have h142 : sf_rd hp141 69 34 = some C2 := (ehp141 _ _ (Or.inr (by omega))).trans h133
                  have h143 : sf_rd hp141 69 35 = some O := (ehp141 _ _ (Or.inr (by omega))).trans h134
                  have h144 : sf_rd hp141 69 38 = some (1 : Int) := (ehp141 _ _ (Or.inr (by omega))).trans h136
                  have h145 : sf_rd hp141 82 z91.toInt.toNat = some z131.toInt := (ehp141 _ _ (Or.inl (by decide))).trans rhp132
                  refine Ev.step (j := 82) (s' := ([some (.ref 69)], [.ref 69], (0, 0), hp141)) rfl rfl ?_
                  exact by
                   refine bs_lit (k := 0) rfl rfl fun z146 hz146 => ?_
                   refine bs_putI (W := [(11, 38, 38)]) (g := 11) rfl rfl Hhp141 (bs_R.uq Hhp141 (g := 11) rfl) (by decide) rfl rfl rfl rfl (Or.inr ⟨rfl, by omega, by omega⟩) (by omega) (by omega) fun hp147 Hhp147 fhp147 rhp147 ehp147 qhp147 nhp147 => ?_
                   have Fhp147 := sf_fr_tr Fhp141 (sf_fr_wider (W := [(11, 4, 4), (11, 11, 17), (11, 34, 34), (11, 36, 38), (134, 0, 159), (143, 0, 44)]) rfl fhp147)
                   have h148 : sf_rd hp147 69 34 = some C2 := (ehp147 _ _ (Or.inr (by omega))).trans h142
                   have h149 : sf_rd hp147 69 35 = some O := (ehp147 _ _ (Or.inr (by omega))).trans h143
                   have h150 : sf_rd hp147 82 z91.toInt.toNat = some z131.toInt := (ehp147 _ _ (Or.inl (by decide))).trans h145
                   have h151 : sf_rd hp147 69 36 = some z140.toInt := (ehp147 _ _ (Or.inr (by omega))).trans rhp141
                   refine Ev.step (j := 87) (s' := ([some (.ref 69)], [.ref 69], (0, 0), hp147)) rfl rfl ?_
                   exact by
                    refine bs_call (K := kq_X11_next_h) [.ref 69] [] rfl ct_X11_next_h Hhp147 rfl rfl rfl (bs_rcv (g := 11) Hhp147 (bs_R.uq Hhp147 (g := 11) rfl) (by decide) rfl) rfl ?_ (sf_S_nil) fun r152 hp153 thp153 Hhp153 fhp153 ahp153 php153 => ?_
                    · intro q k h
                      match q, h with
                      | 0, h => cases h; exact bs_jR (bs_R.uq Hhp147 (g := 11) rfl)
                      | q + 1, h => cases h
                    obtain rfl := ahp153.1 rfl
                    have Fhp153 := sf_fr_tr Fhp147 (sf_fr_wider (W := [(11, 4, 4), (11, 11, 17), (11, 34, 34), (11, 36, 38), (134, 0, 159), (143, 0, 44)]) rfl fhp153)
                    have h154 : sf_rd hp153 69 34 = some C2 := (fhp153.2.2.1 _ (bs_R.uq Hhp147 (g := 11) (p := 69) rfl).1 _ (by rw [(bs_R.uq Hhp147 (g := 11) (p := 69) rfl).2]; rfl)).trans h148
                    have h155 : sf_rd hp153 69 35 = some O := (fhp153.2.2.1 _ (bs_R.uq Hhp147 (g := 11) (p := 69) rfl).1 _ (by rw [(bs_R.uq Hhp147 (g := 11) (p := 69) rfl).2]; rfl)).trans h149
                    have h156 : sf_rd hp153 82 z91.toInt.toNat = some z131.toInt := (fhp153.2.2.1 _ (bs_R.uq Hhp147 (g := 143) (p := 82) rfl).1 _ (by rw [(bs_R.uq Hhp147 (g := 143) (p := 82) rfl).2]; rfl)).trans h150
                    have h157 : sf_rd hp153 69 36 = some z140.toInt := (fhp153.2.2.1 _ (bs_R.uq Hhp147 (g := 11) (p := 69) rfl).1 _ (by rw [(bs_R.uq Hhp147 (g := 11) (p := 69) rfl).2]; rfl)).trans h151
                    have h158 : sf_rd hp153 69 38 = some z146.toInt := (fhp153.2.2.1 _ (bs_R.uq Hhp147 (g := 11) (p := 69) rfl).1 _ (by rw [(bs_R.uq Hhp147 (g := 11) (p := 69) rfl).2]; rfl)).trans rhp147
                    refine (show Ev _ 90 ([some (.ref 69)], [], (0, 0), hp153) _ from ?_)
                    exact by
                     refine bs_lit (k := 1) rfl rfl fun z159 hz159 => ?_
                     exact bs_zret rfl rfl (by omega) (by omega) (by rw [hQ]; exact ⟨thp153, Hhp153, Fhp153, bs_an0, sf_S_cons (sf_s1 (x := z159.toInt) rfl (by omega) (by omega)) (sf_S_nil), (fun c o p h hr => by have eo : o = O := Option.some.inj (h.2.1.symm.trans hG1.2.1); have ep : p = P := Option.some.inj (h.2.2.1.symm.trans hG1.2.2.1); subst eo ep; exact ⟨_, _, _, se_pushb hs2 h154 h155 h157 (by omega) h158 (by omega) ((((fhp153.2.2.1 _ (bs_R.uq Hhp147 (g := 143) (p := 82) rfl).1 _ (by rw [(bs_R.uq Hhp147 (g := 143) (p := 82) rfl).2]; rfl)).trans ((ehp147 _ _ (Or.inl (by decide))).trans (ehp141 _ _ (Or.inl (by decide)))))).trans (bs_at rhp132 (by omega))) (by omega) (fun q => ((fhp153.2.2.1 _ (bs_R.uq Hhp147 (g := 134) (p := 73) rfl).1 _ (by rw [(bs_R.uq Hhp147 (g := 134) (p := 73) rfl).2]; rfl)).trans ((ehp147 _ _ (Or.inl (by decide))).trans ((ehp141 _ _ (Or.inl (by decide))).trans ((ehp132 _ _ (Or.inl (by decide))).trans (fhp94.2.2.1 _ (bs_R.uq Hhp90 (g := 134) (p := 73) rfl).1 _ (by rw [(bs_R.uq Hhp90 (g := 134) (p := 73) rfl).2]; rfl))))))) (fun q hq => ((fhp153.2.2.1 _ (bs_R.uq Hhp147 (g := 143) (p := 82) rfl).1 _ (by rw [(bs_R.uq Hhp147 (g := 143) (p := 82) rfl).2]; rfl)).trans ((ehp147 _ _ (Or.inl (by decide))).trans ((ehp141 _ _ (Or.inl (by decide))).trans ((ehp132 _ _ (Or.inr (by omega))).trans (fhp94.2.2.1 _ (bs_R.uq Hhp90 (g := 143) (p := 82) rfl).1 _ (by rw [(bs_R.uq Hhp90 (g := 143) (p := 82) rfl).2]; rfl))))))), Or.inl ⟨rfl, by omega⟩⟩)⟩)
      · skip
        have c160 : z5.toInt = 0 := by omega
        refine Ev.step (j := 15) (s' := ([some (.ref 69)], [.ref 69], (0, 0), hp4)) rfl rfl ?_
        exact by
         refine Ev.step (j := 18) (s' := ([some (.ref 69)], [.long (28530), .ref 69], (0, 0), hp4)) rfl rfl ?_
         refine bs_call (K := kq_X11_isWord_0799ed) [.ref 69, .long (28530)] [] rfl ct_X11_isWord_0799ed Hhp4 rfl rfl rfl (bs_rcv (g := 11) Hhp4 (bs_R.uq Hhp4 (g := 11) rfl) (by decide) rfl) rfl ?_ (sf_S_nil) fun r161 hp162 thp162 Hhp162 fhp162 ahp162 php162 => ?_
         · intro q k h
           match q, h with
           | 0, h => cases h; exact bs_jR (bs_R.uq Hhp4 (g := 11) rfl)
           | 1, h => cases h; exact sf_j2
           | q + 2, h => cases h
         obtain ⟨z163, rfl⟩ := bs_anI ahp162
         have rgz163 := n_range z163
         have Fhp162 := sf_fr_tr Fhp4 (sf_fr_wider (W := [(11, 4, 4), (11, 11, 17), (11, 34, 34), (11, 36, 38), (134, 0, 159), (143, 0, 44)]) rfl fhp162)
         obtain ⟨uz163, vz163⟩ := bs_s1 (x := z163.toInt) rfl (php162 _ (List.mem_of_getElem? (i := 0) rfl))
         refine (show Ev _ 21 ([some (.ref 69)], [.int z163], (0, 0), hp162) _ from ?_)
         refine bs_ifeq rfl (fun c164 => ?_) (fun c164 => ?_)
         · skip
           have c165 : z163.toInt = 0 := by omega
           refine Ev.step (j := 93) (s' := ([some (.ref 69)], [.ref 69], (0, 0), hp162)) rfl rfl ?_
           exact by
            refine bs_lit (k := 22) rfl rfl fun z166 hz166 => ?_
            have s167 := se_fr Hhp2 fhp4 rfl hs1
            have s168 := se_fr Hhp4 fhp162 rfl s167
            refine bs_callp (K := kq_X11_joins_h) [.ref 69, .int z166] [] rfl cp_X11_joins_h (⟨_, _, _, s168⟩) Hhp162 rfl rfl rfl (bs_rcv (g := 11) Hhp162 (bs_R.uq Hhp162 (g := 11) rfl) (by decide) rfl) rfl ?_ (sf_S_nil) fun r169 hp170 thp170 Hhp170 fhp170 ahp170 php170 xhp170 => ?_
            · intro q k h
              match q, h with
              | 0, h => cases h; exact bs_jR (bs_R.uq Hhp162 (g := 11) rfl)
              | 1, h => cases h; exact sf_j0
              | q + 2, h => cases h
            obtain rfl := ahp170.1 rfl
            have Fhp170 := sf_fr_tr Fhp162 (sf_fr_wider (W := [(11, 4, 4), (11, 11, 17), (11, 34, 34), (11, 36, 38), (134, 0, 159), (143, 0, 44)]) rfl fhp170)
            refine (show Ev _ 98 ([some (.ref 69)], [], (0, 0), hp170) _ from ?_)
            obtain ⟨C2, P2, hs2, hl2, hj2⟩ := xhp170 _ _ _ s168
            have hbhs2 := hs2.al
            obtain ⟨n82, f82, e82, -⟩ := ar_get Hhp170 143 82 45 rfl (by decide) rfl rfl
            refine Ev.step (j := 99) (s' := ([some (.ref 69)], [.ref 69], (0, 0), hp170)) rfl rfl ?_
            exact by
             refine bs_lit (k := 41) rfl rfl fun z171 hz171 => ?_
             refine bs_call (K := kq_X11_isSign_4b5524) [.ref 69, .int z171] [] rfl ct_X11_isSign_4b5524 Hhp170 rfl rfl rfl (bs_rcv (g := 11) Hhp170 (bs_R.uq Hhp170 (g := 11) rfl) (by decide) rfl) rfl ?_ (sf_S_cons (sf_s1 (x := z171.toInt) rfl (by omega) (by omega)) (sf_S_nil)) fun r172 hp173 thp173 Hhp173 fhp173 ahp173 php173 => ?_
             · intro q k h
               match q, h with
               | 0, h => cases h; exact bs_jR (bs_R.uq Hhp170 (g := 11) rfl)
               | 1, h => cases h; exact sf_j0
               | q + 2, h => cases h
             obtain ⟨z174, rfl⟩ := bs_anI ahp173
             have rgz174 := n_range z174
             have Fhp173 := sf_fr_tr Fhp170 (sf_fr_wider (W := [(11, 4, 4), (11, 11, 17), (11, 34, 34), (11, 36, 38), (134, 0, 159), (143, 0, 44)]) rfl fhp173)
             have h175 : sf_rd hp173 69 34 = some C2 := (fhp173.2.2.1 _ (bs_R.uq Hhp170 (g := 11) (p := 69) rfl).1 _ (by rw [(bs_R.uq Hhp170 (g := 11) (p := 69) rfl).2]; rfl)).trans hs2.1
             have h176 : sf_rd hp173 69 35 = some O := (fhp173.2.2.1 _ (bs_R.uq Hhp170 (g := 11) (p := 69) rfl).1 _ (by rw [(bs_R.uq Hhp170 (g := 11) (p := 69) rfl).2]; rfl)).trans hs2.2.1
             have h177 : sf_rd hp173 69 36 = some P2 := (fhp173.2.2.1 _ (bs_R.uq Hhp170 (g := 11) (p := 69) rfl).1 _ (by rw [(bs_R.uq Hhp170 (g := 11) (p := 69) rfl).2]; rfl)).trans hs2.2.2.1
             have h178 : sf_rd hp173 69 38 = some (1 : Int) := (fhp173.2.2.1 _ (bs_R.uq Hhp170 (g := 11) (p := 69) rfl).1 _ (by rw [(bs_R.uq Hhp170 (g := 11) (p := 69) rfl).2]; rfl)).trans hs2.2.2.2.1
             obtain ⟨uz174, vz174⟩ := bs_s1 (x := z174.toInt) rfl (php173 _ (List.mem_of_getElem? (i := 0) rfl))
             refine (show Ev _ 104 ([some (.ref 69)], [.int z174], (0, 0), hp173) _ from ?_)
             exact by
              refine bs_ifeq rfl (fun c179 => ?_) (fun c179 => ?_)
              · skip
                have c180 : z174.toInt = 0 := by omega
                refine Ev.step (j := 115) (s' := ([some (.ref 69)], [.ref 69], (0, 0), hp173)) rfl rfl ?_
                refine bs_lit (k := 1) rfl rfl fun z181 hz181 => ?_
                refine bs_call (K := kq_X11_bad_3d45d6) [.ref 69, .int z181] [] rfl ct_X11_bad_3d45d6 Hhp173 rfl rfl rfl (bs_rcv (g := 11) Hhp173 (bs_R.uq Hhp173 (g := 11) rfl) (by decide) rfl) rfl ?_ (sf_S_nil) fun r182 hp183 thp183 Hhp183 fhp183 ahp183 php183 => ?_
                · intro q k h
                  match q, h with
                  | 0, h => cases h; exact bs_jR (bs_R.uq Hhp173 (g := 11) rfl)
                  | 1, h => cases h; exact sf_j0
                  | q + 2, h => cases h
                obtain ⟨z184, rfl⟩ := bs_anI ahp183
                have rgz184 := n_range z184
                have Fhp183 := sf_fr_tr Fhp173 (sf_fr_wider (W := [(11, 4, 4), (11, 11, 17), (11, 34, 34), (11, 36, 38), (134, 0, 159), (143, 0, 44)]) rfl fhp183)
                have h185 : sf_rd hp183 69 34 = some C2 := (fhp183.2.2.1 _ (bs_R.uq Hhp173 (g := 11) (p := 69) rfl).1 _ (by rw [(bs_R.uq Hhp173 (g := 11) (p := 69) rfl).2]; rfl)).trans h175
                have h186 : sf_rd hp183 69 35 = some O := (fhp183.2.2.1 _ (bs_R.uq Hhp173 (g := 11) (p := 69) rfl).1 _ (by rw [(bs_R.uq Hhp173 (g := 11) (p := 69) rfl).2]; rfl)).trans h176
                have h187 : sf_rd hp183 69 36 = some P2 := (fhp183.2.2.1 _ (bs_R.uq Hhp173 (g := 11) (p := 69) rfl).1 _ (by rw [(bs_R.uq Hhp173 (g := 11) (p := 69) rfl).2]; rfl)).trans h177
                have h188 : sf_rd hp183 69 38 = some (1 : Int) := (fhp183.2.2.1 _ (bs_R.uq Hhp173 (g := 11) (p := 69) rfl).1 _ (by rw [(bs_R.uq Hhp173 (g := 11) (p := 69) rfl).2]; rfl)).trans h178
                obtain ⟨uz184, vz184⟩ := bs_s1 (x := z184.toInt) rfl (php183 _ (List.mem_of_getElem? (i := 0) rfl))
                refine (show Ev _ 119 ([some (.ref 69)], [.int z184], (0, 0), hp183) _ from ?_)
                exact bs_zret rfl rfl (by omega) (by omega) (by rw [hQ]; exact ⟨thp183, Hhp183, Fhp183, bs_an0, sf_S_cons (sf_s1 (x := z184.toInt) rfl (by omega) (by omega)) (sf_S_nil), (fun c o p h hr => by have e : z184.toInt = 1 := congrArg Int32.toInt (Value.int.inj (Option.some.inj hr)); omega)⟩)
              · skip
                refine Ev.step (j := 108) (s' := ([some (.ref 69)], [.ref 69], (0, 0), hp173)) rfl rfl ?_
                exact by
                 refine bs_getI 11 rfl rfl rfl Hhp173 (bs_R.uq Hhp173 (g := 11) rfl) (by decide) rfl fun z189 hz189 lz189 gz189 => ?_
                 have e190 : z189.toInt = P2 := Option.some.inj (hz189.symm.trans h177)
                 refine bs_ifne rfl (fun c191 => ?_) (fun c191 => ?_)
                 · skip
                   refine Ev.step (j := 121) (s' := ([some (.ref 69)], [.ref 69], (0, 0), hp173)) rfl rfl ?_
                   refine Ev.step (j := 122) (s' := ([some (.ref 69)], [.ref 69, .ref 69], (0, 0), hp173)) rfl rfl ?_
                   refine bs_getI 11 rfl rfl rfl Hhp173 (bs_R.uq Hhp173 (g := 11) rfl) (by decide) rfl fun z192 hz192 lz192 gz192 => ?_
                   have e193 : z192.toInt = P2 := Option.some.inj (hz192.symm.trans h177)
                   refine bs_lit (k := 1) rfl rfl fun z194 hz194 => ?_
                   first | (refine bs_sub rfl (by omega) (by omega) fun z195 hz195 => ?_) | (refine bs_any rfl fun z195 => ?_)
                   have rz195 := n_range z195
                   refine bs_putI (W := [(11, 36, 36)]) (g := 11) rfl rfl Hhp173 (bs_R.uq Hhp173 (g := 11) rfl) (by decide) rfl rfl rfl rfl (Or.inl rfl) (by omega) (by omega) fun hp196 Hhp196 fhp196 rhp196 ehp196 qhp196 nhp196 => ?_
                   have Fhp196 := sf_fr_tr Fhp173 (sf_fr_wider (W := [(11, 4, 4), (11, 11, 17), (11, 34, 34), (11, 36, 38), (134, 0, 159), (143, 0, 44)]) rfl fhp196)
                   have h197 : sf_rd hp196 69 34 = some C2 := (ehp196 _ _ (Or.inr (by omega))).trans h175
                   have h198 : sf_rd hp196 69 35 = some O := (ehp196 _ _ (Or.inr (by omega))).trans h176
                   have h199 : sf_rd hp196 69 38 = some (1 : Int) := (ehp196 _ _ (Or.inr (by omega))).trans h178
                   refine Ev.step (j := 131) (s' := ([some (.ref 69)], [.ref 69], (0, 0), hp196)) rfl rfl ?_
                   exact by
                    refine Ev.step (j := 132) (s' := ([some (.ref 69)], [.ref 69, .ref 69], (0, 0), hp196)) rfl rfl ?_
                    refine bs_getI 11 rfl rfl rfl Hhp196 (bs_R.uq Hhp196 (g := 11) rfl) (by decide) rfl fun z200 hz200 lz200 gz200 => ?_
                    refine bs_lit (k := 1) rfl rfl fun z201 hz201 => ?_
                    first | (refine bs_sub rfl (by omega) (by omega) fun z202 hz202 => ?_) | (refine bs_any rfl fun z202 => ?_)
                    have rz202 := n_range z202
                    refine bs_putI (W := [(11, 37, 37)]) (g := 11) rfl rfl Hhp196 (bs_R.uq Hhp196 (g := 11) rfl) (by decide) rfl rfl rfl rfl (Or.inl rfl) (by omega) (by omega) fun hp203 Hhp203 fhp203 rhp203 ehp203 qhp203 nhp203 => ?_
                    have Fhp203 := sf_fr_tr Fhp196 (sf_fr_wider (W := [(11, 4, 4), (11, 11, 17), (11, 34, 34), (11, 36, 38), (134, 0, 159), (143, 0, 44)]) rfl fhp203)
                    have h204 : sf_rd hp203 69 34 = some C2 := (ehp203 _ _ (Or.inr (by omega))).trans h197
                    have h205 : sf_rd hp203 69 35 = some O := (ehp203 _ _ (Or.inr (by omega))).trans h198
                    have h206 : sf_rd hp203 69 38 = some (1 : Int) := (ehp203 _ _ (Or.inr (by omega))).trans h199
                    have h207 : sf_rd hp203 69 36 = some z195.toInt := (ehp203 _ _ (Or.inr (by omega))).trans rhp196
                    refine Ev.step (j := 141) (s' := ([some (.ref 69)], [.ref 69], (0, 0), hp203)) rfl rfl ?_
                    exact by
                     refine bs_call (K := kq_X11_next_h) [.ref 69] [] rfl ct_X11_next_h Hhp203 rfl rfl rfl (bs_rcv (g := 11) Hhp203 (bs_R.uq Hhp203 (g := 11) rfl) (by decide) rfl) rfl ?_ (sf_S_nil) fun r208 hp209 thp209 Hhp209 fhp209 ahp209 php209 => ?_
                     · intro q k h
                       match q, h with
                       | 0, h => cases h; exact bs_jR (bs_R.uq Hhp203 (g := 11) rfl)
                       | q + 1, h => cases h
                     obtain rfl := ahp209.1 rfl
                     have Fhp209 := sf_fr_tr Fhp203 (sf_fr_wider (W := [(11, 4, 4), (11, 11, 17), (11, 34, 34), (11, 36, 38), (134, 0, 159), (143, 0, 44)]) rfl fhp209)
                     have h210 : sf_rd hp209 69 34 = some C2 := (fhp209.2.2.1 _ (bs_R.uq Hhp203 (g := 11) (p := 69) rfl).1 _ (by rw [(bs_R.uq Hhp203 (g := 11) (p := 69) rfl).2]; rfl)).trans h204
                     have h211 : sf_rd hp209 69 35 = some O := (fhp209.2.2.1 _ (bs_R.uq Hhp203 (g := 11) (p := 69) rfl).1 _ (by rw [(bs_R.uq Hhp203 (g := 11) (p := 69) rfl).2]; rfl)).trans h205
                     have h212 : sf_rd hp209 69 38 = some (1 : Int) := (fhp209.2.2.1 _ (bs_R.uq Hhp203 (g := 11) (p := 69) rfl).1 _ (by rw [(bs_R.uq Hhp203 (g := 11) (p := 69) rfl).2]; rfl)).trans h206
                     have h213 : sf_rd hp209 69 36 = some z195.toInt := (fhp209.2.2.1 _ (bs_R.uq Hhp203 (g := 11) (p := 69) rfl).1 _ (by rw [(bs_R.uq Hhp203 (g := 11) (p := 69) rfl).2]; rfl)).trans h207
                     have h214 : sf_rd hp209 69 37 = some z202.toInt := (fhp209.2.2.1 _ (bs_R.uq Hhp203 (g := 11) (p := 69) rfl).1 _ (by rw [(bs_R.uq Hhp203 (g := 11) (p := 69) rfl).2]; rfl)).trans rhp203
                     refine (show Ev _ 144 ([some (.ref 69)], [], (0, 0), hp209) _ from ?_)
                     exact by
                      refine bs_lit (k := 1) rfl rfl fun z215 hz215 => ?_
                      exact bs_zret rfl rfl (by omega) (by omega) (by rw [hQ]; exact ⟨thp209, Hhp209, Fhp209, bs_an0, sf_S_cons (sf_s1 (x := z215.toInt) rfl (by omega) (by omega)) (sf_S_nil), (fun c o p h hr => by have eo : o = O := Option.some.inj (h.2.1.symm.trans hG1.2.1); have ep : p = P := Option.some.inj (h.2.2.1.symm.trans hG1.2.2.1); subst eo ep; exact ⟨_, _, _, se_pop hs2 (by omega) (sf_rd_arr (i := P2.toNat - 1) e82 (by omega)) (hj2 _ rfl (by omega) (by omega) _ (sf_rd_arr (i := P2.toNat - 1) e82 (by omega))) h210 h211 h213 (by omega) h212 (fun q => ((fhp209.2.2.1 _ (bs_R.uq Hhp203 (g := 134) (p := 73) rfl).1 _ (by rw [(bs_R.uq Hhp203 (g := 134) (p := 73) rfl).2]; rfl)).trans ((ehp203 _ _ (Or.inl (by decide))).trans ((ehp196 _ _ (Or.inl (by decide))).trans (fhp173.2.2.1 _ (bs_R.uq Hhp170 (g := 134) (p := 73) rfl).1 _ (by rw [(bs_R.uq Hhp170 (g := 134) (p := 73) rfl).2]; rfl)))))) (fun q => ((fhp209.2.2.1 _ (bs_R.uq Hhp203 (g := 143) (p := 82) rfl).1 _ (by rw [(bs_R.uq Hhp203 (g := 143) (p := 82) rfl).2]; rfl)).trans ((ehp203 _ _ (Or.inl (by decide))).trans ((ehp196 _ _ (Or.inl (by decide))).trans (fhp173.2.2.1 _ (bs_R.uq Hhp170 (g := 143) (p := 82) rfl).1 _ (by rw [(bs_R.uq Hhp170 (g := 143) (p := 82) rfl).2]; rfl)))))), Or.inr ⟨rfl, by omega⟩⟩)⟩)
                 · skip
                   have c216 : z189.toInt = 0 := by omega
                   refine Ev.step (j := 115) (s' := ([some (.ref 69)], [.ref 69], (0, 0), hp173)) rfl rfl ?_
                   exact by
                    refine bs_lit (k := 1) rfl rfl fun z217 hz217 => ?_
                    refine bs_call (K := kq_X11_bad_3d45d6) [.ref 69, .int z217] [] rfl ct_X11_bad_3d45d6 Hhp173 rfl rfl rfl (bs_rcv (g := 11) Hhp173 (bs_R.uq Hhp173 (g := 11) rfl) (by decide) rfl) rfl ?_ (sf_S_nil) fun r218 hp219 thp219 Hhp219 fhp219 ahp219 php219 => ?_
                    · intro q k h
                      match q, h with
                      | 0, h => cases h; exact bs_jR (bs_R.uq Hhp173 (g := 11) rfl)
                      | 1, h => cases h; exact sf_j0
                      | q + 2, h => cases h
                    obtain ⟨z220, rfl⟩ := bs_anI ahp219
                    have rgz220 := n_range z220
                    have Fhp219 := sf_fr_tr Fhp173 (sf_fr_wider (W := [(11, 4, 4), (11, 11, 17), (11, 34, 34), (11, 36, 38), (134, 0, 159), (143, 0, 44)]) rfl fhp219)
                    have h221 : sf_rd hp219 69 34 = some C2 := (fhp219.2.2.1 _ (bs_R.uq Hhp173 (g := 11) (p := 69) rfl).1 _ (by rw [(bs_R.uq Hhp173 (g := 11) (p := 69) rfl).2]; rfl)).trans h175
                    have h222 : sf_rd hp219 69 35 = some O := (fhp219.2.2.1 _ (bs_R.uq Hhp173 (g := 11) (p := 69) rfl).1 _ (by rw [(bs_R.uq Hhp173 (g := 11) (p := 69) rfl).2]; rfl)).trans h176
                    have h223 : sf_rd hp219 69 36 = some P2 := (fhp219.2.2.1 _ (bs_R.uq Hhp173 (g := 11) (p := 69) rfl).1 _ (by rw [(bs_R.uq Hhp173 (g := 11) (p := 69) rfl).2]; rfl)).trans h177
                    have h224 : sf_rd hp219 69 38 = some (1 : Int) := (fhp219.2.2.1 _ (bs_R.uq Hhp173 (g := 11) (p := 69) rfl).1 _ (by rw [(bs_R.uq Hhp173 (g := 11) (p := 69) rfl).2]; rfl)).trans h178
                    obtain ⟨uz220, vz220⟩ := bs_s1 (x := z220.toInt) rfl (php219 _ (List.mem_of_getElem? (i := 0) rfl))
                    refine (show Ev _ 119 ([some (.ref 69)], [.int z220], (0, 0), hp219) _ from ?_)
                    exact bs_zret rfl rfl (by omega) (by omega) (by rw [hQ]; exact ⟨thp219, Hhp219, Fhp219, bs_an0, sf_S_cons (sf_s1 (x := z220.toInt) rfl (by omega) (by omega)) (sf_S_nil), (fun c o p h hr => by have e : z220.toInt = 1 := congrArg Int32.toInt (Value.int.inj (Option.some.inj hr)); omega)⟩)
         · skip
           refine Ev.step (j := 25) (s' := ([some (.ref 69)], [.ref 69], (0, 0), hp162)) rfl rfl ?_
           exact by
            refine Ev.step (j := 26) (s' := ([some (.ref 69)], [.ref 69, .ref 69], (0, 0), hp162)) rfl rfl ?_
            refine Ev.step (j := 29) (s' := ([some (.ref 69)], [.long (6385252), .ref 69, .ref 69], (0, 0), hp162)) rfl rfl ?_
            refine bs_call (K := kq_X11_isWord_0799ed) [.ref 69, .long (6385252)] [.ref 69] rfl ct_X11_isWord_0799ed Hhp162 rfl rfl rfl (bs_rcv (g := 11) Hhp162 (bs_R.uq Hhp162 (g := 11) rfl) (by decide) rfl) rfl ?_ (sf_S_nil) fun r225 hp226 thp226 Hhp226 fhp226 ahp226 php226 => ?_
            · intro q k h
              match q, h with
              | 0, h => cases h; exact bs_jR (bs_R.uq Hhp162 (g := 11) rfl)
              | 1, h => cases h; exact sf_j2
              | q + 2, h => cases h
            obtain ⟨z227, rfl⟩ := bs_anI ahp226
            have rgz227 := n_range z227
            have Fhp226 := sf_fr_tr Fhp162 (sf_fr_wider (W := [(11, 4, 4), (11, 11, 17), (11, 34, 34), (11, 36, 38), (134, 0, 159), (143, 0, 44)]) rfl fhp226)
            obtain ⟨uz227, vz227⟩ := bs_s1 (x := z227.toInt) rfl (php226 _ (List.mem_of_getElem? (i := 0) rfl))
            refine (show Ev _ 32 ([some (.ref 69)], [.int z227, .ref 69], (0, 0), hp226) _ from ?_)
            exact by
             refine bs_ifeq rfl (fun c228 => ?_) (fun c228 => ?_)
             · skip
               have c229 : z227.toInt = 0 := by omega
               refine bs_lit (k := 22) rfl rfl fun z230 hz230 => ?_
               have s231 := se_fr Hhp2 fhp4 rfl hs1
               have s232 := se_fr Hhp4 fhp162 rfl s231
               have s233 := se_fr Hhp162 fhp226 rfl s232
               refine bs_callp (K := kq_X11_joins_h) [.ref 69, .int z230] [] rfl cp_X11_joins_h (⟨_, _, _, s233⟩) Hhp226 rfl rfl rfl (bs_rcv (g := 11) Hhp226 (bs_R.uq Hhp226 (g := 11) rfl) (by decide) rfl) rfl ?_ (sf_S_nil) fun r234 hp235 thp235 Hhp235 fhp235 ahp235 php235 xhp235 => ?_
               · intro q k h
                 match q, h with
                 | 0, h => cases h; exact bs_jR (bs_R.uq Hhp226 (g := 11) rfl)
                 | 1, h => cases h; exact sf_j0
                 | q + 2, h => cases h
               obtain rfl := ahp235.1 rfl
               have Fhp235 := sf_fr_tr Fhp226 (sf_fr_wider (W := [(11, 4, 4), (11, 11, 17), (11, 34, 34), (11, 36, 38), (134, 0, 159), (143, 0, 44)]) rfl fhp235)
               refine (show Ev _ 45 ([some (.ref 69)], [], (0, 0), hp235) _ from ?_)
               obtain ⟨C2, P2, hs2, hl2, hj2⟩ := xhp235 _ _ _ s233
               have hbhs2 := hs2.al
               refine Ev.step (j := 46) (s' := ([some (.ref 69)], [.ref 69], (0, 0), hp235)) rfl rfl ?_
               exact by
                refine bs_getU (g := 11) (g1 := 143) rfl rfl Hhp235 (bs_R.uq Hhp235 (g := 11) rfl) (by decide) rfl rfl ?_
                refine Ev.step (j := 50) (s' := ([some (.ref 69)], [.ref 69, .ref 82], (0, 0), hp235)) rfl rfl ?_
                refine bs_getI 11 rfl rfl rfl Hhp235 (bs_R.uq Hhp235 (g := 11) rfl) (by decide) rfl fun z236 hz236 lz236 gz236 => ?_
                have e237 : z236.toInt = P2 := Option.some.inj (hz236.symm.trans hs2.2.2.1)
                refine Ev.step (j := 54) (s' := ([some (.ref 69)], [.ref 69, .int z236, .ref 82], (0, 0), hp235)) rfl rfl ?_
                refine Ev.step (j := 57) (s' := ([some (.ref 69)], [.long (6385252), .ref 69, .int z236, .ref 82], (0, 0), hp235)) rfl rfl ?_
                refine bs_call (K := kq_X11_isWord_0799ed) [.ref 69, .long (6385252)] [.int z236, .ref 82] rfl ct_X11_isWord_0799ed Hhp235 rfl rfl rfl (bs_rcv (g := 11) Hhp235 (bs_R.uq Hhp235 (g := 11) rfl) (by decide) rfl) rfl ?_ (sf_S_nil) fun r238 hp239 thp239 Hhp239 fhp239 ahp239 php239 => ?_
                · intro q k h
                  match q, h with
                  | 0, h => cases h; exact bs_jR (bs_R.uq Hhp235 (g := 11) rfl)
                  | 1, h => cases h; exact sf_j2
                  | q + 2, h => cases h
                obtain ⟨z240, rfl⟩ := bs_anI ahp239
                have rgz240 := n_range z240
                have Fhp239 := sf_fr_tr Fhp235 (sf_fr_wider (W := [(11, 4, 4), (11, 11, 17), (11, 34, 34), (11, 36, 38), (134, 0, 159), (143, 0, 44)]) rfl fhp239)
                have h241 : sf_rd hp239 69 34 = some C2 := (fhp239.2.2.1 _ (bs_R.uq Hhp235 (g := 11) (p := 69) rfl).1 _ (by rw [(bs_R.uq Hhp235 (g := 11) (p := 69) rfl).2]; rfl)).trans hs2.1
                have h242 : sf_rd hp239 69 35 = some O := (fhp239.2.2.1 _ (bs_R.uq Hhp235 (g := 11) (p := 69) rfl).1 _ (by rw [(bs_R.uq Hhp235 (g := 11) (p := 69) rfl).2]; rfl)).trans hs2.2.1
                have h243 : sf_rd hp239 69 36 = some P2 := (fhp239.2.2.1 _ (bs_R.uq Hhp235 (g := 11) (p := 69) rfl).1 _ (by rw [(bs_R.uq Hhp235 (g := 11) (p := 69) rfl).2]; rfl)).trans hs2.2.2.1
                have h244 : sf_rd hp239 69 38 = some (1 : Int) := (fhp239.2.2.1 _ (bs_R.uq Hhp235 (g := 11) (p := 69) rfl).1 _ (by rw [(bs_R.uq Hhp235 (g := 11) (p := 69) rfl).2]; rfl)).trans hs2.2.2.2.1
                obtain ⟨uz240, vz240⟩ := bs_s1 (x := z240.toInt) rfl (php239 _ (List.mem_of_getElem? (i := 0) rfl))
                refine (show Ev _ 60 ([some (.ref 69)], [.int z240, .int z236, .ref 82], (0, 0), hp239) _ from ?_)
                exact by
                 refine bs_ifeq rfl (fun c245 => ?_) (fun c245 => ?_)
                 · skip
                   have c246 : z240.toInt = 0 := by omega
                   refine bs_lit (k := 22) rfl rfl fun z247 hz247 => ?_
                   refine bs_st (W := [(143, 0, 44)]) (g := 143) 0 44 (-2147483648, 2147483647) rfl Hhp239 (bs_R.uq Hhp239 (g := 143) rfl) (by decide) rfl rfl (by decide) rfl rfl (by omega) (by omega) (by dsimp only; omega) (by dsimp only; omega) fun hp248 Hhp248 fhp248 rhp248 ehp248 qhp248 nhp248 => ?_
                   have Fhp248 := sf_fr_tr Fhp239 (sf_fr_wider (W := [(11, 4, 4), (11, 11, 17), (11, 34, 34), (11, 36, 38), (134, 0, 159), (143, 0, 44)]) rfl fhp248)
                   have h249 : sf_rd hp248 69 34 = some C2 := (ehp248 _ _ (Or.inl (by decide))).trans h241
                   have h250 : sf_rd hp248 69 35 = some O := (ehp248 _ _ (Or.inl (by decide))).trans h242
                   have h251 : sf_rd hp248 69 36 = some P2 := (ehp248 _ _ (Or.inl (by decide))).trans h243
                   have h252 : sf_rd hp248 69 38 = some (1 : Int) := (ehp248 _ _ (Or.inl (by decide))).trans h244
                   refine Ev.step (j := 72) (s' := ([some (.ref 69)], [.ref 69], (0, 0), hp248)) rfl rfl ?_
                   exact by
                    refine Ev.step (j := 73) (s' := ([some (.ref 69)], [.ref 69, .ref 69], (0, 0), hp248)) rfl rfl ?_
                    refine bs_getI 11 rfl rfl rfl Hhp248 (bs_R.uq Hhp248 (g := 11) rfl) (by decide) rfl fun z253 hz253 lz253 gz253 => ?_
                    have e254 : z253.toInt = P2 := Option.some.inj (hz253.symm.trans h251)
                    refine bs_lit (k := 1) rfl rfl fun z255 hz255 => ?_
                    first | (refine bs_add rfl (by omega) (by omega) fun z256 hz256 => ?_) | (refine bs_any rfl fun z256 => ?_)
                    have rz256 := n_range z256
                    refine bs_putI (W := [(11, 36, 36)]) (g := 11) rfl rfl Hhp248 (bs_R.uq Hhp248 (g := 11) rfl) (by decide) rfl rfl rfl rfl (Or.inl rfl) (by omega) (by omega) fun hp257 Hhp257 fhp257 rhp257 ehp257 qhp257 nhp257 => ?_
                    have Fhp257 := sf_fr_tr Fhp248 (sf_fr_wider (W := [(11, 4, 4), (11, 11, 17), (11, 34, 34), (11, 36, 38), (134, 0, 159), (143, 0, 44)]) rfl fhp257)
                    have h258 : sf_rd hp257 69 34 = some C2 := (ehp257 _ _ (Or.inr (by omega))).trans h249
                    have h259 : sf_rd hp257 69 35 = some O := (ehp257 _ _ (Or.inr (by omega))).trans h250
                    have h260 : sf_rd hp257 69 38 = some (1 : Int) := (ehp257 _ _ (Or.inr (by omega))).trans h252
                    have h261 : sf_rd hp257 82 z236.toInt.toNat = some z247.toInt := (ehp257 _ _ (Or.inl (by decide))).trans rhp248
                    refine Ev.step (j := 82) (s' := ([some (.ref 69)], [.ref 69], (0, 0), hp257)) rfl rfl ?_
                    exact by
                     refine bs_lit (k := 0) rfl rfl fun z262 hz262 => ?_
                     refine bs_putI (W := [(11, 38, 38)]) (g := 11) rfl rfl Hhp257 (bs_R.uq Hhp257 (g := 11) rfl) (by decide) rfl rfl rfl rfl (Or.inr ⟨rfl, by omega, by omega⟩) (by omega) (by omega) fun hp263 Hhp263 fhp263 rhp263 ehp263 qhp263 nhp263 => ?_
                     have Fhp263 := sf_fr_tr Fhp257 (sf_fr_wider (W := [(11, 4, 4), (11, 11, 17), (11, 34, 34), (11, 36, 38), (134, 0, 159), (143, 0, 44)]) rfl fhp263)
                     have h264 : sf_rd hp263 69 34 = some C2 := (ehp263 _ _ (Or.inr (by omega))).trans h258
                     have h265 : sf_rd hp263 69 35 = some O := (ehp263 _ _ (Or.inr (by omega))).trans h259
                     have h266 : sf_rd hp263 82 z236.toInt.toNat = some z247.toInt := (ehp263 _ _ (Or.inl (by decide))).trans h261
                     have h267 : sf_rd hp263 69 36 = some z256.toInt := (ehp263 _ _ (Or.inr (by omega))).trans rhp257
                     refine Ev.step (j := 87) (s' := ([some (.ref 69)], [.ref 69], (0, 0), hp263)) rfl rfl ?_
                     exact by
                      refine bs_call (K := kq_X11_next_h) [.ref 69] [] rfl ct_X11_next_h Hhp263 rfl rfl rfl (bs_rcv (g := 11) Hhp263 (bs_R.uq Hhp263 (g := 11) rfl) (by decide) rfl) rfl ?_ (sf_S_nil) fun r268 hp269 thp269 Hhp269 fhp269 ahp269 php269 => ?_
                      · intro q k h
                        match q, h with
                        | 0, h => cases h; exact bs_jR (bs_R.uq Hhp263 (g := 11) rfl)
                        | q + 1, h => cases h
                      obtain rfl := ahp269.1 rfl
                      have Fhp269 := sf_fr_tr Fhp263 (sf_fr_wider (W := [(11, 4, 4), (11, 11, 17), (11, 34, 34), (11, 36, 38), (134, 0, 159), (143, 0, 44)]) rfl fhp269)
                      have h270 : sf_rd hp269 69 34 = some C2 := (fhp269.2.2.1 _ (bs_R.uq Hhp263 (g := 11) (p := 69) rfl).1 _ (by rw [(bs_R.uq Hhp263 (g := 11) (p := 69) rfl).2]; rfl)).trans h264
                      have h271 : sf_rd hp269 69 35 = some O := (fhp269.2.2.1 _ (bs_R.uq Hhp263 (g := 11) (p := 69) rfl).1 _ (by rw [(bs_R.uq Hhp263 (g := 11) (p := 69) rfl).2]; rfl)).trans h265
                      have h272 : sf_rd hp269 82 z236.toInt.toNat = some z247.toInt := (fhp269.2.2.1 _ (bs_R.uq Hhp263 (g := 143) (p := 82) rfl).1 _ (by rw [(bs_R.uq Hhp263 (g := 143) (p := 82) rfl).2]; rfl)).trans h266
                      have h273 : sf_rd hp269 69 36 = some z256.toInt := (fhp269.2.2.1 _ (bs_R.uq Hhp263 (g := 11) (p := 69) rfl).1 _ (by rw [(bs_R.uq Hhp263 (g := 11) (p := 69) rfl).2]; rfl)).trans h267
                      have h274 : sf_rd hp269 69 38 = some z262.toInt := (fhp269.2.2.1 _ (bs_R.uq Hhp263 (g := 11) (p := 69) rfl).1 _ (by rw [(bs_R.uq Hhp263 (g := 11) (p := 69) rfl).2]; rfl)).trans rhp263
                      refine (show Ev _ 90 ([some (.ref 69)], [], (0, 0), hp269) _ from ?_)
                      exact by
                       refine bs_lit (k := 1) rfl rfl fun z275 hz275 => ?_
                       exact bs_zret rfl rfl (by omega) (by omega) (by rw [hQ]; exact ⟨thp269, Hhp269, Fhp269, bs_an0, sf_S_cons (sf_s1 (x := z275.toInt) rfl (by omega) (by omega)) (sf_S_nil), (fun c o p h hr => by have eo : o = O := Option.some.inj (h.2.1.symm.trans hG1.2.1); have ep : p = P := Option.some.inj (h.2.2.1.symm.trans hG1.2.2.1); subst eo ep; exact ⟨_, _, _, se_pushb hs2 h270 h271 h273 (by omega) h274 (by omega) ((((fhp269.2.2.1 _ (bs_R.uq Hhp263 (g := 143) (p := 82) rfl).1 _ (by rw [(bs_R.uq Hhp263 (g := 143) (p := 82) rfl).2]; rfl)).trans ((ehp263 _ _ (Or.inl (by decide))).trans (ehp257 _ _ (Or.inl (by decide)))))).trans (bs_at rhp248 (by omega))) (by omega) (fun q => ((fhp269.2.2.1 _ (bs_R.uq Hhp263 (g := 134) (p := 73) rfl).1 _ (by rw [(bs_R.uq Hhp263 (g := 134) (p := 73) rfl).2]; rfl)).trans ((ehp263 _ _ (Or.inl (by decide))).trans ((ehp257 _ _ (Or.inl (by decide))).trans ((ehp248 _ _ (Or.inl (by decide))).trans (fhp239.2.2.1 _ (bs_R.uq Hhp235 (g := 134) (p := 73) rfl).1 _ (by rw [(bs_R.uq Hhp235 (g := 134) (p := 73) rfl).2]; rfl))))))) (fun q hq => ((fhp269.2.2.1 _ (bs_R.uq Hhp263 (g := 143) (p := 82) rfl).1 _ (by rw [(bs_R.uq Hhp263 (g := 143) (p := 82) rfl).2]; rfl)).trans ((ehp263 _ _ (Or.inl (by decide))).trans ((ehp257 _ _ (Or.inl (by decide))).trans ((ehp248 _ _ (Or.inr (by omega))).trans (fhp239.2.2.1 _ (bs_R.uq Hhp235 (g := 143) (p := 82) rfl).1 _ (by rw [(bs_R.uq Hhp235 (g := 143) (p := 82) rfl).2]; rfl))))))), Or.inl ⟨rfl, by omega⟩⟩)⟩)
                 · skip
                   refine bs_lit (k := 21) rfl rfl fun z276 hz276 => ?_
                   exact by
                    refine Ev.step (j := 70) (s' := ([some (.ref 69)], [.int z276, .int z236, .ref 82], (0, 0), hp239)) rfl rfl ?_
                    refine bs_st (W := [(143, 0, 44)]) (g := 143) 0 44 (-2147483648, 2147483647) rfl Hhp239 (bs_R.uq Hhp239 (g := 143) rfl) (by decide) rfl rfl (by decide) rfl rfl (by omega) (by omega) (by dsimp only; omega) (by dsimp only; omega) fun hp277 Hhp277 fhp277 rhp277 ehp277 qhp277 nhp277 => ?_
                    have Fhp277 := sf_fr_tr Fhp239 (sf_fr_wider (W := [(11, 4, 4), (11, 11, 17), (11, 34, 34), (11, 36, 38), (134, 0, 159), (143, 0, 44)]) rfl fhp277)
                    have h278 : sf_rd hp277 69 34 = some C2 := (ehp277 _ _ (Or.inl (by decide))).trans h241
                    have h279 : sf_rd hp277 69 35 = some O := (ehp277 _ _ (Or.inl (by decide))).trans h242
                    have h280 : sf_rd hp277 69 36 = some P2 := (ehp277 _ _ (Or.inl (by decide))).trans h243
                    have h281 : sf_rd hp277 69 38 = some (1 : Int) := (ehp277 _ _ (Or.inl (by decide))).trans h244
                    refine Ev.step (j := 72) (s' := ([some (.ref 69)], [.ref 69], (0, 0), hp277)) rfl rfl ?_
                    exact by
                     refine Ev.step (j := 73) (s' := ([some (.ref 69)], [.ref 69, .ref 69], (0, 0), hp277)) rfl rfl ?_
                     refine bs_getI 11 rfl rfl rfl Hhp277 (bs_R.uq Hhp277 (g := 11) rfl) (by decide) rfl fun z282 hz282 lz282 gz282 => ?_
                     have e283 : z282.toInt = P2 := Option.some.inj (hz282.symm.trans h280)
                     refine bs_lit (k := 1) rfl rfl fun z284 hz284 => ?_
                     first | (refine bs_add rfl (by omega) (by omega) fun z285 hz285 => ?_) | (refine bs_any rfl fun z285 => ?_)
                     have rz285 := n_range z285
                     refine bs_putI (W := [(11, 36, 36)]) (g := 11) rfl rfl Hhp277 (bs_R.uq Hhp277 (g := 11) rfl) (by decide) rfl rfl rfl rfl (Or.inl rfl) (by omega) (by omega) fun hp286 Hhp286 fhp286 rhp286 ehp286 qhp286 nhp286 => ?_
                     have Fhp286 := sf_fr_tr Fhp277 (sf_fr_wider (W := [(11, 4, 4), (11, 11, 17), (11, 34, 34), (11, 36, 38), (134, 0, 159), (143, 0, 44)]) rfl fhp286)
                     have h287 : sf_rd hp286 69 34 = some C2 := (ehp286 _ _ (Or.inr (by omega))).trans h278
                     have h288 : sf_rd hp286 69 35 = some O := (ehp286 _ _ (Or.inr (by omega))).trans h279
                     have h289 : sf_rd hp286 69 38 = some (1 : Int) := (ehp286 _ _ (Or.inr (by omega))).trans h281
                     have h290 : sf_rd hp286 82 z236.toInt.toNat = some z276.toInt := (ehp286 _ _ (Or.inl (by decide))).trans rhp277
                     refine Ev.step (j := 82) (s' := ([some (.ref 69)], [.ref 69], (0, 0), hp286)) rfl rfl ?_
                     exact by
                      refine bs_lit (k := 0) rfl rfl fun z291 hz291 => ?_
                      refine bs_putI (W := [(11, 38, 38)]) (g := 11) rfl rfl Hhp286 (bs_R.uq Hhp286 (g := 11) rfl) (by decide) rfl rfl rfl rfl (Or.inr ⟨rfl, by omega, by omega⟩) (by omega) (by omega) fun hp292 Hhp292 fhp292 rhp292 ehp292 qhp292 nhp292 => ?_
                      have Fhp292 := sf_fr_tr Fhp286 (sf_fr_wider (W := [(11, 4, 4), (11, 11, 17), (11, 34, 34), (11, 36, 38), (134, 0, 159), (143, 0, 44)]) rfl fhp292)
                      have h293 : sf_rd hp292 69 34 = some C2 := (ehp292 _ _ (Or.inr (by omega))).trans h287
                      have h294 : sf_rd hp292 69 35 = some O := (ehp292 _ _ (Or.inr (by omega))).trans h288
                      have h295 : sf_rd hp292 82 z236.toInt.toNat = some z276.toInt := (ehp292 _ _ (Or.inl (by decide))).trans h290
                      have h296 : sf_rd hp292 69 36 = some z285.toInt := (ehp292 _ _ (Or.inr (by omega))).trans rhp286
                      refine Ev.step (j := 87) (s' := ([some (.ref 69)], [.ref 69], (0, 0), hp292)) rfl rfl ?_
                      exact by
                       refine bs_call (K := kq_X11_next_h) [.ref 69] [] rfl ct_X11_next_h Hhp292 rfl rfl rfl (bs_rcv (g := 11) Hhp292 (bs_R.uq Hhp292 (g := 11) rfl) (by decide) rfl) rfl ?_ (sf_S_nil) fun r297 hp298 thp298 Hhp298 fhp298 ahp298 php298 => ?_
                       · intro q k h
                         match q, h with
                         | 0, h => cases h; exact bs_jR (bs_R.uq Hhp292 (g := 11) rfl)
                         | q + 1, h => cases h
                       obtain rfl := ahp298.1 rfl
                       have Fhp298 := sf_fr_tr Fhp292 (sf_fr_wider (W := [(11, 4, 4), (11, 11, 17), (11, 34, 34), (11, 36, 38), (134, 0, 159), (143, 0, 44)]) rfl fhp298)
                       have h299 : sf_rd hp298 69 34 = some C2 := (fhp298.2.2.1 _ (bs_R.uq Hhp292 (g := 11) (p := 69) rfl).1 _ (by rw [(bs_R.uq Hhp292 (g := 11) (p := 69) rfl).2]; rfl)).trans h293
                       have h300 : sf_rd hp298 69 35 = some O := (fhp298.2.2.1 _ (bs_R.uq Hhp292 (g := 11) (p := 69) rfl).1 _ (by rw [(bs_R.uq Hhp292 (g := 11) (p := 69) rfl).2]; rfl)).trans h294
                       have h301 : sf_rd hp298 82 z236.toInt.toNat = some z276.toInt := (fhp298.2.2.1 _ (bs_R.uq Hhp292 (g := 143) (p := 82) rfl).1 _ (by rw [(bs_R.uq Hhp292 (g := 143) (p := 82) rfl).2]; rfl)).trans h295
                       have h302 : sf_rd hp298 69 36 = some z285.toInt := (fhp298.2.2.1 _ (bs_R.uq Hhp292 (g := 11) (p := 69) rfl).1 _ (by rw [(bs_R.uq Hhp292 (g := 11) (p := 69) rfl).2]; rfl)).trans h296
                       have h303 : sf_rd hp298 69 38 = some z291.toInt := (fhp298.2.2.1 _ (bs_R.uq Hhp292 (g := 11) (p := 69) rfl).1 _ (by rw [(bs_R.uq Hhp292 (g := 11) (p := 69) rfl).2]; rfl)).trans rhp292
                       refine (show Ev _ 90 ([some (.ref 69)], [], (0, 0), hp298) _ from ?_)
                       exact by
                        refine bs_lit (k := 1) rfl rfl fun z304 hz304 => ?_
                        exact bs_zret rfl rfl (by omega) (by omega) (by rw [hQ]; exact ⟨thp298, Hhp298, Fhp298, bs_an0, sf_S_cons (sf_s1 (x := z304.toInt) rfl (by omega) (by omega)) (sf_S_nil), (fun c o p h hr => by have eo : o = O := Option.some.inj (h.2.1.symm.trans hG1.2.1); have ep : p = P := Option.some.inj (h.2.2.1.symm.trans hG1.2.2.1); subst eo ep; exact ⟨_, _, _, se_pushb hs2 h299 h300 h302 (by omega) h303 (by omega) ((((fhp298.2.2.1 _ (bs_R.uq Hhp292 (g := 143) (p := 82) rfl).1 _ (by rw [(bs_R.uq Hhp292 (g := 143) (p := 82) rfl).2]; rfl)).trans ((ehp292 _ _ (Or.inl (by decide))).trans (ehp286 _ _ (Or.inl (by decide)))))).trans (bs_at rhp277 (by omega))) (by omega) (fun q => ((fhp298.2.2.1 _ (bs_R.uq Hhp292 (g := 134) (p := 73) rfl).1 _ (by rw [(bs_R.uq Hhp292 (g := 134) (p := 73) rfl).2]; rfl)).trans ((ehp292 _ _ (Or.inl (by decide))).trans ((ehp286 _ _ (Or.inl (by decide))).trans ((ehp277 _ _ (Or.inl (by decide))).trans (fhp239.2.2.1 _ (bs_R.uq Hhp235 (g := 134) (p := 73) rfl).1 _ (by rw [(bs_R.uq Hhp235 (g := 134) (p := 73) rfl).2]; rfl))))))) (fun q hq => ((fhp298.2.2.1 _ (bs_R.uq Hhp292 (g := 143) (p := 82) rfl).1 _ (by rw [(bs_R.uq Hhp292 (g := 143) (p := 82) rfl).2]; rfl)).trans ((ehp292 _ _ (Or.inl (by decide))).trans ((ehp286 _ _ (Or.inl (by decide))).trans ((ehp277 _ _ (Or.inr (by omega))).trans (fhp239.2.2.1 _ (bs_R.uq Hhp235 (g := 143) (p := 82) rfl).1 _ (by rw [(bs_R.uq Hhp235 (g := 143) (p := 82) rfl).2]; rfl))))))), Or.inl ⟨rfl, by omega⟩⟩)⟩)
             · skip
               refine bs_lit (k := 21) rfl rfl fun z305 hz305 => ?_
               exact by
                refine Ev.step (j := 42) (s' := ([some (.ref 69)], [.int z305, .ref 69], (0, 0), hp226)) rfl rfl ?_
                have s306 := se_fr Hhp2 fhp4 rfl hs1
                have s307 := se_fr Hhp4 fhp162 rfl s306
                have s308 := se_fr Hhp162 fhp226 rfl s307
                refine bs_callp (K := kq_X11_joins_h) [.ref 69, .int z305] [] rfl cp_X11_joins_h (⟨_, _, _, s308⟩) Hhp226 rfl rfl rfl (bs_rcv (g := 11) Hhp226 (bs_R.uq Hhp226 (g := 11) rfl) (by decide) rfl) rfl ?_ (sf_S_nil) fun r309 hp310 thp310 Hhp310 fhp310 ahp310 php310 xhp310 => ?_
                · intro q k h
                  match q, h with
                  | 0, h => cases h; exact bs_jR (bs_R.uq Hhp226 (g := 11) rfl)
                  | 1, h => cases h; exact sf_j0
                  | q + 2, h => cases h
                obtain rfl := ahp310.1 rfl
                have Fhp310 := sf_fr_tr Fhp226 (sf_fr_wider (W := [(11, 4, 4), (11, 11, 17), (11, 34, 34), (11, 36, 38), (134, 0, 159), (143, 0, 44)]) rfl fhp310)
                refine (show Ev _ 45 ([some (.ref 69)], [], (0, 0), hp310) _ from ?_)
                obtain ⟨C2, P2, hs2, hl2, hj2⟩ := xhp310 _ _ _ s308
                have hbhs2 := hs2.al
                refine Ev.step (j := 46) (s' := ([some (.ref 69)], [.ref 69], (0, 0), hp310)) rfl rfl ?_
                exact by
                 refine bs_getU (g := 11) (g1 := 143) rfl rfl Hhp310 (bs_R.uq Hhp310 (g := 11) rfl) (by decide) rfl rfl ?_
                 refine Ev.step (j := 50) (s' := ([some (.ref 69)], [.ref 69, .ref 82], (0, 0), hp310)) rfl rfl ?_
                 refine bs_getI 11 rfl rfl rfl Hhp310 (bs_R.uq Hhp310 (g := 11) rfl) (by decide) rfl fun z311 hz311 lz311 gz311 => ?_
                 have e312 : z311.toInt = P2 := Option.some.inj (hz311.symm.trans hs2.2.2.1)
                 refine Ev.step (j := 54) (s' := ([some (.ref 69)], [.ref 69, .int z311, .ref 82], (0, 0), hp310)) rfl rfl ?_
                 refine Ev.step (j := 57) (s' := ([some (.ref 69)], [.long (6385252), .ref 69, .int z311, .ref 82], (0, 0), hp310)) rfl rfl ?_
                 refine bs_call (K := kq_X11_isWord_0799ed) [.ref 69, .long (6385252)] [.int z311, .ref 82] rfl ct_X11_isWord_0799ed Hhp310 rfl rfl rfl (bs_rcv (g := 11) Hhp310 (bs_R.uq Hhp310 (g := 11) rfl) (by decide) rfl) rfl ?_ (sf_S_nil) fun r313 hp314 thp314 Hhp314 fhp314 ahp314 php314 => ?_
                 · intro q k h
                   match q, h with
                   | 0, h => cases h; exact bs_jR (bs_R.uq Hhp310 (g := 11) rfl)
                   | 1, h => cases h; exact sf_j2
                   | q + 2, h => cases h
                 obtain ⟨z315, rfl⟩ := bs_anI ahp314
                 have rgz315 := n_range z315
                 have Fhp314 := sf_fr_tr Fhp310 (sf_fr_wider (W := [(11, 4, 4), (11, 11, 17), (11, 34, 34), (11, 36, 38), (134, 0, 159), (143, 0, 44)]) rfl fhp314)
                 have h316 : sf_rd hp314 69 34 = some C2 := (fhp314.2.2.1 _ (bs_R.uq Hhp310 (g := 11) (p := 69) rfl).1 _ (by rw [(bs_R.uq Hhp310 (g := 11) (p := 69) rfl).2]; rfl)).trans hs2.1
                 have h317 : sf_rd hp314 69 35 = some O := (fhp314.2.2.1 _ (bs_R.uq Hhp310 (g := 11) (p := 69) rfl).1 _ (by rw [(bs_R.uq Hhp310 (g := 11) (p := 69) rfl).2]; rfl)).trans hs2.2.1
                 have h318 : sf_rd hp314 69 36 = some P2 := (fhp314.2.2.1 _ (bs_R.uq Hhp310 (g := 11) (p := 69) rfl).1 _ (by rw [(bs_R.uq Hhp310 (g := 11) (p := 69) rfl).2]; rfl)).trans hs2.2.2.1
                 have h319 : sf_rd hp314 69 38 = some (1 : Int) := (fhp314.2.2.1 _ (bs_R.uq Hhp310 (g := 11) (p := 69) rfl).1 _ (by rw [(bs_R.uq Hhp310 (g := 11) (p := 69) rfl).2]; rfl)).trans hs2.2.2.2.1
                 obtain ⟨uz315, vz315⟩ := bs_s1 (x := z315.toInt) rfl (php314 _ (List.mem_of_getElem? (i := 0) rfl))
                 refine (show Ev _ 60 ([some (.ref 69)], [.int z315, .int z311, .ref 82], (0, 0), hp314) _ from ?_)
                 exact by
                  refine bs_ifeq rfl (fun c320 => ?_) (fun c320 => ?_)
                  · skip
                    have c321 : z315.toInt = 0 := by omega
                    refine bs_lit (k := 22) rfl rfl fun z322 hz322 => ?_
                    refine bs_st (W := [(143, 0, 44)]) (g := 143) 0 44 (-2147483648, 2147483647) rfl Hhp314 (bs_R.uq Hhp314 (g := 143) rfl) (by decide) rfl rfl (by decide) rfl rfl (by omega) (by omega) (by dsimp only; omega) (by dsimp only; omega) fun hp323 Hhp323 fhp323 rhp323 ehp323 qhp323 nhp323 => ?_
                    have Fhp323 := sf_fr_tr Fhp314 (sf_fr_wider (W := [(11, 4, 4), (11, 11, 17), (11, 34, 34), (11, 36, 38), (134, 0, 159), (143, 0, 44)]) rfl fhp323)
                    have h324 : sf_rd hp323 69 34 = some C2 := (ehp323 _ _ (Or.inl (by decide))).trans h316
                    have h325 : sf_rd hp323 69 35 = some O := (ehp323 _ _ (Or.inl (by decide))).trans h317
                    have h326 : sf_rd hp323 69 36 = some P2 := (ehp323 _ _ (Or.inl (by decide))).trans h318
                    have h327 : sf_rd hp323 69 38 = some (1 : Int) := (ehp323 _ _ (Or.inl (by decide))).trans h319
                    refine Ev.step (j := 72) (s' := ([some (.ref 69)], [.ref 69], (0, 0), hp323)) rfl rfl ?_
                    exact by
                     refine Ev.step (j := 73) (s' := ([some (.ref 69)], [.ref 69, .ref 69], (0, 0), hp323)) rfl rfl ?_
                     refine bs_getI 11 rfl rfl rfl Hhp323 (bs_R.uq Hhp323 (g := 11) rfl) (by decide) rfl fun z328 hz328 lz328 gz328 => ?_
                     have e329 : z328.toInt = P2 := Option.some.inj (hz328.symm.trans h326)
                     refine bs_lit (k := 1) rfl rfl fun z330 hz330 => ?_
                     first | (refine bs_add rfl (by omega) (by omega) fun z331 hz331 => ?_) | (refine bs_any rfl fun z331 => ?_)
                     have rz331 := n_range z331
                     refine bs_putI (W := [(11, 36, 36)]) (g := 11) rfl rfl Hhp323 (bs_R.uq Hhp323 (g := 11) rfl) (by decide) rfl rfl rfl rfl (Or.inl rfl) (by omega) (by omega) fun hp332 Hhp332 fhp332 rhp332 ehp332 qhp332 nhp332 => ?_
                     have Fhp332 := sf_fr_tr Fhp323 (sf_fr_wider (W := [(11, 4, 4), (11, 11, 17), (11, 34, 34), (11, 36, 38), (134, 0, 159), (143, 0, 44)]) rfl fhp332)
                     have h333 : sf_rd hp332 69 34 = some C2 := (ehp332 _ _ (Or.inr (by omega))).trans h324
                     have h334 : sf_rd hp332 69 35 = some O := (ehp332 _ _ (Or.inr (by omega))).trans h325
                     have h335 : sf_rd hp332 69 38 = some (1 : Int) := (ehp332 _ _ (Or.inr (by omega))).trans h327
                     have h336 : sf_rd hp332 82 z311.toInt.toNat = some z322.toInt := (ehp332 _ _ (Or.inl (by decide))).trans rhp323
                     refine Ev.step (j := 82) (s' := ([some (.ref 69)], [.ref 69], (0, 0), hp332)) rfl rfl ?_
                     exact by
                      refine bs_lit (k := 0) rfl rfl fun z337 hz337 => ?_
                      refine bs_putI (W := [(11, 38, 38)]) (g := 11) rfl rfl Hhp332 (bs_R.uq Hhp332 (g := 11) rfl) (by decide) rfl rfl rfl rfl (Or.inr ⟨rfl, by omega, by omega⟩) (by omega) (by omega) fun hp338 Hhp338 fhp338 rhp338 ehp338 qhp338 nhp338 => ?_
                      have Fhp338 := sf_fr_tr Fhp332 (sf_fr_wider (W := [(11, 4, 4), (11, 11, 17), (11, 34, 34), (11, 36, 38), (134, 0, 159), (143, 0, 44)]) rfl fhp338)
                      have h339 : sf_rd hp338 69 34 = some C2 := (ehp338 _ _ (Or.inr (by omega))).trans h333
                      have h340 : sf_rd hp338 69 35 = some O := (ehp338 _ _ (Or.inr (by omega))).trans h334
                      have h341 : sf_rd hp338 82 z311.toInt.toNat = some z322.toInt := (ehp338 _ _ (Or.inl (by decide))).trans h336
                      have h342 : sf_rd hp338 69 36 = some z331.toInt := (ehp338 _ _ (Or.inr (by omega))).trans rhp332
                      refine Ev.step (j := 87) (s' := ([some (.ref 69)], [.ref 69], (0, 0), hp338)) rfl rfl ?_
                      exact by
                       refine bs_call (K := kq_X11_next_h) [.ref 69] [] rfl ct_X11_next_h Hhp338 rfl rfl rfl (bs_rcv (g := 11) Hhp338 (bs_R.uq Hhp338 (g := 11) rfl) (by decide) rfl) rfl ?_ (sf_S_nil) fun r343 hp344 thp344 Hhp344 fhp344 ahp344 php344 => ?_
                       · intro q k h
                         match q, h with
                         | 0, h => cases h; exact bs_jR (bs_R.uq Hhp338 (g := 11) rfl)
                         | q + 1, h => cases h
                       obtain rfl := ahp344.1 rfl
                       have Fhp344 := sf_fr_tr Fhp338 (sf_fr_wider (W := [(11, 4, 4), (11, 11, 17), (11, 34, 34), (11, 36, 38), (134, 0, 159), (143, 0, 44)]) rfl fhp344)
                       have h345 : sf_rd hp344 69 34 = some C2 := (fhp344.2.2.1 _ (bs_R.uq Hhp338 (g := 11) (p := 69) rfl).1 _ (by rw [(bs_R.uq Hhp338 (g := 11) (p := 69) rfl).2]; rfl)).trans h339
                       have h346 : sf_rd hp344 69 35 = some O := (fhp344.2.2.1 _ (bs_R.uq Hhp338 (g := 11) (p := 69) rfl).1 _ (by rw [(bs_R.uq Hhp338 (g := 11) (p := 69) rfl).2]; rfl)).trans h340
                       have h347 : sf_rd hp344 82 z311.toInt.toNat = some z322.toInt := (fhp344.2.2.1 _ (bs_R.uq Hhp338 (g := 143) (p := 82) rfl).1 _ (by rw [(bs_R.uq Hhp338 (g := 143) (p := 82) rfl).2]; rfl)).trans h341
                       have h348 : sf_rd hp344 69 36 = some z331.toInt := (fhp344.2.2.1 _ (bs_R.uq Hhp338 (g := 11) (p := 69) rfl).1 _ (by rw [(bs_R.uq Hhp338 (g := 11) (p := 69) rfl).2]; rfl)).trans h342
                       have h349 : sf_rd hp344 69 38 = some z337.toInt := (fhp344.2.2.1 _ (bs_R.uq Hhp338 (g := 11) (p := 69) rfl).1 _ (by rw [(bs_R.uq Hhp338 (g := 11) (p := 69) rfl).2]; rfl)).trans rhp338
                       refine (show Ev _ 90 ([some (.ref 69)], [], (0, 0), hp344) _ from ?_)
                       exact by
                        refine bs_lit (k := 1) rfl rfl fun z350 hz350 => ?_
                        exact bs_zret rfl rfl (by omega) (by omega) (by rw [hQ]; exact ⟨thp344, Hhp344, Fhp344, bs_an0, sf_S_cons (sf_s1 (x := z350.toInt) rfl (by omega) (by omega)) (sf_S_nil), (fun c o p h hr => by have eo : o = O := Option.some.inj (h.2.1.symm.trans hG1.2.1); have ep : p = P := Option.some.inj (h.2.2.1.symm.trans hG1.2.2.1); subst eo ep; exact ⟨_, _, _, se_pushb hs2 h345 h346 h348 (by omega) h349 (by omega) ((((fhp344.2.2.1 _ (bs_R.uq Hhp338 (g := 143) (p := 82) rfl).1 _ (by rw [(bs_R.uq Hhp338 (g := 143) (p := 82) rfl).2]; rfl)).trans ((ehp338 _ _ (Or.inl (by decide))).trans (ehp332 _ _ (Or.inl (by decide)))))).trans (bs_at rhp323 (by omega))) (by omega) (fun q => ((fhp344.2.2.1 _ (bs_R.uq Hhp338 (g := 134) (p := 73) rfl).1 _ (by rw [(bs_R.uq Hhp338 (g := 134) (p := 73) rfl).2]; rfl)).trans ((ehp338 _ _ (Or.inl (by decide))).trans ((ehp332 _ _ (Or.inl (by decide))).trans ((ehp323 _ _ (Or.inl (by decide))).trans (fhp314.2.2.1 _ (bs_R.uq Hhp310 (g := 134) (p := 73) rfl).1 _ (by rw [(bs_R.uq Hhp310 (g := 134) (p := 73) rfl).2]; rfl))))))) (fun q hq => ((fhp344.2.2.1 _ (bs_R.uq Hhp338 (g := 143) (p := 82) rfl).1 _ (by rw [(bs_R.uq Hhp338 (g := 143) (p := 82) rfl).2]; rfl)).trans ((ehp338 _ _ (Or.inl (by decide))).trans ((ehp332 _ _ (Or.inl (by decide))).trans ((ehp323 _ _ (Or.inr (by omega))).trans (fhp314.2.2.1 _ (bs_R.uq Hhp310 (g := 143) (p := 82) rfl).1 _ (by rw [(bs_R.uq Hhp310 (g := 143) (p := 82) rfl).2]; rfl))))))), Or.inl ⟨rfl, by omega⟩⟩)⟩)
                  · skip
                    refine bs_lit (k := 21) rfl rfl fun z351 hz351 => ?_
                    exact by
                     refine Ev.step (j := 70) (s' := ([some (.ref 69)], [.int z351, .int z311, .ref 82], (0, 0), hp314)) rfl rfl ?_
                     refine bs_st (W := [(143, 0, 44)]) (g := 143) 0 44 (-2147483648, 2147483647) rfl Hhp314 (bs_R.uq Hhp314 (g := 143) rfl) (by decide) rfl rfl (by decide) rfl rfl (by omega) (by omega) (by dsimp only; omega) (by dsimp only; omega) fun hp352 Hhp352 fhp352 rhp352 ehp352 qhp352 nhp352 => ?_
                     have Fhp352 := sf_fr_tr Fhp314 (sf_fr_wider (W := [(11, 4, 4), (11, 11, 17), (11, 34, 34), (11, 36, 38), (134, 0, 159), (143, 0, 44)]) rfl fhp352)
                     have h353 : sf_rd hp352 69 34 = some C2 := (ehp352 _ _ (Or.inl (by decide))).trans h316
                     have h354 : sf_rd hp352 69 35 = some O := (ehp352 _ _ (Or.inl (by decide))).trans h317
                     have h355 : sf_rd hp352 69 36 = some P2 := (ehp352 _ _ (Or.inl (by decide))).trans h318
                     have h356 : sf_rd hp352 69 38 = some (1 : Int) := (ehp352 _ _ (Or.inl (by decide))).trans h319
                     refine Ev.step (j := 72) (s' := ([some (.ref 69)], [.ref 69], (0, 0), hp352)) rfl rfl ?_
                     exact by
                      refine Ev.step (j := 73) (s' := ([some (.ref 69)], [.ref 69, .ref 69], (0, 0), hp352)) rfl rfl ?_
                      refine bs_getI 11 rfl rfl rfl Hhp352 (bs_R.uq Hhp352 (g := 11) rfl) (by decide) rfl fun z357 hz357 lz357 gz357 => ?_
                      have e358 : z357.toInt = P2 := Option.some.inj (hz357.symm.trans h355)
                      refine bs_lit (k := 1) rfl rfl fun z359 hz359 => ?_
                      first | (refine bs_add rfl (by omega) (by omega) fun z360 hz360 => ?_) | (refine bs_any rfl fun z360 => ?_)
                      have rz360 := n_range z360
                      refine bs_putI (W := [(11, 36, 36)]) (g := 11) rfl rfl Hhp352 (bs_R.uq Hhp352 (g := 11) rfl) (by decide) rfl rfl rfl rfl (Or.inl rfl) (by omega) (by omega) fun hp361 Hhp361 fhp361 rhp361 ehp361 qhp361 nhp361 => ?_
                      have Fhp361 := sf_fr_tr Fhp352 (sf_fr_wider (W := [(11, 4, 4), (11, 11, 17), (11, 34, 34), (11, 36, 38), (134, 0, 159), (143, 0, 44)]) rfl fhp361)
                      have h362 : sf_rd hp361 69 34 = some C2 := (ehp361 _ _ (Or.inr (by omega))).trans h353
                      have h363 : sf_rd hp361 69 35 = some O := (ehp361 _ _ (Or.inr (by omega))).trans h354
                      have h364 : sf_rd hp361 69 38 = some (1 : Int) := (ehp361 _ _ (Or.inr (by omega))).trans h356
                      have h365 : sf_rd hp361 82 z311.toInt.toNat = some z351.toInt := (ehp361 _ _ (Or.inl (by decide))).trans rhp352
                      refine Ev.step (j := 82) (s' := ([some (.ref 69)], [.ref 69], (0, 0), hp361)) rfl rfl ?_
                      exact by
                       refine bs_lit (k := 0) rfl rfl fun z366 hz366 => ?_
                       refine bs_putI (W := [(11, 38, 38)]) (g := 11) rfl rfl Hhp361 (bs_R.uq Hhp361 (g := 11) rfl) (by decide) rfl rfl rfl rfl (Or.inr ⟨rfl, by omega, by omega⟩) (by omega) (by omega) fun hp367 Hhp367 fhp367 rhp367 ehp367 qhp367 nhp367 => ?_
                       have Fhp367 := sf_fr_tr Fhp361 (sf_fr_wider (W := [(11, 4, 4), (11, 11, 17), (11, 34, 34), (11, 36, 38), (134, 0, 159), (143, 0, 44)]) rfl fhp367)
                       have h368 : sf_rd hp367 69 34 = some C2 := (ehp367 _ _ (Or.inr (by omega))).trans h362
                       have h369 : sf_rd hp367 69 35 = some O := (ehp367 _ _ (Or.inr (by omega))).trans h363
                       have h370 : sf_rd hp367 82 z311.toInt.toNat = some z351.toInt := (ehp367 _ _ (Or.inl (by decide))).trans h365
                       have h371 : sf_rd hp367 69 36 = some z360.toInt := (ehp367 _ _ (Or.inr (by omega))).trans rhp361
                       refine Ev.step (j := 87) (s' := ([some (.ref 69)], [.ref 69], (0, 0), hp367)) rfl rfl ?_
                       exact by
                        refine bs_call (K := kq_X11_next_h) [.ref 69] [] rfl ct_X11_next_h Hhp367 rfl rfl rfl (bs_rcv (g := 11) Hhp367 (bs_R.uq Hhp367 (g := 11) rfl) (by decide) rfl) rfl ?_ (sf_S_nil) fun r372 hp373 thp373 Hhp373 fhp373 ahp373 php373 => ?_
                        · intro q k h
                          match q, h with
                          | 0, h => cases h; exact bs_jR (bs_R.uq Hhp367 (g := 11) rfl)
                          | q + 1, h => cases h
                        obtain rfl := ahp373.1 rfl
                        have Fhp373 := sf_fr_tr Fhp367 (sf_fr_wider (W := [(11, 4, 4), (11, 11, 17), (11, 34, 34), (11, 36, 38), (134, 0, 159), (143, 0, 44)]) rfl fhp373)
                        have h374 : sf_rd hp373 69 34 = some C2 := (fhp373.2.2.1 _ (bs_R.uq Hhp367 (g := 11) (p := 69) rfl).1 _ (by rw [(bs_R.uq Hhp367 (g := 11) (p := 69) rfl).2]; rfl)).trans h368
                        have h375 : sf_rd hp373 69 35 = some O := (fhp373.2.2.1 _ (bs_R.uq Hhp367 (g := 11) (p := 69) rfl).1 _ (by rw [(bs_R.uq Hhp367 (g := 11) (p := 69) rfl).2]; rfl)).trans h369
                        have h376 : sf_rd hp373 82 z311.toInt.toNat = some z351.toInt := (fhp373.2.2.1 _ (bs_R.uq Hhp367 (g := 143) (p := 82) rfl).1 _ (by rw [(bs_R.uq Hhp367 (g := 143) (p := 82) rfl).2]; rfl)).trans h370
                        have h377 : sf_rd hp373 69 36 = some z360.toInt := (fhp373.2.2.1 _ (bs_R.uq Hhp367 (g := 11) (p := 69) rfl).1 _ (by rw [(bs_R.uq Hhp367 (g := 11) (p := 69) rfl).2]; rfl)).trans h371
                        have h378 : sf_rd hp373 69 38 = some z366.toInt := (fhp373.2.2.1 _ (bs_R.uq Hhp367 (g := 11) (p := 69) rfl).1 _ (by rw [(bs_R.uq Hhp367 (g := 11) (p := 69) rfl).2]; rfl)).trans rhp367
                        refine (show Ev _ 90 ([some (.ref 69)], [], (0, 0), hp373) _ from ?_)
                        exact by
                         refine bs_lit (k := 1) rfl rfl fun z379 hz379 => ?_
                         exact bs_zret rfl rfl (by omega) (by omega) (by rw [hQ]; exact ⟨thp373, Hhp373, Fhp373, bs_an0, sf_S_cons (sf_s1 (x := z379.toInt) rfl (by omega) (by omega)) (sf_S_nil), (fun c o p h hr => by have eo : o = O := Option.some.inj (h.2.1.symm.trans hG1.2.1); have ep : p = P := Option.some.inj (h.2.2.1.symm.trans hG1.2.2.1); subst eo ep; exact ⟨_, _, _, se_pushb hs2 h374 h375 h377 (by omega) h378 (by omega) ((((fhp373.2.2.1 _ (bs_R.uq Hhp367 (g := 143) (p := 82) rfl).1 _ (by rw [(bs_R.uq Hhp367 (g := 143) (p := 82) rfl).2]; rfl)).trans ((ehp367 _ _ (Or.inl (by decide))).trans (ehp361 _ _ (Or.inl (by decide)))))).trans (bs_at rhp352 (by omega))) (by omega) (fun q => ((fhp373.2.2.1 _ (bs_R.uq Hhp367 (g := 134) (p := 73) rfl).1 _ (by rw [(bs_R.uq Hhp367 (g := 134) (p := 73) rfl).2]; rfl)).trans ((ehp367 _ _ (Or.inl (by decide))).trans ((ehp361 _ _ (Or.inl (by decide))).trans ((ehp352 _ _ (Or.inl (by decide))).trans (fhp314.2.2.1 _ (bs_R.uq Hhp310 (g := 134) (p := 73) rfl).1 _ (by rw [(bs_R.uq Hhp310 (g := 134) (p := 73) rfl).2]; rfl))))))) (fun q hq => ((fhp373.2.2.1 _ (bs_R.uq Hhp367 (g := 143) (p := 82) rfl).1 _ (by rw [(bs_R.uq Hhp367 (g := 143) (p := 82) rfl).2]; rfl)).trans ((ehp367 _ _ (Or.inl (by decide))).trans ((ehp361 _ _ (Or.inl (by decide))).trans ((ehp352 _ _ (Or.inr (by omega))).trans (fhp314.2.2.1 _ (bs_R.uq Hhp310 (g := 143) (p := 82) rfl).1 _ (by rw [(bs_R.uq Hhp310 (g := 143) (p := 82) rfl).2]; rfl))))))), Or.inl ⟨rfl, by omega⟩⟩)⟩)
def kq_X11_sentence_h : sf_Q := ([(1, 11, 0)], [], some (0, 0, 0), [(1, 36008, 0, 0, 0, 0)], [(11, 0, 0), (11, 2, 5), (11, 11, 18), (11, 34, 38), (132, 253, 433), (134, 0, 159), (143, 0, 44), (999, 0, 0)])
set_option maxRecDepth 100000 in
set_option maxHeartbeats 4000000 in
theorem ct_X11_sentence_h : sf_ct kq_X11_sentence_h Z_X11_sentence := by
  intro t hp as H hl hj hpre
  match as, hl with
  | [v0], _ =>
    obtain ⟨a0, rfl, ra0⟩ := bs_aR (hj 0 _ rfl)
    obtain rfl := ra0.eq H (p := 69) rfl
    clear hpre hj
    have F0 : sf_fr [(11, 0, 0), (11, 2, 5), (11, 11, 18), (11, 34, 38), (132, 253, 433), (134, 0, 159), (143, 0, 44), (999, 0, 0)] t hp t hp := sf_fr_rf
    refine bs_fin (K := kq_X11_sentence_h) (L := (L_X11_sentence Z_X11_taken Z_X11_next Z_X11_nots Z_X11_joins Z_X11_bad Z_X11_behind Z_X11_operand)) (nL := 3) (Nat.le_of_ble_eq_true rfl) ?_
    obtain ⟨Q, hQ⟩ : ∃ Q : ab_O → Prop, Q = (fun o => ∃ t', sf_h t' o.2 ∧ sf_fr (kq_X11_sentence_h).2.2.2.2 t hp t' o.2 ∧ sf_an t' o.2.1 (kq_X11_sentence_h).2.2.1 o.1 ∧ sf_S (sf_v1 o.1 [.ref 69] o.2) (kq_X11_sentence_h).2.2.2.1) := ⟨_, rfl⟩
    rw [← hQ]
    refine (show Ev (ab_T (L_X11_sentence Z_X11_taken Z_X11_next Z_X11_nots Z_X11_joins Z_X11_bad Z_X11_behind Z_X11_operand)) 0 ([some (.ref 69), none, none], [], (0, 0), hp) Q from ?_)
    refine Ev.step (j := 1) (s' := ([some (.ref 69), none, none], [.ref 69], (0, 0), hp)) rfl rfl ?_
    refine bs_lit (k := 0) rfl rfl fun z1 hz1 => ?_
    exact by
     refine bs_putI (W := [(11, 0, 0)]) (g := 11) rfl rfl H (bs_R.uq H (g := 11) rfl) (by decide) rfl rfl rfl rfl (Or.inl rfl) (by omega) (by omega) fun hp2 Hhp2 fhp2 rhp2 ehp2 qhp2 nhp2 => ?_
     have Fhp2 := sf_fr_tr F0 (sf_fr_wider (W := [(11, 0, 0), (11, 2, 5), (11, 11, 18), (11, 34, 38), (132, 253, 433), (134, 0, 159), (143, 0, 44), (999, 0, 0)]) rfl fhp2)
     refine Ev.step (j := 6) (s' := ([some (.ref 69), none, none], [.ref 69], (0, 0), hp2)) rfl rfl ?_
     refine bs_lit (k := 200) rfl rfl fun z3 hz3 => ?_
     refine bs_call (K := kq_X11_taken_4f6882) [.ref 69, .int z3] [] rfl ct_X11_taken_4f6882 Hhp2 rfl rfl rfl (bs_rcv (g := 11) Hhp2 (bs_R.uq Hhp2 (g := 11) rfl) (by decide) rfl) rfl ?_ (sf_S_cons (sf_s1 (x := z3.toInt) rfl (by omega) (by omega)) (sf_S_nil)) fun r4 hp5 thp5 Hhp5 fhp5 ahp5 php5 => ?_
     · intro q k h
       match q, h with
       | 0, h => cases h; exact bs_jR (bs_R.uq Hhp2 (g := 11) rfl)
       | 1, h => cases h; exact sf_j0
       | q + 2, h => cases h
     obtain rfl := ahp5.1 rfl
     have Fhp5 := sf_fr_tr Fhp2 (sf_fr_wider (W := [(11, 0, 0), (11, 2, 5), (11, 11, 18), (11, 34, 38), (132, 253, 433), (134, 0, 159), (143, 0, 44), (999, 0, 0)]) rfl fhp5)
     have h6 : sf_rd hp5 69 0 = some z1.toInt := (fhp5.2.2.1 _ (bs_R.uq Hhp2 (g := 11) (p := 69) rfl).1 _ (by rw [(bs_R.uq Hhp2 (g := 11) (p := 69) rfl).2]; rfl)).trans rhp2
     obtain ⟨y7, ey7, uy7, vy7⟩ := (php5 _ (List.mem_of_getElem? (i := 0) rfl)).1 rfl
     replace ey7 : sf_rd hp5 69 2 = some y7 := ey7
     replace uy7 : (0 : Int) ≤ y7 := uy7
     replace vy7 : y7 ≤ (0 : Int) := vy7
     obtain ⟨y8, ey8, uy8, vy8⟩ := (php5 _ (List.mem_of_getElem? (i := 1) rfl)).1 rfl
     replace ey8 : sf_rd hp5 69 4 = some y8 := ey8
     replace uy8 : (0 : Int) ≤ y8 := uy8
     replace vy8 : y8 ≤ (0 : Int) := vy8
     obtain ⟨y9, ey9, uy9, vy9⟩ := (php5 _ (List.mem_of_getElem? (i := 2) rfl)).1 rfl
     replace ey9 : sf_rd hp5 69 5 = some y9 := ey9
     replace uy9 : (200 : Int) ≤ y9 := uy9
     replace vy9 : y9 ≤ (200 : Int) := vy9
     refine (show Ev _ 12 ([some (.ref 69), none, none], [], (0, 0), hp5) _ from ?_)
     exact by
      refine Ev.step (j := 13) (s' := ([some (.ref 69), none, none], [.ref 69], (0, 0), hp5)) rfl rfl ?_
      refine bs_lit (k := 0) rfl rfl fun z10 hz10 => ?_
      refine bs_putI (W := [(11, 15, 15)]) (g := 11) rfl rfl Hhp5 (bs_R.uq Hhp5 (g := 11) rfl) (by decide) rfl rfl rfl rfl (Or.inl rfl) (by omega) (by omega) fun hp11 Hhp11 fhp11 rhp11 ehp11 qhp11 nhp11 => ?_
      have Fhp11 := sf_fr_tr Fhp5 (sf_fr_wider (W := [(11, 0, 0), (11, 2, 5), (11, 11, 18), (11, 34, 38), (132, 253, 433), (134, 0, 159), (143, 0, 44), (999, 0, 0)]) rfl fhp11)
      have h12 : sf_rd hp11 69 0 = some z1.toInt := (ehp11 _ _ (Or.inr (by omega))).trans h6
      have h13 : sf_rd hp11 69 2 = some y7 := (ehp11 _ _ (Or.inr (by omega))).trans ey7
      have h14 : sf_rd hp11 69 4 = some y8 := (ehp11 _ _ (Or.inr (by omega))).trans ey8
      have h15 : sf_rd hp11 69 5 = some y9 := (ehp11 _ _ (Or.inr (by omega))).trans ey9
      refine Ev.step (j := 18) (s' := ([some (.ref 69), none, none], [.ref 69], (0, 0), hp11)) rfl rfl ?_
      exact by
       refine bs_lit (k := 0) rfl rfl fun z16 hz16 => ?_
       refine bs_putI (W := [(11, 34, 34)]) (g := 11) rfl rfl Hhp11 (bs_R.uq Hhp11 (g := 11) rfl) (by decide) rfl rfl rfl rfl (Or.inl rfl) (by omega) (by omega) fun hp17 Hhp17 fhp17 rhp17 ehp17 qhp17 nhp17 => ?_
       have Fhp17 := sf_fr_tr Fhp11 (sf_fr_wider (W := [(11, 0, 0), (11, 2, 5), (11, 11, 18), (11, 34, 38), (132, 253, 433), (134, 0, 159), (143, 0, 44), (999, 0, 0)]) rfl fhp17)
       have h18 : sf_rd hp17 69 0 = some z1.toInt := (ehp17 _ _ (Or.inr (by omega))).trans h12
       have h19 : sf_rd hp17 69 2 = some y7 := (ehp17 _ _ (Or.inr (by omega))).trans h13
       have h20 : sf_rd hp17 69 4 = some y8 := (ehp17 _ _ (Or.inr (by omega))).trans h14
       have h21 : sf_rd hp17 69 5 = some y9 := (ehp17 _ _ (Or.inr (by omega))).trans h15
       have h22 : sf_rd hp17 69 15 = some z10.toInt := (ehp17 _ _ (Or.inr (by omega))).trans rhp11
       refine Ev.step (j := 23) (s' := ([some (.ref 69), none, none], [.ref 69], (0, 0), hp17)) rfl rfl ?_
       exact by
        refine bs_lit (k := 0) rfl rfl fun z23 hz23 => ?_
        refine bs_putI (W := [(11, 35, 35)]) (g := 11) rfl rfl Hhp17 (bs_R.uq Hhp17 (g := 11) rfl) (by decide) rfl rfl rfl rfl (Or.inl rfl) (by omega) (by omega) fun hp24 Hhp24 fhp24 rhp24 ehp24 qhp24 nhp24 => ?_
        have Fhp24 := sf_fr_tr Fhp17 (sf_fr_wider (W := [(11, 0, 0), (11, 2, 5), (11, 11, 18), (11, 34, 38), (132, 253, 433), (134, 0, 159), (143, 0, 44), (999, 0, 0)]) rfl fhp24)
        have h25 : sf_rd hp24 69 0 = some z1.toInt := (ehp24 _ _ (Or.inr (by omega))).trans h18
        have h26 : sf_rd hp24 69 2 = some y7 := (ehp24 _ _ (Or.inr (by omega))).trans h19
        have h27 : sf_rd hp24 69 4 = some y8 := (ehp24 _ _ (Or.inr (by omega))).trans h20
        have h28 : sf_rd hp24 69 5 = some y9 := (ehp24 _ _ (Or.inr (by omega))).trans h21
        have h29 : sf_rd hp24 69 15 = some z10.toInt := (ehp24 _ _ (Or.inr (by omega))).trans h22
        have h30 : sf_rd hp24 69 34 = some z16.toInt := (ehp24 _ _ (Or.inr (by omega))).trans rhp17
        refine Ev.step (j := 28) (s' := ([some (.ref 69), none, none], [.ref 69], (0, 0), hp24)) rfl rfl ?_
        exact by
         refine bs_lit (k := 0) rfl rfl fun z31 hz31 => ?_
         refine bs_putI (W := [(11, 36, 36)]) (g := 11) rfl rfl Hhp24 (bs_R.uq Hhp24 (g := 11) rfl) (by decide) rfl rfl rfl rfl (Or.inl rfl) (by omega) (by omega) fun hp32 Hhp32 fhp32 rhp32 ehp32 qhp32 nhp32 => ?_
         have Fhp32 := sf_fr_tr Fhp24 (sf_fr_wider (W := [(11, 0, 0), (11, 2, 5), (11, 11, 18), (11, 34, 38), (132, 253, 433), (134, 0, 159), (143, 0, 44), (999, 0, 0)]) rfl fhp32)
         have h33 : sf_rd hp32 69 0 = some z1.toInt := (ehp32 _ _ (Or.inr (by omega))).trans h25
         have h34 : sf_rd hp32 69 2 = some y7 := (ehp32 _ _ (Or.inr (by omega))).trans h26
         have h35 : sf_rd hp32 69 4 = some y8 := (ehp32 _ _ (Or.inr (by omega))).trans h27
         have h36 : sf_rd hp32 69 5 = some y9 := (ehp32 _ _ (Or.inr (by omega))).trans h28
         have h37 : sf_rd hp32 69 15 = some z10.toInt := (ehp32 _ _ (Or.inr (by omega))).trans h29
         have h38 : sf_rd hp32 69 34 = some z16.toInt := (ehp32 _ _ (Or.inr (by omega))).trans h30
         have h39 : sf_rd hp32 69 35 = some z23.toInt := (ehp32 _ _ (Or.inr (by omega))).trans rhp24
         refine Ev.step (j := 33) (s' := ([some (.ref 69), none, none], [.ref 69], (0, 0), hp32)) rfl rfl ?_
         exact by
          refine bs_lit (k := 1) rfl rfl fun z40 hz40 => ?_
          refine bs_putI (W := [(11, 37, 37)]) (g := 11) rfl rfl Hhp32 (bs_R.uq Hhp32 (g := 11) rfl) (by decide) rfl rfl rfl rfl (Or.inl rfl) (by omega) (by omega) fun hp41 Hhp41 fhp41 rhp41 ehp41 qhp41 nhp41 => ?_
          have Fhp41 := sf_fr_tr Fhp32 (sf_fr_wider (W := [(11, 0, 0), (11, 2, 5), (11, 11, 18), (11, 34, 38), (132, 253, 433), (134, 0, 159), (143, 0, 44), (999, 0, 0)]) rfl fhp41)
          have h42 : sf_rd hp41 69 0 = some z1.toInt := (ehp41 _ _ (Or.inr (by omega))).trans h33
          have h43 : sf_rd hp41 69 2 = some y7 := (ehp41 _ _ (Or.inr (by omega))).trans h34
          have h44 : sf_rd hp41 69 4 = some y8 := (ehp41 _ _ (Or.inr (by omega))).trans h35
          have h45 : sf_rd hp41 69 5 = some y9 := (ehp41 _ _ (Or.inr (by omega))).trans h36
          have h46 : sf_rd hp41 69 15 = some z10.toInt := (ehp41 _ _ (Or.inr (by omega))).trans h37
          have h47 : sf_rd hp41 69 34 = some z16.toInt := (ehp41 _ _ (Or.inr (by omega))).trans h38
          have h48 : sf_rd hp41 69 35 = some z23.toInt := (ehp41 _ _ (Or.inr (by omega))).trans h39
          have h49 : sf_rd hp41 69 36 = some z31.toInt := (ehp41 _ _ (Or.inr (by omega))).trans rhp32
          refine Ev.step (j := 38) (s' := ([some (.ref 69), none, none], [.ref 69], (0, 0), hp41)) rfl rfl ?_
          exact by
           refine bs_lit (k := 0) rfl rfl fun z50 hz50 => ?_
           refine bs_putI (W := [(11, 38, 38)]) (g := 11) rfl rfl Hhp41 (bs_R.uq Hhp41 (g := 11) rfl) (by decide) rfl rfl rfl rfl (Or.inr ⟨rfl, by omega, by omega⟩) (by omega) (by omega) fun hp51 Hhp51 fhp51 rhp51 ehp51 qhp51 nhp51 => ?_
           have Fhp51 := sf_fr_tr Fhp41 (sf_fr_wider (W := [(11, 0, 0), (11, 2, 5), (11, 11, 18), (11, 34, 38), (132, 253, 433), (134, 0, 159), (143, 0, 44), (999, 0, 0)]) rfl fhp51)
           have h52 : sf_rd hp51 69 0 = some z1.toInt := (ehp51 _ _ (Or.inr (by omega))).trans h42
           have h53 : sf_rd hp51 69 2 = some y7 := (ehp51 _ _ (Or.inr (by omega))).trans h43
           have h54 : sf_rd hp51 69 4 = some y8 := (ehp51 _ _ (Or.inr (by omega))).trans h44
           have h55 : sf_rd hp51 69 5 = some y9 := (ehp51 _ _ (Or.inr (by omega))).trans h45
           have h56 : sf_rd hp51 69 15 = some z10.toInt := (ehp51 _ _ (Or.inr (by omega))).trans h46
           have h57 : sf_rd hp51 69 34 = some z16.toInt := (ehp51 _ _ (Or.inr (by omega))).trans h47
           have h58 : sf_rd hp51 69 35 = some z23.toInt := (ehp51 _ _ (Or.inr (by omega))).trans h48
           have h59 : sf_rd hp51 69 36 = some z31.toInt := (ehp51 _ _ (Or.inr (by omega))).trans h49
           have h60 : sf_rd hp51 69 37 = some z40.toInt := (ehp51 _ _ (Or.inr (by omega))).trans rhp41
           refine Ev.step (j := 43) (s' := ([some (.ref 69), none, none], [.ref 69], (0, 0), hp51)) rfl rfl ?_
           exact by
            refine bs_call (K := kq_X11_next_h) [.ref 69] [] rfl ct_X11_next_h Hhp51 rfl rfl rfl (bs_rcv (g := 11) Hhp51 (bs_R.uq Hhp51 (g := 11) rfl) (by decide) rfl) rfl ?_ (sf_S_nil) fun r61 hp62 thp62 Hhp62 fhp62 ahp62 php62 => ?_
            · intro q k h
              match q, h with
              | 0, h => cases h; exact bs_jR (bs_R.uq Hhp51 (g := 11) rfl)
              | q + 1, h => cases h
            obtain rfl := ahp62.1 rfl
            have Fhp62 := sf_fr_tr Fhp51 (sf_fr_wider (W := [(11, 0, 0), (11, 2, 5), (11, 11, 18), (11, 34, 38), (132, 253, 433), (134, 0, 159), (143, 0, 44), (999, 0, 0)]) rfl fhp62)
            have h63 : sf_rd hp62 69 0 = some z1.toInt := (fhp62.2.2.1 _ (bs_R.uq Hhp51 (g := 11) (p := 69) rfl).1 _ (by rw [(bs_R.uq Hhp51 (g := 11) (p := 69) rfl).2]; rfl)).trans h52
            have h64 : sf_rd hp62 69 2 = some y7 := (fhp62.2.2.1 _ (bs_R.uq Hhp51 (g := 11) (p := 69) rfl).1 _ (by rw [(bs_R.uq Hhp51 (g := 11) (p := 69) rfl).2]; rfl)).trans h53
            have h65 : sf_rd hp62 69 5 = some y9 := (fhp62.2.2.1 _ (bs_R.uq Hhp51 (g := 11) (p := 69) rfl).1 _ (by rw [(bs_R.uq Hhp51 (g := 11) (p := 69) rfl).2]; rfl)).trans h55
            have h66 : sf_rd hp62 69 15 = some z10.toInt := (fhp62.2.2.1 _ (bs_R.uq Hhp51 (g := 11) (p := 69) rfl).1 _ (by rw [(bs_R.uq Hhp51 (g := 11) (p := 69) rfl).2]; rfl)).trans h56
            have h67 : sf_rd hp62 69 34 = some z16.toInt := (fhp62.2.2.1 _ (bs_R.uq Hhp51 (g := 11) (p := 69) rfl).1 _ (by rw [(bs_R.uq Hhp51 (g := 11) (p := 69) rfl).2]; rfl)).trans h57
            have h68 : sf_rd hp62 69 35 = some z23.toInt := (fhp62.2.2.1 _ (bs_R.uq Hhp51 (g := 11) (p := 69) rfl).1 _ (by rw [(bs_R.uq Hhp51 (g := 11) (p := 69) rfl).2]; rfl)).trans h58
            have h69 : sf_rd hp62 69 36 = some z31.toInt := (fhp62.2.2.1 _ (bs_R.uq Hhp51 (g := 11) (p := 69) rfl).1 _ (by rw [(bs_R.uq Hhp51 (g := 11) (p := 69) rfl).2]; rfl)).trans h59
            have h70 : sf_rd hp62 69 37 = some z40.toInt := (fhp62.2.2.1 _ (bs_R.uq Hhp51 (g := 11) (p := 69) rfl).1 _ (by rw [(bs_R.uq Hhp51 (g := 11) (p := 69) rfl).2]; rfl)).trans h60
            have h71 : sf_rd hp62 69 38 = some z50.toInt := (fhp62.2.2.1 _ (bs_R.uq Hhp51 (g := 11) (p := 69) rfl).1 _ (by rw [(bs_R.uq Hhp51 (g := 11) (p := 69) rfl).2]; rfl)).trans rhp51
            refine (show Ev _ 46 ([some (.ref 69), none, none], [], (0, 0), hp62) _ from ?_)
            exact by
             refine bs_lit (k := 1) rfl rfl fun z72 hz72 => ?_
             refine Ev.step (j := 48) (s' := ([some (.ref 69), some (.int z72), none], [], (0, 0), hp62)) rfl rfl ?_
             have INV : ∃ c o p w : Int, se hp62 c o p w ∧ (z72.toInt = 0 → p = 0 ∧ w = 1) := ⟨z16.toInt, z23.toInt, z31.toInt, z50.toInt, ⟨h67, h68, h69, h71, by omega, by omega, by omega, by omega, by omega, by omega, by rw [show (z16.toInt).toNat = 0 by omega, show (z50.toInt).toNat = 0 by omega, show (z31.toInt).toNat = 0 by omega]; rfl⟩, fun h => by omega⟩
             refine bs_loop (ι := Int32 × ab_H × (Nat → Nat)) (fun ⟨k73, hp74, t75⟩ => ([some (.ref 69), some (.int k73), none], [], (0, 0), hp74)) (fun ⟨k73, hp74, t75⟩ => (sf_h t75 hp74) ∧ (sf_fr [(11, 0, 0), (11, 2, 5), (11, 11, 18), (11, 34, 38), (132, 253, 433), (134, 0, 159), (143, 0, 44), (999, 0, 0)] t hp t75 hp74) ∧ (sf_rd hp74 69 2 = some y7) ∧ (0 ≤ k73.toInt ∧ k73.toInt ≤ 1) ∧ (∃ c o p w : Int, se hp74 c o p w ∧ (k73.toInt = 0 → p = 0 ∧ w = 1))) (fun ⟨k73, hp74, t75⟩ => (2 * seM hp74 + k73.toInt).toNat) ?_ (z72, hp62, thp62) ⟨Hhp62, Fhp62, h64, (by first | omega | assumption), (by exact INV)⟩
             rintro ⟨k73, hp74, t75⟩ ⟨Hhp74, Fhp74, i77, i78, i79⟩ ih76
             refine (show Ev _ 48 ([some (.ref 69), some (.int k73), none], [], (0, 0), hp74) _ from ?_)
             obtain ⟨c0, o0, p0, w0, hs0, hz0⟩ := i79
             have hbhs0 := hs0.al
             refine Ev.step (j := 49) (s' := ([some (.ref 69), some (.int k73), none], [.int k73], (0, 0), hp74)) rfl rfl ?_
             exact by
              refine bs_ifeq rfl (fun c80 => ?_) (fun c80 => ?_)
              · skip
                have c81 : k73.toInt = 0 := by omega
                obtain ⟨n69, fl, e69, hfl⟩ := fl_get Hhp74
                have m69 := e69
                obtain ⟨n71, f71, e71, KA71⟩ := ar_get Hhp74 132 71 434 rfl (by decide) rfl rfl
                obtain ⟨n73, f73, e73, KA73⟩ := ar_get Hhp74 134 73 160 rfl (by decide) rfl rfl
                obtain ⟨hp00, hw00⟩ := hz0 (by omega)
                obtain ⟨vc34, hc34, ec34⟩ := fl_int e69 hs0.1
                have hrun := hs0.2.2.2.2.2.2.2.2.2.2
                refine Ev.step (j := 133) (s' := ([some (.ref 69), some (.int k73), none], [.ref 69], (0, 0), hp74)) rfl rfl ?_
                exact by
                 refine Ev.getf rfl n69 m69 (hfl 6 132 71 rfl rfl) ?_
                 refine (show Ev _ 136 ([some (.ref 69), some (.int k73), none], [.ref 71], (0, 0), hp74) _ from ?_)
                 refine bs_lit (k := 253) rfl rfl fun z82 hz82 => ?_
                 refine Ev.step (j := 140) (s' := ([some (.ref 69), some (.int k73), none], [.ref 69, .int z82, .ref 71], (0, 0), hp74)) rfl rfl ?_
                 refine Ev.getf rfl n69 m69 hc34 ?_
                 refine (show Ev _ 143 ([some (.ref 69), some (.int k73), none], [.int vc34, .int z82, .ref 71], (0, 0), hp74) _ from ?_)
                 refine Ev.ast rfl n71 e71 (n_in (by omega) (by omega)) ?_
                 refine Ev.hp (show ab_up hp74 71 (.inl (1, 434, .inl (upd f71 z82.toNatClampNeg (ab_nar 1 vc34)))) = (ab_up hp74 71 (.inl (1, 434, .inl (upd f71 253 vc34)))) by rw [n_at (z := z82) (n := 253) (by omega)]; rfl) ?_
                 exact by
                  refine bs_lit (k := 0) rfl rfl fun z83 hz83 => ?_
                  refine Ev.step (j := 146) (s' := ([some (.ref 69), some (.int k73), some (.int z83)], [], (0, 0), (ab_up hp74 71 (.inl (1, 434, .inl (upd f71 253 vc34)))))) rfl rfl ?_
                  refine Ev.hp (show (ab_up hp74 71 (.inl (1, 434, .inl (upd f71 253 vc34)))) = ab_up hp74 71 (.inl (1, 434, .inl (cpf (upd f71 253 vc34) f73 254 0))) by rw [cpf_0]) ?_
                  refine cp_loop (N := (3 * vc34.toInt.toNat)) (fun zz nn => ([some (.ref 69), some (.int k73), some (.int zz)], [], (0, 0), (ab_up hp74 71 (.inl (1, 434, .inl (cpf (upd f71 253 vc34) f73 254 nn)))))) ?_ ?_ z83 (by omega)
                  · intro nn zz hnn hzz ih
                    refine (show Ev _ 146 ([some (.ref 69), some (.int k73), some (.int zz)], [], (0, 0), (ab_up hp74 71 (.inl (1, 434, .inl (cpf (upd f71 253 vc34) f73 254 nn))))) _ from ?_)
                    have m69 : (ab_up hp74 71 (.inl (1, 434, .inl (cpf (upd f71 253 vc34) f73 254 nn)))).2 69 = .inr (11, fl) := (ab_up_ne (by decide)).trans e69
                    have m73 : (ab_up hp74 71 (.inl (1, 434, .inl (cpf (upd f71 253 vc34) f73 254 nn)))).2 73 = .inl (1, 160, .inl f73) := (ab_up_ne (by decide)).trans e73
                    refine Ev.step (j := 147) (s' := ([some (.ref 69), some (.int k73), some (.int zz)], [.int zz], (0, 0), (ab_up hp74 71 (.inl (1, 434, .inl (cpf (upd f71 253 vc34) f73 254 nn)))))) rfl rfl ?_
                    exact by
                     refine bs_lit (k := 3) rfl rfl fun z84 hz84 => ?_
                     refine Ev.step (j := 149) (s' := ([some (.ref 69), some (.int k73), some (.int zz)], [.ref 69, .int z84, .int zz], (0, 0), (ab_up hp74 71 (.inl (1, 434, .inl (cpf (upd f71 253 vc34) f73 254 nn)))))) rfl rfl ?_
                     refine Ev.getf rfl n69 m69 hc34 ?_
                     refine (show Ev _ 152 ([some (.ref 69), some (.int k73), some (.int zz)], [.int vc34, .int z84, .int zz], (0, 0), (ab_up hp74 71 (.inl (1, 434, .inl (cpf (upd f71 253 vc34) f73 254 nn))))) _ from ?_)
                     refine bs_mul (3) rfl (Or.inl hz84) (by rw [hz84]; omega) (by rw [hz84]; omega) fun z85 hz85 => ?_
                     rw [hz84] at hz85
                     refine bs_ge rfl (fun c86 => ?_) (fun c86 => ?_)
                     · exfalso; omega
                     · skip
                       refine Ev.step (j := 157) (s' := ([some (.ref 69), some (.int k73), some (.int zz)], [.ref 69], (0, 0), (ab_up hp74 71 (.inl (1, 434, .inl (cpf (upd f71 253 vc34) f73 254 nn)))))) rfl rfl ?_
                       refine Ev.getf rfl n69 m69 (hfl 6 132 71 rfl rfl) ?_
                       exact by
                        refine (show Ev _ 160 ([some (.ref 69), some (.int k73), some (.int zz)], [.ref 71], (0, 0), (ab_up hp74 71 (.inl (1, 434, .inl (cpf (upd f71 253 vc34) f73 254 nn))))) _ from ?_)
                        refine bs_lit (k := 254) rfl rfl fun z87 hz87 => ?_
                        refine Ev.step (j := 164) (s' := ([some (.ref 69), some (.int k73), some (.int zz)], [.int zz, .int z87, .ref 71], (0, 0), (ab_up hp74 71 (.inl (1, 434, .inl (cpf (upd f71 253 vc34) f73 254 nn)))))) rfl rfl ?_
                        first | (refine bs_add rfl (by omega) (by omega) fun z88 hz88 => ?_) | (refine bs_any rfl fun z88 => ?_)
                        have rz88 := n_range z88
                        refine Ev.step (j := 166) (s' := ([some (.ref 69), some (.int k73), some (.int zz)], [.ref 69, .int z88, .ref 71], (0, 0), (ab_up hp74 71 (.inl (1, 434, .inl (cpf (upd f71 253 vc34) f73 254 nn)))))) rfl rfl ?_
                        refine Ev.getf rfl n69 m69 (hfl 8 134 73 rfl rfl) ?_
                        refine (show Ev _ 169 ([some (.ref 69), some (.int k73), some (.int zz)], [.ref 73, .int z88, .ref 71], (0, 0), (ab_up hp74 71 (.inl (1, 434, .inl (cpf (upd f71 253 vc34) f73 254 nn))))) _ from ?_)
                        exact by
                         refine Ev.step (j := 170) (s' := ([some (.ref 69), some (.int k73), some (.int zz)], [.int zz, .ref 73, .int z88, .ref 71], (0, 0), (ab_up hp74 71 (.inl (1, 434, .inl (cpf (upd f71 253 vc34) f73 254 nn)))))) rfl rfl ?_
                         refine Ev.ald rfl n73 m73 (n_in (by omega) (by omega)) ?_
                         refine (show Ev _ 171 ([some (.ref 69), some (.int k73), some (.int zz)], [.int (f73 zz.toNatClampNeg), .int z88, .ref 71], (0, 0), (ab_up hp74 71 (.inl (1, 434, .inl (cpf (upd f71 253 vc34) f73 254 nn))))) _ from ?_)
                         refine Ev.ast rfl n71 (ab_up_eq _ _ _) (n_in (by omega) (by omega)) ?_
                         refine Ev.hp (cpf_up (n_at (by omega)) (congrArg f73 (n_at (by omega)))) ?_
                         refine bs_iinc (1) rfl rfl rfl rfl (by omega) (by omega) fun z89 hz89 => ?_
                         refine (show Ev _ 175 ([some (.ref 69), some (.int k73), some (.int z89)], [], (0, 0), (ab_up hp74 71 (.inl (1, 434, .inl (cpf (upd f71 253 vc34) f73 254 (nn + 1)))))) _ from ?_)
                         refine Ev.step (j := 146) (s' := ([some (.ref 69), some (.int k73), some (.int z89)], [], (0, 0), (ab_up hp74 71 (.inl (1, 434, .inl (cpf (upd f71 253 vc34) f73 254 (nn + 1))))))) rfl rfl ?_
                         exact ih z89 (by omega)
                  · intro zz hzz
                    refine (show Ev _ 146 ([some (.ref 69), some (.int k73), some (.int zz)], [], (0, 0), (ab_up hp74 71 (.inl (1, 434, .inl (cpf (upd f71 253 vc34) f73 254 (3 * vc34.toInt.toNat)))))) _ from ?_)
                    have m69 : (ab_up hp74 71 (.inl (1, 434, .inl (cpf (upd f71 253 vc34) f73 254 (3 * vc34.toInt.toNat))))).2 69 = .inr (11, fl) := (ab_up_ne (by decide)).trans e69
                    refine Ev.step (j := 147) (s' := ([some (.ref 69), some (.int k73), some (.int zz)], [.int zz], (0, 0), (ab_up hp74 71 (.inl (1, 434, .inl (cpf (upd f71 253 vc34) f73 254 (3 * vc34.toInt.toNat))))))) rfl rfl ?_
                    exact by
                     refine bs_lit (k := 3) rfl rfl fun z90 hz90 => ?_
                     refine Ev.step (j := 149) (s' := ([some (.ref 69), some (.int k73), some (.int zz)], [.ref 69, .int z90, .int zz], (0, 0), (ab_up hp74 71 (.inl (1, 434, .inl (cpf (upd f71 253 vc34) f73 254 (3 * vc34.toInt.toNat))))))) rfl rfl ?_
                     refine Ev.getf rfl n69 m69 hc34 ?_
                     refine (show Ev _ 152 ([some (.ref 69), some (.int k73), some (.int zz)], [.int vc34, .int z90, .int zz], (0, 0), (ab_up hp74 71 (.inl (1, 434, .inl (cpf (upd f71 253 vc34) f73 254 (3 * vc34.toInt.toNat)))))) _ from ?_)
                     refine bs_mul (3) rfl (Or.inl hz90) (by rw [hz90]; omega) (by rw [hz90]; omega) fun z91 hz91 => ?_
                     rw [hz90] at hz91
                     refine bs_ge rfl (fun c92 => ?_) (fun c92 => ?_)
                     · skip
                       have EK : ∀ q, q < 434 → sf_v t75 hp74.1 (sf_e (sf_A 132).2.2 q) (.int ((cpf (upd f71 253 vc34) f73 254 (3 * vc34.toInt.toNat)) q)) := by
                         intro q hq
                         by_cases c : 254 ≤ q ∧ q < 254 + (3 * vc34.toInt.toNat)
                         · rw [cpf_in c.1 c.2]
                           rw [sg_t q hq c.1]
                           exact ⟨rfl, (n_range _).1, (n_range _).2⟩
                         · rw [cpf_out (by omega)]
                           show sf_v _ _ _ (.int (if q = 253 then vc34 else f71 q))
                           by_cases e : q = 253
                           · rw [if_pos e, e]
                             exact ⟨rfl, by show (0 : Int) ≤ _; omega, by show _ ≤ (45 : Int); omega⟩
                           · rw [if_neg e]
                             exact KA71 q hq
                       have I3 := Hhp74.2.2.2.2.2
                       have E3 : sf_I3 (ab_up hp74 71 (.inl (1, 434, .inl (cpf (upd f71 253 vc34) f73 254 (3 * vc34.toInt.toNat))))) := by
                         refine ⟨?_, by rw [cd_ne (by decide)]; exact I3.2.1, by rw [cd_ne (by decide)]; exact I3.2.2⟩
                         have E0 : ∀ f : Nat → Int32, f 253 = vc34 → sf_cd (ab_up hp74 71 (.inl (1, 434, .inl f))) 71 253 0 = vc34.toInt := fun f hf => by rw [cd_up (by decide)]; exact congrArg Int32.toInt hf
                         have E1 := E0 _ ((cpf_out (f := upd f71 253 vc34) (g := f73) (o := 254) (n := 3 * vc34.toInt.toNat) (q := 253) (by omega)).trans (if_pos rfl))
                         unfold cd_ok
                         rw [E1]
                         refine ⟨by omega, by omega, ?_⟩
                         rw [cd_run_same (c' := rc hp74) vc34.toInt.toNat fun j j1 j2 => by rw [cd_up (by omega), cpf_in (by omega) (by omega)]; unfold rc; rw [sf_rd_arr e73 (by omega)]; show (f73 (253 + j - 254)).toInt = (f73 (j - 1)).toInt; rw [show 253 + j - 254 = j - 1 by omega]]
                         rw [show vc34.toInt.toNat = c0.toNat by omega, hrun]
                         exact fun h => by cases h
                       obtain ⟨Hhp93, fhp93⟩ := cp_end (a := 71) (len := 434) (f' := (cpf (upd f71 253 vc34) f73 254 (3 * vc34.toInt.toNat))) (i0 := 253) (i1 := 433) Hhp74 (bs_R.uq Hhp74 (g := 132) rfl) (by decide) rfl rfl e71 EK (by decide) (fun q hq => (cpf_out (by omega)).trans (if_neg (by omega))) E3
                       clear EK E3 I3
                       obtain ⟨hp93, qhp93⟩ : ∃ x, x = (ab_up hp74 71 (.inl (1, 434, .inl (cpf (upd f71 253 vc34) f73 254 (3 * vc34.toInt.toNat))))) := ⟨_, rfl⟩
                       rw [← qhp93] at Hhp93 fhp93
                       rw [← qhp93]
                       have Fhp93 := sf_fr_tr Fhp74 (sf_fr_wider (W := [(11, 0, 0), (11, 2, 5), (11, 11, 18), (11, 34, 38), (132, 253, 433), (134, 0, 159), (143, 0, 44), (999, 0, 0)]) rfl fhp93)
                       have h94 : sf_rd hp93 69 2 = some y7 := (fhp93.2.2.1 _ (bs_R.uq Hhp74 (g := 11) (p := 69) rfl).1 _ (by rw [(bs_R.uq Hhp74 (g := 11) (p := 69) rfl).2]; rfl)).trans i77
                       have h95 : sf_rd hp93 69 34 = some c0 := (fhp93.2.2.1 _ (bs_R.uq Hhp74 (g := 11) (p := 69) rfl).1 _ (by rw [(bs_R.uq Hhp74 (g := 11) (p := 69) rfl).2]; rfl)).trans hs0.1
                       have h96 : sf_rd hp93 69 35 = some o0 := (fhp93.2.2.1 _ (bs_R.uq Hhp74 (g := 11) (p := 69) rfl).1 _ (by rw [(bs_R.uq Hhp74 (g := 11) (p := 69) rfl).2]; rfl)).trans hs0.2.1
                       have h97 : sf_rd hp93 69 36 = some p0 := (fhp93.2.2.1 _ (bs_R.uq Hhp74 (g := 11) (p := 69) rfl).1 _ (by rw [(bs_R.uq Hhp74 (g := 11) (p := 69) rfl).2]; rfl)).trans hs0.2.2.1
                       have h98 : sf_rd hp93 69 38 = some w0 := (fhp93.2.2.1 _ (bs_R.uq Hhp74 (g := 11) (p := 69) rfl).1 _ (by rw [(bs_R.uq Hhp74 (g := 11) (p := 69) rfl).2]; rfl)).trans hs0.2.2.2.1
                       refine Ev.step (j := 179) (s' := ([some (.ref 69), some (.int k73), some (.int zz)], [.ref 69], (0, 0), hp93)) rfl rfl ?_
                       exact by
                        refine bs_getI 11 rfl rfl rfl Hhp93 (bs_R.uq Hhp93 (g := 11) rfl) (by decide) rfl fun z99 hz99 lz99 gz99 => ?_
                        have e100 : z99.toInt = o0 := Option.some.inj (hz99.symm.trans h96)
                        exact Ev.ret rfl rfl (by rw [hQ]; exact ⟨t75, Hhp93, Fhp93, bs_an0, sf_S_cons (sf_s1 (x := y7) (show sf_v1 _ _ _ 36008 = _ from h94) (by omega) (by omega)) (sf_S_nil)⟩)
                     · exfalso; omega
              · skip
                refine Ev.step (j := 53) (s' := ([some (.ref 69), some (.int k73), none], [.ref 69], (0, 0), hp74)) rfl rfl ?_
                exact by
                 refine bs_getI 11 rfl rfl rfl Hhp74 (bs_R.uq Hhp74 (g := 11) rfl) (by decide) rfl fun z101 hz101 lz101 gz101 => ?_
                 have e102 : z101.toInt = w0 := Option.some.inj (hz101.symm.trans hs0.2.2.2.1)
                 refine bs_ifeq rfl (fun c103 => ?_) (fun c103 => ?_)
                 · skip
                   have c104 : z101.toInt = 0 := by omega
                   refine Ev.step (j := 102) (s' := ([some (.ref 69), some (.int k73), none], [.ref 69], (0, 0), hp74)) rfl rfl ?_
                   refine bs_getI 11 rfl rfl rfl Hhp74 (bs_R.uq Hhp74 (g := 11) rfl) (by decide) rfl fun z105 hz105 lz105 gz105 => ?_
                   have e106 : z105.toInt = w0 := Option.some.inj (hz105.symm.trans hs0.2.2.2.1)
                   refine bs_ifeq rfl (fun c107 => ?_) (fun c107 => ?_)
                   · skip
                     have c108 : z105.toInt = 0 := by omega
                     refine Ev.step (j := 119) (s' := ([some (.ref 69), some (.int k73), none], [.ref 69], (0, 0), hp74)) rfl rfl ?_
                     have hsw : se hp74 c0 o0 p0 0 := (show w0 = 0 by omega) ▸ hs0
                     refine bs_callp (K := kq_X11_operand_h) [.ref 69] [] rfl cp_X11_operand_h (⟨_, _, _, hsw⟩) Hhp74 rfl rfl rfl (bs_rcv (g := 11) Hhp74 (bs_R.uq Hhp74 (g := 11) rfl) (by decide) rfl) rfl ?_ (sf_S_nil) fun r109 hp110 thp110 Hhp110 fhp110 ahp110 php110 xhp110 => ?_
                     · intro q k h
                       match q, h with
                       | 0, h => cases h; exact bs_jR (bs_R.uq Hhp74 (g := 11) rfl)
                       | q + 1, h => cases h
                     obtain ⟨z111, rfl⟩ := bs_anI ahp110
                     have rgz111 := n_range z111
                     have Fhp110 := sf_fr_tr Fhp74 (sf_fr_wider (W := [(11, 0, 0), (11, 2, 5), (11, 11, 18), (11, 34, 38), (132, 253, 433), (134, 0, 159), (143, 0, 44), (999, 0, 0)]) rfl fhp110)
                     have h112 : sf_rd hp110 69 2 = some y7 := (fhp110.2.2.1 _ (bs_R.uq Hhp74 (g := 11) (p := 69) rfl).1 _ (by rw [(bs_R.uq Hhp74 (g := 11) (p := 69) rfl).2]; rfl)).trans i77
                     obtain ⟨uz111, vz111⟩ := bs_s1 (x := z111.toInt) rfl (php110 _ (List.mem_of_getElem? (i := 0) rfl))
                     refine (show Ev _ 122 ([some (.ref 69), some (.int k73), none], [.int z111], (0, 0), hp110) _ from ?_)
                     exact by
                      refine bs_ifne rfl (fun c113 => ?_) (fun c113 => ?_)
                      · skip
                        have Z1 : z111 = 1 := Int32.toInt_inj.mp (show z111.toInt = 1 by omega)
                        obtain ⟨c3, p3, w3, hs3, hd3⟩ := xhp110 _ _ _ hsw (by rw [Z1])
                        have hb3 := hs3.al
                        have INV : ∃ c o p w : Int, se hp110 c o p w ∧ (k73.toInt = 0 → p = 0 ∧ w = 1) := ⟨_, _, _, _, hs3, fun h => absurd h (by omega)⟩
                        have MS : (2 * seM hp110 + k73.toInt).toNat < (2 * seM hp74 + k73.toInt).toNat := by
                          rw [hs3.M, hs0.M]
                          omega
                        refine ih76 (k73, hp110, thp110) ⟨Hhp110, Fhp110, h112, (by first | omega | assumption), (by exact INV)⟩ ?_
                        show (2 * seM hp110 + k73.toInt).toNat < (2 * seM hp74 + k73.toInt).toNat
                        exact MS
                      · skip
                        have c114 : z111.toInt = 0 := by omega
                        refine bs_lit (k := -1) rfl rfl fun z115 hz115 => ?_
                        exact by
                         refine Ev.step (j := 127) (s' := ([some (.ref 69), some (.int k73), none], [.ref 69, .int z115], (0, 0), hp110)) rfl rfl ?_
                         refine bs_getI 11 rfl rfl rfl Hhp110 (bs_R.uq Hhp110 (g := 11) rfl) (by decide) rfl fun z116 hz116 lz116 gz116 => ?_
                         first | (refine bs_sub rfl (by omega) (by omega) fun z117 hz117 => ?_) | (refine bs_any rfl fun z117 => ?_)
                         have rz117 := n_range z117
                         exact Ev.ret rfl rfl (by rw [hQ]; exact ⟨thp110, Hhp110, Fhp110, bs_an0, sf_S_cons (sf_s1 (x := y7) (show sf_v1 _ _ _ 36008 = _ from h112) (by omega) (by omega)) (sf_S_nil)⟩)
                   · skip
                     refine Ev.step (j := 109) (s' := ([some (.ref 69), some (.int k73), none], [.ref 69], (0, 0), hp74)) rfl rfl ?_
                     have hsw : se hp74 c0 o0 p0 1 := (show w0 = 1 by omega) ▸ hs0
                     refine bs_callp (K := kq_X11_behind_h) [.ref 69] [] rfl cp_X11_behind_h (⟨_, _, _, hsw⟩) Hhp74 rfl rfl rfl (bs_rcv (g := 11) Hhp74 (bs_R.uq Hhp74 (g := 11) rfl) (by decide) rfl) rfl ?_ (sf_S_nil) fun r118 hp119 thp119 Hhp119 fhp119 ahp119 php119 xhp119 => ?_
                     · intro q k h
                       match q, h with
                       | 0, h => cases h; exact bs_jR (bs_R.uq Hhp74 (g := 11) rfl)
                       | q + 1, h => cases h
                     obtain ⟨z120, rfl⟩ := bs_anI ahp119
                     have rgz120 := n_range z120
                     have Fhp119 := sf_fr_tr Fhp74 (sf_fr_wider (W := [(11, 0, 0), (11, 2, 5), (11, 11, 18), (11, 34, 38), (132, 253, 433), (134, 0, 159), (143, 0, 44), (999, 0, 0)]) rfl fhp119)
                     have h121 : sf_rd hp119 69 2 = some y7 := (fhp119.2.2.1 _ (bs_R.uq Hhp74 (g := 11) (p := 69) rfl).1 _ (by rw [(bs_R.uq Hhp74 (g := 11) (p := 69) rfl).2]; rfl)).trans i77
                     have h122 : sf_rd hp119 69 35 = some o0 := (fhp119.2.2.1 _ (bs_R.uq Hhp74 (g := 11) (p := 69) rfl).1 _ (by rw [(bs_R.uq Hhp74 (g := 11) (p := 69) rfl).2]; rfl)).trans hs0.2.1
                     obtain ⟨uz120, vz120⟩ := bs_s1 (x := z120.toInt) rfl (php119 _ (List.mem_of_getElem? (i := 0) rfl))
                     refine (show Ev _ 112 ([some (.ref 69), some (.int k73), none], [.int z120], (0, 0), hp119) _ from ?_)
                     exact by
                      refine bs_ifne rfl (fun c123 => ?_) (fun c123 => ?_)
                      · skip
                        have Z1 : z120 = 1 := Int32.toInt_inj.mp (show z120.toInt = 1 by omega)
                        obtain ⟨c3, p3, w3, hs3, hd3⟩ := xhp119 _ _ _ hsw (by rw [Z1])
                        have hb3 := hs3.al
                        have INV : ∃ c o p w : Int, se hp119 c o p w ∧ (k73.toInt = 0 → p = 0 ∧ w = 1) := ⟨_, _, _, _, hs3, fun h => absurd h (by omega)⟩
                        have MS : (2 * seM hp119 + k73.toInt).toNat < (2 * seM hp74 + k73.toInt).toNat := by
                          rw [hs3.M, hs0.M]
                          omega
                        refine ih76 (k73, hp119, thp119) ⟨Hhp119, Fhp119, h121, (by first | omega | assumption), (by exact INV)⟩ ?_
                        show (2 * seM hp119 + k73.toInt).toNat < (2 * seM hp74 + k73.toInt).toNat
                        exact MS
                      · skip
                        have c124 : z120.toInt = 0 := by omega
                        refine Ev.step (j := 125) (s' := ([some (.ref 69), some (.int k73), none], [], (0, 0), hp119)) rfl rfl ?_
                        exact by
                         refine bs_lit (k := -1) rfl rfl fun z125 hz125 => ?_
                         refine Ev.step (j := 127) (s' := ([some (.ref 69), some (.int k73), none], [.ref 69, .int z125], (0, 0), hp119)) rfl rfl ?_
                         refine bs_getI 11 rfl rfl rfl Hhp119 (bs_R.uq Hhp119 (g := 11) rfl) (by decide) rfl fun z126 hz126 lz126 gz126 => ?_
                         first | (refine bs_sub rfl (by omega) (by omega) fun z127 hz127 => ?_) | (refine bs_any rfl fun z127 => ?_)
                         have rz127 := n_range z127
                         exact Ev.ret rfl rfl (by rw [hQ]; exact ⟨thp119, Hhp119, Fhp119, bs_an0, sf_S_cons (sf_s1 (x := y7) (show sf_v1 _ _ _ 36008 = _ from h121) (by omega) (by omega)) (sf_S_nil)⟩)
                 · skip
                   refine Ev.step (j := 60) (s' := ([some (.ref 69), some (.int k73), none], [.ref 69], (0, 0), hp74)) rfl rfl ?_
                   exact by
                    refine bs_getI 11 rfl rfl rfl Hhp74 (bs_R.uq Hhp74 (g := 11) rfl) (by decide) rfl fun z128 hz128 lz128 gz128 => ?_
                    refine bs_ifne rfl (fun c129 => ?_) (fun c129 => ?_)
                    · skip
                      refine Ev.step (j := 102) (s' := ([some (.ref 69), some (.int k73), none], [.ref 69], (0, 0), hp74)) rfl rfl ?_
                      refine bs_getI 11 rfl rfl rfl Hhp74 (bs_R.uq Hhp74 (g := 11) rfl) (by decide) rfl fun z130 hz130 lz130 gz130 => ?_
                      have e131 : z130.toInt = w0 := Option.some.inj (hz130.symm.trans hs0.2.2.2.1)
                      refine bs_ifeq rfl (fun c132 => ?_) (fun c132 => ?_)
                      · skip
                        have c133 : z130.toInt = 0 := by omega
                        refine Ev.step (j := 119) (s' := ([some (.ref 69), some (.int k73), none], [.ref 69], (0, 0), hp74)) rfl rfl ?_
                        have hsw : se hp74 c0 o0 p0 0 := (show w0 = 0 by omega) ▸ hs0
                        refine bs_callp (K := kq_X11_operand_h) [.ref 69] [] rfl cp_X11_operand_h (⟨_, _, _, hsw⟩) Hhp74 rfl rfl rfl (bs_rcv (g := 11) Hhp74 (bs_R.uq Hhp74 (g := 11) rfl) (by decide) rfl) rfl ?_ (sf_S_nil) fun r134 hp135 thp135 Hhp135 fhp135 ahp135 php135 xhp135 => ?_
                        · intro q k h
                          match q, h with
                          | 0, h => cases h; exact bs_jR (bs_R.uq Hhp74 (g := 11) rfl)
                          | q + 1, h => cases h
                        obtain ⟨z136, rfl⟩ := bs_anI ahp135
                        have rgz136 := n_range z136
                        have Fhp135 := sf_fr_tr Fhp74 (sf_fr_wider (W := [(11, 0, 0), (11, 2, 5), (11, 11, 18), (11, 34, 38), (132, 253, 433), (134, 0, 159), (143, 0, 44), (999, 0, 0)]) rfl fhp135)
                        have h137 : sf_rd hp135 69 2 = some y7 := (fhp135.2.2.1 _ (bs_R.uq Hhp74 (g := 11) (p := 69) rfl).1 _ (by rw [(bs_R.uq Hhp74 (g := 11) (p := 69) rfl).2]; rfl)).trans i77
                        obtain ⟨uz136, vz136⟩ := bs_s1 (x := z136.toInt) rfl (php135 _ (List.mem_of_getElem? (i := 0) rfl))
                        refine (show Ev _ 122 ([some (.ref 69), some (.int k73), none], [.int z136], (0, 0), hp135) _ from ?_)
                        exact by
                         refine bs_ifne rfl (fun c138 => ?_) (fun c138 => ?_)
                         · skip
                           have Z1 : z136 = 1 := Int32.toInt_inj.mp (show z136.toInt = 1 by omega)
                           obtain ⟨c3, p3, w3, hs3, hd3⟩ := xhp135 _ _ _ hsw (by rw [Z1])
                           have hb3 := hs3.al
                           have INV : ∃ c o p w : Int, se hp135 c o p w ∧ (k73.toInt = 0 → p = 0 ∧ w = 1) := ⟨_, _, _, _, hs3, fun h => absurd h (by omega)⟩
                           have MS : (2 * seM hp135 + k73.toInt).toNat < (2 * seM hp74 + k73.toInt).toNat := by
                             rw [hs3.M, hs0.M]
                             omega
                           refine ih76 (k73, hp135, thp135) ⟨Hhp135, Fhp135, h137, (by first | omega | assumption), (by exact INV)⟩ ?_
                           show (2 * seM hp135 + k73.toInt).toNat < (2 * seM hp74 + k73.toInt).toNat
                           exact MS
                         · skip
                           have c139 : z136.toInt = 0 := by omega
                           refine bs_lit (k := -1) rfl rfl fun z140 hz140 => ?_
                           exact by
                            refine Ev.step (j := 127) (s' := ([some (.ref 69), some (.int k73), none], [.ref 69, .int z140], (0, 0), hp135)) rfl rfl ?_
                            refine bs_getI 11 rfl rfl rfl Hhp135 (bs_R.uq Hhp135 (g := 11) rfl) (by decide) rfl fun z141 hz141 lz141 gz141 => ?_
                            first | (refine bs_sub rfl (by omega) (by omega) fun z142 hz142 => ?_) | (refine bs_any rfl fun z142 => ?_)
                            have rz142 := n_range z142
                            exact Ev.ret rfl rfl (by rw [hQ]; exact ⟨thp135, Hhp135, Fhp135, bs_an0, sf_S_cons (sf_s1 (x := y7) (show sf_v1 _ _ _ 36008 = _ from h137) (by omega) (by omega)) (sf_S_nil)⟩)
                      · skip
                        refine Ev.step (j := 109) (s' := ([some (.ref 69), some (.int k73), none], [.ref 69], (0, 0), hp74)) rfl rfl ?_
                        have hsw : se hp74 c0 o0 p0 1 := (show w0 = 1 by omega) ▸ hs0
                        refine bs_callp (K := kq_X11_behind_h) [.ref 69] [] rfl cp_X11_behind_h (⟨_, _, _, hsw⟩) Hhp74 rfl rfl rfl (bs_rcv (g := 11) Hhp74 (bs_R.uq Hhp74 (g := 11) rfl) (by decide) rfl) rfl ?_ (sf_S_nil) fun r143 hp144 thp144 Hhp144 fhp144 ahp144 php144 xhp144 => ?_
                        · intro q k h
                          match q, h with
                          | 0, h => cases h; exact bs_jR (bs_R.uq Hhp74 (g := 11) rfl)
                          | q + 1, h => cases h
                        obtain ⟨z145, rfl⟩ := bs_anI ahp144
                        have rgz145 := n_range z145
                        have Fhp144 := sf_fr_tr Fhp74 (sf_fr_wider (W := [(11, 0, 0), (11, 2, 5), (11, 11, 18), (11, 34, 38), (132, 253, 433), (134, 0, 159), (143, 0, 44), (999, 0, 0)]) rfl fhp144)
                        have h146 : sf_rd hp144 69 2 = some y7 := (fhp144.2.2.1 _ (bs_R.uq Hhp74 (g := 11) (p := 69) rfl).1 _ (by rw [(bs_R.uq Hhp74 (g := 11) (p := 69) rfl).2]; rfl)).trans i77
                        have h147 : sf_rd hp144 69 35 = some o0 := (fhp144.2.2.1 _ (bs_R.uq Hhp74 (g := 11) (p := 69) rfl).1 _ (by rw [(bs_R.uq Hhp74 (g := 11) (p := 69) rfl).2]; rfl)).trans hs0.2.1
                        obtain ⟨uz145, vz145⟩ := bs_s1 (x := z145.toInt) rfl (php144 _ (List.mem_of_getElem? (i := 0) rfl))
                        refine (show Ev _ 112 ([some (.ref 69), some (.int k73), none], [.int z145], (0, 0), hp144) _ from ?_)
                        exact by
                         refine bs_ifne rfl (fun c148 => ?_) (fun c148 => ?_)
                         · skip
                           have Z1 : z145 = 1 := Int32.toInt_inj.mp (show z145.toInt = 1 by omega)
                           obtain ⟨c3, p3, w3, hs3, hd3⟩ := xhp144 _ _ _ hsw (by rw [Z1])
                           have hb3 := hs3.al
                           have INV : ∃ c o p w : Int, se hp144 c o p w ∧ (k73.toInt = 0 → p = 0 ∧ w = 1) := ⟨_, _, _, _, hs3, fun h => absurd h (by omega)⟩
                           have MS : (2 * seM hp144 + k73.toInt).toNat < (2 * seM hp74 + k73.toInt).toNat := by
                             rw [hs3.M, hs0.M]
                             omega
                           refine ih76 (k73, hp144, thp144) ⟨Hhp144, Fhp144, h146, (by first | omega | assumption), (by exact INV)⟩ ?_
                           show (2 * seM hp144 + k73.toInt).toNat < (2 * seM hp74 + k73.toInt).toNat
                           exact MS
                         · skip
                           have c149 : z145.toInt = 0 := by omega
                           refine Ev.step (j := 125) (s' := ([some (.ref 69), some (.int k73), none], [], (0, 0), hp144)) rfl rfl ?_
                           exact by
                            refine bs_lit (k := -1) rfl rfl fun z150 hz150 => ?_
                            refine Ev.step (j := 127) (s' := ([some (.ref 69), some (.int k73), none], [.ref 69, .int z150], (0, 0), hp144)) rfl rfl ?_
                            refine bs_getI 11 rfl rfl rfl Hhp144 (bs_R.uq Hhp144 (g := 11) rfl) (by decide) rfl fun z151 hz151 lz151 gz151 => ?_
                            first | (refine bs_sub rfl (by omega) (by omega) fun z152 hz152 => ?_) | (refine bs_any rfl fun z152 => ?_)
                            have rz152 := n_range z152
                            exact Ev.ret rfl rfl (by rw [hQ]; exact ⟨thp144, Hhp144, Fhp144, bs_an0, sf_S_cons (sf_s1 (x := y7) (show sf_v1 _ _ _ 36008 = _ from h146) (by omega) (by omega)) (sf_S_nil)⟩)
                    · skip
                      have c153 : z128.toInt = 0 := by omega
                      refine Ev.step (j := 67) (s' := ([some (.ref 69), some (.int k73), none], [.ref 69], (0, 0), hp74)) rfl rfl ?_
                      have hsw : se hp74 c0 o0 p0 1 := (show w0 = 1 by omega) ▸ hs0
                      refine bs_callp (K := kq_X11_nots_h) [.ref 69] [] rfl cp_X11_nots_h (⟨_, _, _, hsw⟩) Hhp74 rfl rfl rfl (bs_rcv (g := 11) Hhp74 (bs_R.uq Hhp74 (g := 11) rfl) (by decide) rfl) rfl ?_ (sf_S_nil) fun r154 hp155 thp155 Hhp155 fhp155 ahp155 php155 xhp155 => ?_
                      · intro q k h
                        match q, h with
                        | 0, h => cases h; exact bs_jR (bs_R.uq Hhp74 (g := 11) rfl)
                        | q + 1, h => cases h
                      obtain rfl := ahp155.1 rfl
                      have Fhp155 := sf_fr_tr Fhp74 (sf_fr_wider (W := [(11, 0, 0), (11, 2, 5), (11, 11, 18), (11, 34, 38), (132, 253, 433), (134, 0, 159), (143, 0, 44), (999, 0, 0)]) rfl fhp155)
                      have h156 : sf_rd hp155 69 2 = some y7 := (fhp155.2.2.1 _ (bs_R.uq Hhp74 (g := 11) (p := 69) rfl).1 _ (by rw [(bs_R.uq Hhp74 (g := 11) (p := 69) rfl).2]; rfl)).trans i77
                      have h157 : sf_rd hp155 69 35 = some o0 := (fhp155.2.2.1 _ (bs_R.uq Hhp74 (g := 11) (p := 69) rfl).1 _ (by rw [(bs_R.uq Hhp74 (g := 11) (p := 69) rfl).2]; rfl)).trans hs0.2.1
                      have h158 : sf_rd hp155 69 38 = some w0 := (fhp155.2.2.1 _ (bs_R.uq Hhp74 (g := 11) (p := 69) rfl).1 _ (by rw [(bs_R.uq Hhp74 (g := 11) (p := 69) rfl).2]; rfl)).trans hs0.2.2.2.1
                      have h159 : sf_rd hp155 69 11 = some z128.toInt := (fhp155.2.2.1 _ (bs_R.uq Hhp74 (g := 11) (p := 69) rfl).1 _ (by rw [(bs_R.uq Hhp74 (g := 11) (p := 69) rfl).2]; rfl)).trans hz128
                      refine (show Ev _ 70 ([some (.ref 69), some (.int k73), none], [], (0, 0), hp155) _ from ?_)
                      obtain ⟨C1, P1, hs1, hl1⟩ := xhp155 _ _ _ hsw
                      refine Ev.step (j := 71) (s' := ([some (.ref 69), some (.int k73), none], [.ref 69], (0, 0), hp155)) rfl rfl ?_
                      exact by
                       refine bs_lit (k := 22) rfl rfl fun z160 hz160 => ?_
                       refine bs_callp (K := kq_X11_joins_h) [.ref 69, .int z160] [] rfl cp_X11_joins_h (⟨_, _, _, hs1⟩) Hhp155 rfl rfl rfl (bs_rcv (g := 11) Hhp155 (bs_R.uq Hhp155 (g := 11) rfl) (by decide) rfl) rfl ?_ (sf_S_nil) fun r161 hp162 thp162 Hhp162 fhp162 ahp162 php162 xhp162 => ?_
                       · intro q k h
                         match q, h with
                         | 0, h => cases h; exact bs_jR (bs_R.uq Hhp155 (g := 11) rfl)
                         | 1, h => cases h; exact sf_j0
                         | q + 2, h => cases h
                       obtain rfl := ahp162.1 rfl
                       have Fhp162 := sf_fr_tr Fhp155 (sf_fr_wider (W := [(11, 0, 0), (11, 2, 5), (11, 11, 18), (11, 34, 38), (132, 253, 433), (134, 0, 159), (143, 0, 44), (999, 0, 0)]) rfl fhp162)
                       have h163 : sf_rd hp162 69 2 = some y7 := (fhp162.2.2.1 _ (bs_R.uq Hhp155 (g := 11) (p := 69) rfl).1 _ (by rw [(bs_R.uq Hhp155 (g := 11) (p := 69) rfl).2]; rfl)).trans h156
                       have h164 : sf_rd hp162 69 35 = some o0 := (fhp162.2.2.1 _ (bs_R.uq Hhp155 (g := 11) (p := 69) rfl).1 _ (by rw [(bs_R.uq Hhp155 (g := 11) (p := 69) rfl).2]; rfl)).trans h157
                       have h165 : sf_rd hp162 69 38 = some w0 := (fhp162.2.2.1 _ (bs_R.uq Hhp155 (g := 11) (p := 69) rfl).1 _ (by rw [(bs_R.uq Hhp155 (g := 11) (p := 69) rfl).2]; rfl)).trans h158
                       have h166 : sf_rd hp162 69 11 = some z128.toInt := (fhp162.2.2.1 _ (bs_R.uq Hhp155 (g := 11) (p := 69) rfl).1 _ (by rw [(bs_R.uq Hhp155 (g := 11) (p := 69) rfl).2]; rfl)).trans h159
                       refine (show Ev _ 76 ([some (.ref 69), some (.int k73), none], [], (0, 0), hp162) _ from ?_)
                       obtain ⟨C2, P2, hs2, hl2, hj2⟩ := xhp162 _ _ _ hs1
                       have hbhs2 := hs2.al
                       refine Ev.step (j := 77) (s' := ([some (.ref 69), some (.int k73), none], [.ref 69], (0, 0), hp162)) rfl rfl ?_
                       exact by
                        refine bs_getI 11 rfl rfl rfl Hhp162 (bs_R.uq Hhp162 (g := 11) rfl) (by decide) rfl fun z167 hz167 lz167 gz167 => ?_
                        have e168 : z167.toInt = P2 := Option.some.inj (hz167.symm.trans hs2.2.2.1)
                        refine bs_ifle rfl (fun c169 => ?_) (fun c169 => ?_)
                        · skip
                          refine bs_lit (k := 0) rfl rfl fun z170 hz170 => ?_
                          refine Ev.step (j := 98) (s' := ([some (.ref 69), some (.int z170), none], [], (0, 0), hp162)) rfl rfl ?_
                          refine Ev.step (j := 48) (s' := ([some (.ref 69), some (.int z170), none], [], (0, 0), hp162)) rfl rfl ?_
                          have INV : ∃ c o p w : Int, se hp162 c o p w ∧ (z170.toInt = 0 → p = 0 ∧ w = 1) := ⟨_, _, _, _, hs2, fun _ => ⟨by omega, rfl⟩⟩
                          have MS : (2 * seM hp162 + z170.toInt).toNat < (2 * seM hp74 + k73.toInt).toNat := by
                            rw [hs2.M, hs0.M]
                            omega
                          refine ih76 (z170, hp162, thp162) ⟨Hhp162, Fhp162, h163, (by first | omega | assumption), (by exact INV)⟩ ?_
                          show (2 * seM hp162 + z170.toInt).toNat < (2 * seM hp74 + k73.toInt).toNat
                          exact MS
                        · skip
                          refine Ev.step (j := 84) (s' := ([some (.ref 69), some (.int k73), none], [.ref 69], (0, 0), hp162)) rfl rfl ?_
                          exact by
                           refine bs_lit (k := 1) rfl rfl fun z171 hz171 => ?_
                           refine bs_call (K := kq_X11_bad_3d45d6) [.ref 69, .int z171] [] rfl ct_X11_bad_3d45d6 Hhp162 rfl rfl rfl (bs_rcv (g := 11) Hhp162 (bs_R.uq Hhp162 (g := 11) rfl) (by decide) rfl) rfl ?_ (sf_S_nil) fun r172 hp173 thp173 Hhp173 fhp173 ahp173 php173 => ?_
                           · intro q k h
                             match q, h with
                             | 0, h => cases h; exact bs_jR (bs_R.uq Hhp162 (g := 11) rfl)
                             | 1, h => cases h; exact sf_j0
                             | q + 2, h => cases h
                           obtain ⟨z174, rfl⟩ := bs_anI ahp173
                           have rgz174 := n_range z174
                           have Fhp173 := sf_fr_tr Fhp162 (sf_fr_wider (W := [(11, 0, 0), (11, 2, 5), (11, 11, 18), (11, 34, 38), (132, 253, 433), (134, 0, 159), (143, 0, 44), (999, 0, 0)]) rfl fhp173)
                           have h175 : sf_rd hp173 69 2 = some y7 := (fhp173.2.2.1 _ (bs_R.uq Hhp162 (g := 11) (p := 69) rfl).1 _ (by rw [(bs_R.uq Hhp162 (g := 11) (p := 69) rfl).2]; rfl)).trans h163
                           have h176 : sf_rd hp173 69 11 = some z128.toInt := (fhp173.2.2.1 _ (bs_R.uq Hhp162 (g := 11) (p := 69) rfl).1 _ (by rw [(bs_R.uq Hhp162 (g := 11) (p := 69) rfl).2]; rfl)).trans h166
                           have h177 : sf_rd hp173 69 34 = some C2 := (fhp173.2.2.1 _ (bs_R.uq Hhp162 (g := 11) (p := 69) rfl).1 _ (by rw [(bs_R.uq Hhp162 (g := 11) (p := 69) rfl).2]; rfl)).trans hs2.1
                           have h178 : sf_rd hp173 69 35 = some o0 := (fhp173.2.2.1 _ (bs_R.uq Hhp162 (g := 11) (p := 69) rfl).1 _ (by rw [(bs_R.uq Hhp162 (g := 11) (p := 69) rfl).2]; rfl)).trans hs2.2.1
                           have h179 : sf_rd hp173 69 36 = some P2 := (fhp173.2.2.1 _ (bs_R.uq Hhp162 (g := 11) (p := 69) rfl).1 _ (by rw [(bs_R.uq Hhp162 (g := 11) (p := 69) rfl).2]; rfl)).trans hs2.2.2.1
                           have h180 : sf_rd hp173 69 38 = some (1 : Int) := (fhp173.2.2.1 _ (bs_R.uq Hhp162 (g := 11) (p := 69) rfl).1 _ (by rw [(bs_R.uq Hhp162 (g := 11) (p := 69) rfl).2]; rfl)).trans hs2.2.2.2.1
                           obtain ⟨uz174, vz174⟩ := bs_s1 (x := z174.toInt) rfl (php173 _ (List.mem_of_getElem? (i := 0) rfl))
                           refine (show Ev _ 88 ([some (.ref 69), some (.int k73), none], [.int z174], (0, 0), hp173) _ from ?_)
                           exact by
                            refine Ev.step (j := 89) (s' := ([some (.ref 69), some (.int k73), none], [], (0, 0), hp173)) rfl rfl ?_
                            refine bs_lit (k := -1) rfl rfl fun z181 hz181 => ?_
                            refine Ev.step (j := 91) (s' := ([some (.ref 69), some (.int k73), none], [.ref 69, .int z181], (0, 0), hp173)) rfl rfl ?_
                            refine bs_getI 11 rfl rfl rfl Hhp173 (bs_R.uq Hhp173 (g := 11) rfl) (by decide) rfl fun z182 hz182 lz182 gz182 => ?_
                            first | (refine bs_sub rfl (by omega) (by omega) fun z183 hz183 => ?_) | (refine bs_any rfl fun z183 => ?_)
                            have rz183 := n_range z183
                            exact Ev.ret rfl rfl (by rw [hQ]; exact ⟨thp173, Hhp173, Fhp173, bs_an0, sf_S_cons (sf_s1 (x := y7) (show sf_v1 _ _ _ 36008 = _ from h175) (by omega) (by omega)) (sf_S_nil)⟩)
end
