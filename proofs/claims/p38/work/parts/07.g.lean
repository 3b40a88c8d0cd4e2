-- 53.law.lean.txt
section
def L_law_0 (xs : Nat → Int32) (n : Nat) (f_X10_init : List Value → ab_H → Option ab_O) (f_X11_init : List Value → ab_H → Option ab_O) (f_X10_feed : List Value → ab_H → Option ab_O) (f_X11_feed : List Value → ab_H → Option ab_O) (f_X10_end : List Value → ab_H → Option ab_O) : List (Nat × ab_A) := [
  (0, ab_nx 3 (ab_new 10 19 [.null, .null, .null, .null, .null, .null, .null, .null, .null, .null, .null, .null, .null, .null, .null, .null, .null, .int 0, .int 0] 601024 7293034)),
  (3, ab_nx 4 ab_dup),
  (4, ab_nx 7 (ab_call 1 f_X10_init 68 4837 601024 7293034)),
  (7, ab_nx 8 (ab_astore 1)),
  (8, ab_nx 11 (ab_new 11 43 [.int 0, .null, .int 0, .int 0, .int 0, .int 0, .null, .null, .null, .null, .null, .int 0, .int 0, .int 0, .int 0, .int 0, .int 0, .long 0, .int 0, .int 0, .int 0, .null, .int 0, .null, .null, .int 0, .null, .null, .int 0, .int 0, .int 0, .null, .int 0, .null, .int 0, .int 0, .int 0, .int 0, .int 0, .null, .null, .null, .null] 601024 7293034)),
  (11, ab_nx 12 ab_dup),
  (12, ab_nx 15 (ab_call 1 f_X11_init 17 3972 601024 7293034)),
  (15, ab_nx 16 (ab_astore 2)),
  (16, ab_nx 17 (ab_lit (.int 1))),
  (17, ab_nx 19 (ab_newa 2 (fun n => (n, .inr (.inl (fun _ => 0)))) 601024 7293034)),
  (19, ab_nx 20 (ab_astore 3)),
  (20, ab_nx 21 (ab_lit (.int 0))),
  (21, ab_nx 23 (ab_istore 4)),
  (23, ab_nx 25 (ab_iload 4)),
  (25, ab_nx 26 (ab_aload 0)),
  (26, ab_nx 27 (ab_slen n)),
  (27, ab_nx 29 (ab_lit (.int 6))),
  (29, ab_nx 30 (ab_bin (fun x y => x - y))),
  (30, ab_icmp 33 1446 (fun x y => decide (y < x))),
  (33, ab_nx 34 (ab_aload 0)),
  (34, ab_nx 36 (ab_iload 4)),
  (36, ab_nx 37 (ab_sld xs n)),
  (37, ab_nx 39 (ab_lit (.int 63))),
  (39, ab_nx 40 (ab_bin (fun x y => x &&& y))),
  (40, ab_tab 0 [220, 293, 318, 331, 344, 393, 430, 470, 507, 532, 581, 630, 679, 704, 729, 742, 767, 792, 805, 830, 855, 892, 953, 990, 1015, 1028, 1041, 1090, 1103, 1140, 1153, 1166, 1191, 1228, 1277, 1302, 1327, 1340, 1365, 1390, 1415] 1440),
  (220, ab_nx 221 (ab_aload 1)),
  (221, ab_nx 222 (ab_aload 0)),
  (222, ab_nx 224 (ab_iload 4)),
  (224, ab_nx 225 (ab_lit (.int 1))),
  (225, ab_nx 226 (ab_bin (fun x y => x + y))),
  (226, ab_nx 227 (ab_sld xs n)),
  (227, ab_nx 228 (ab_aload 0)),
  (228, ab_nx 230 (ab_iload 4)),
  (230, ab_nx 231 (ab_lit (.int 2))),
  (231, ab_nx 232 (ab_bin (fun x y => x + y))),
  (232, ab_nx 233 (ab_sld xs n)),
  (233, ab_nx 234 (ab_aload 0)),
  (234, ab_nx 236 (ab_iload 4)),
  (236, ab_nx 237 (ab_lit (.int 3))),
  (237, ab_nx 238 (ab_bin (fun x y => x + y))),
  (238, ab_nx 239 (ab_sld xs n)),
  (239, ab_nx 240 (ab_aload 0)),
  (240, ab_nx 242 (ab_iload 4)),
  (242, ab_nx 243 (ab_lit (.int 4))),
  (243, ab_nx 244 (ab_bin (fun x y => x + y))),
  (244, ab_nx 245 (ab_sld xs n)),
  (245, ab_nx 246 (ab_aload 0)),
  (246, ab_nx 248 (ab_iload 4)),
  (248, ab_nx 249 (ab_lit (.int 5))),
  (249, ab_nx 250 (ab_bin (fun x y => x + y))),
  (250, ab_nx 251 (ab_sld xs n)),
  (251, ab_nx 254 (ab_callV 6 10 f_X10_feed 0 0 601024 7293034)),
  (254, ab_nx 255 ab_pop),
  (255, ab_nx 256 (ab_aload 2)),
  (256, ab_nx 257 (ab_aload 0)),
  (257, ab_nx 259 (ab_iload 4)),
  (259, ab_nx 260 (ab_lit (.int 1))),
  (260, ab_nx 261 (ab_bin (fun x y => x + y))),
  (261, ab_nx 262 (ab_sld xs n)),
  (262, ab_nx 263 (ab_aload 0)),
  (263, ab_nx 265 (ab_iload 4)),
  (265, ab_nx 266 (ab_lit (.int 2))),
  (266, ab_nx 267 (ab_bin (fun x y => x + y))),
  (267, ab_nx 268 (ab_sld xs n)),
  (268, ab_nx 269 (ab_aload 0)),
  (269, ab_nx 271 (ab_iload 4)),
  (271, ab_nx 272 (ab_lit (.int 3))),
  (272, ab_nx 273 (ab_bin (fun x y => x + y))),
  (273, ab_nx 274 (ab_sld xs n)),
  (274, ab_nx 275 (ab_aload 0)),
  (275, ab_nx 277 (ab_iload 4)),
  (277, ab_nx 278 (ab_lit (.int 4))),
  (278, ab_nx 279 (ab_bin (fun x y => x + y))),
  (279, ab_nx 280 (ab_sld xs n)),
  (280, ab_nx 281 (ab_aload 0)),
  (281, ab_nx 283 (ab_iload 4)),
  (283, ab_nx 284 (ab_lit (.int 5))),
  (284, ab_nx 285 (ab_bin (fun x y => x + y))),
  (285, ab_nx 286 (ab_sld xs n)),
  (286, ab_nx 289 (ab_callV 6 11 f_X11_feed 0 0 601024 7293034)),
  (289, ab_nx 290 ab_pop),
  (290, ab_goto 1440),
  (293, ab_nx 294 (ab_aload 1)),
  (294, ab_nx 295 (ab_aload 0)),
  (295, ab_nx 297 (ab_iload 4)),
  (297, ab_nx 298 (ab_lit (.int 1))),
  (298, ab_nx 299 (ab_bin (fun x y => x + y))),
  (299, ab_nx 300 (ab_sld xs n)),
  (300, ab_nx 303 (ab_callV 2 10 f_X10_end 0 0 601024 7293034)),
  (303, ab_nx 304 ab_pop)]
set_option maxRecDepth 100000 in
theorem dq53_0 : ([(0, .new 8, 3), (3, .dup, 1), (4, .invokespecial 15, 3), (7, .astore_n 1, 1), (8, .new 16, 3), (11, .dup, 1), (12, .invokespecial 18, 3), (15, .astore_n 2, 1), (16, .iconst 1, 1), (17, .newarray .long, 2), (19, .astore_n 3, 1), (20, .iconst 0, 1), (21, .istore 4, 2), (23, .iload 4, 2), (25, .aload_n 0, 1), (26, .arraylength, 1), (27, .bipush 6, 2), (29, .isub, 1), (30, .if_icmp .gt 1416, 3), (33, .aload_n 0, 1), (34, .iload 4, 2), (36, .iaload, 1), (37, .bipush 63, 2), (39, .iand, 1), (40, .tableswitch 1400 0 40 #[180, 253, 278, 291, 304, 353, 390, 430, 467, 492, 541, 590, 639, 664, 689, 702, 727, 752, 765, 790, 815, 852, 913, 950, 975, 988, 1001, 1050, 1063, 1100, 1113, 1126, 1151, 1188, 1237, 1262, 1287, 1300, 1325, 1350, 1375], 180), (220, .aload_n 1, 1), (221, .aload_n 0, 1), (222, .iload 4, 2), (224, .iconst 1, 1), (225, .iadd, 1), (226, .iaload, 1), (227, .aload_n 0, 1), (228, .iload 4, 2), (230, .iconst 2, 1), (231, .iadd, 1), (232, .iaload, 1), (233, .aload_n 0, 1), (234, .iload 4, 2), (236, .iconst 3, 1), (237, .iadd, 1), (238, .iaload, 1), (239, .aload_n 0, 1), (240, .iload 4, 2), (242, .iconst 4, 1), (243, .iadd, 1), (244, .iaload, 1), (245, .aload_n 0, 1), (246, .iload 4, 2)] : List (Nat × Instr × Nat)).all (fun q => decide (decode cL_law q.1 = .ok q.2)) = true := by decide +kernel
set_option maxRecDepth 100000 in
theorem dq53_1 : ([(248, .iconst 5, 1), (249, .iadd, 1), (250, .iaload, 1), (251, .invokevirtual 19, 3), (254, .pop, 1), (255, .aload_n 2, 1), (256, .aload_n 0, 1), (257, .iload 4, 2), (259, .iconst 1, 1), (260, .iadd, 1), (261, .iaload, 1), (262, .aload_n 0, 1), (263, .iload 4, 2), (265, .iconst 2, 1), (266, .iadd, 1), (267, .iaload, 1), (268, .aload_n 0, 1), (269, .iload 4, 2), (271, .iconst 3, 1), (272, .iadd, 1), (273, .iaload, 1), (274, .aload_n 0, 1), (275, .iload 4, 2), (277, .iconst 4, 1), (278, .iadd, 1), (279, .iaload, 1), (280, .aload_n 0, 1), (281, .iload 4, 2), (283, .iconst 5, 1), (284, .iadd, 1), (285, .iaload, 1), (286, .invokevirtual 23, 3), (289, .pop, 1), (290, .goto 1150, 3), (293, .aload_n 1, 1), (294, .aload_n 0, 1), (295, .iload 4, 2), (297, .iconst 1, 1), (298, .iadd, 1), (299, .iaload, 1), (300, .invokevirtual 24, 3), (303, .pop, 1)] : List (Nat × Instr × Nat)).all (fun q => decide (decode cL_law q.1 = .ok q.2)) = true := by decide +kernel
set_option maxRecDepth 100000 in
set_option maxHeartbeats 4000000 in
theorem law_0 {p : Program} {l : Launch} {e : Env} {s : State} {m : MethodId} {below : List Frame} {meth : Method} {c : Code} {cd : Cond} {b : ab_B} {D : va_G} {cA : Nat → ClassId} {o : ab_O} {xs : Nat → Int32} {n bb : Nat} {nm : String} (C : ab_cx p l e room_1 s m #[Value.ref bb] below meth c D ab_cl cA (ab_E0 b) (⟨RL, nm, "([I)Z"⟩ : MethodName) cL_law 7 ret (cd :: ab_G) room_1) (hX : va_X bb n xs s s.heap) (hb0 : b.2 0 = bb) (hb1 : b.1 = s.heap.size ∧ bb < s.heap.size) {f_X10_init : List Value → ab_H → Option ab_O} (h_X10_init : ab_M l b D ab_cl cA (ab_E0 b) yX10_init (Cond.code yX10_init cX10_init 1 none :: ab_G) ({ frames := 3, cells := 68, slots := 4837, locals := 300 } : Room) f_X10_init) (i_X10_init : ∀ v hp o2, f_X10_init [v] hp = some o2 → ∃ a, v = .ref a) {f_X11_init : List Value → ab_H → Option ab_O} (h_X11_init : ab_M l b D ab_cl cA (ab_E0 b) yX11_init (Cond.code yX11_init cX11_init 1 none :: ab_G) ({ frames := 2, cells := 17, slots := 3972, locals := 200 } : Room) f_X11_init) (i_X11_init : ∀ v hp o2, f_X11_init [v] hp = some o2 → ∃ a, v = .ref a) {f_X10_feed : List Value → ab_H → Option ab_O} (h_X10_feed : ab_M l b D ab_cl cA (ab_E0 b) yX10_feed (Cond.code yX10_feed cX10_feed 6 (some .int) :: ab_G) ({ frames := 2, cells := 0, slots := 0, locals := 200 } : Room) f_X10_feed) {f_X11_feed : List Value → ab_H → Option ab_O} (h_X11_feed : ab_M l b D ab_cl cA (ab_E0 b) yX11_feed (Cond.code yX11_feed cX11_feed 6 (some .int) :: ab_G) ({ frames := 2, cells := 0, slots := 0, locals := 200 } : Room) f_X11_feed) {f_X10_end : List Value → ab_H → Option ab_O} (h_X10_end : ab_M l b D ab_cl cA (ab_E0 b) yX10_end (Cond.code yX10_end cX10_end 2 (some .boolean) :: ab_G) ({ frames := 1, cells := 0, slots := 0, locals := 100 } : Room) f_X10_end) : ∀ q ∈ L_law_0 xs n f_X10_init f_X11_init f_X10_feed f_X11_feed f_X10_end, ab_ok p l e room_1 s m #[Value.ref bb] below meth c (lw_Z below #[Value.ref bb] s) b D ab_cl cA 7 o (fun i => i) q.1 q.2 := by
  unfold L_law_0
  refine List.forall_mem_cons.mpr ⟨ok_new C (wi_X10) tyX10 tyX10_ok rfl kw_24 kw_25 kw_1 (df_X10 _) (show decode cL_law 0 = .ok (.new 8, 3) from dk_at dq53_0 (i := 0) rfl) rfl, ?_⟩
  refine List.forall_mem_cons.mpr ⟨ok_dup C (show decode cL_law 3 = .ok (.dup, 1) from dk_at dq53_0 (i := 1) rfl) rfl, ?_⟩
  refine List.forall_mem_cons.mpr ⟨ok_callI C h_X10_init ⟨rfl, rfl⟩ i_X10_init kw_28 kw_26 kw_27 kw_1 rfl ds_X10_init ⟨by decide, by decide⟩ (show decode cL_law 4 = .ok (.invokespecial 15, 3) from dk_at dq53_0 (i := 2) rfl) rfl, ?_⟩
  refine List.forall_mem_cons.mpr ⟨ok_astore_n C (show decode cL_law 7 = .ok (.astore_n 1, 1) from dk_at dq53_0 (i := 3) rfl) rfl (by decide) rfl, ?_⟩
  refine List.forall_mem_cons.mpr ⟨ok_new C (wi_X11) tyX11 tyX11_ok rfl kw_1150 kw_1144 kw_11 (df_X11 _) (show decode cL_law 8 = .ok (.new 16, 3) from dk_at dq53_0 (i := 4) rfl) rfl, ?_⟩
  refine List.forall_mem_cons.mpr ⟨ok_dup C (show decode cL_law 11 = .ok (.dup, 1) from dk_at dq53_0 (i := 5) rfl) rfl, ?_⟩
  refine List.forall_mem_cons.mpr ⟨ok_callI C h_X11_init ⟨rfl, rfl⟩ i_X11_init kw_1153 kw_1151 kw_1152 kw_11 rfl ds_X11_init ⟨by decide, by decide⟩ (show decode cL_law 12 = .ok (.invokespecial 18, 3) from dk_at dq53_0 (i := 6) rfl) rfl, ?_⟩
  refine List.forall_mem_cons.mpr ⟨ok_astore_n C (show decode cL_law 15 = .ok (.astore_n 2, 1) from dk_at dq53_0 (i := 7) rfl) rfl (by decide) rfl, ?_⟩
  refine List.forall_mem_cons.mpr ⟨ok_iconst C (show decode cL_law 16 = .ok (.iconst 1, 1) from dk_at dq53_0 (i := 8) rfl) (by decide) rfl, ?_⟩
  refine List.forall_mem_cons.mpr ⟨ok_newa_long C kw_98 (show decode cL_law 17 = .ok (.newarray .long, 2) from dk_at dq53_0 (i := 9) rfl) rfl, ?_⟩
  refine List.forall_mem_cons.mpr ⟨ok_astore_n C (show decode cL_law 19 = .ok (.astore_n 3, 1) from dk_at dq53_0 (i := 10) rfl) rfl (by decide) rfl, ?_⟩
  refine List.forall_mem_cons.mpr ⟨ok_iconst C (show decode cL_law 20 = .ok (.iconst 0, 1) from dk_at dq53_0 (i := 11) rfl) (by decide) rfl, ?_⟩
  refine List.forall_mem_cons.mpr ⟨ok_istore C (show decode cL_law 21 = .ok (.istore 4, 2) from dk_at dq53_0 (i := 12) rfl) (by decide) rfl, ?_⟩
  refine List.forall_mem_cons.mpr ⟨ok_iload C (show decode cL_law 23 = .ok (.iload 4, 2) from dk_at dq53_0 (i := 13) rfl) rfl, ?_⟩
  refine List.forall_mem_cons.mpr ⟨ok_aload_n C (show decode cL_law 25 = .ok (.aload_n 0, 1) from dk_at dq53_0 (i := 14) rfl) rfl rfl, ?_⟩
  refine List.forall_mem_cons.mpr ⟨ok_slen C hX hb0 hb1 (show decode cL_law 26 = .ok (.arraylength, 1) from dk_at dq53_0 (i := 15) rfl) rfl, ?_⟩
  refine List.forall_mem_cons.mpr ⟨ok_bipush C (show decode cL_law 27 = .ok (.bipush 6, 2) from dk_at dq53_0 (i := 16) rfl) (by decide) rfl, ?_⟩
  refine List.forall_mem_cons.mpr ⟨ok_isub C (show decode cL_law 29 = .ok (.isub, 1) from dk_at dq53_0 (i := 17) rfl) rfl, ?_⟩
  refine List.forall_mem_cons.mpr ⟨ok_icmpgt C (show decode cL_law 30 = .ok (.if_icmp .gt 1416, 3) from dk_at dq53_0 (i := 18) rfl) (tg := 1446) (by decide) rfl rfl, ?_⟩
  refine List.forall_mem_cons.mpr ⟨ok_aload_n C (show decode cL_law 33 = .ok (.aload_n 0, 1) from dk_at dq53_0 (i := 19) rfl) rfl rfl, ?_⟩
  refine List.forall_mem_cons.mpr ⟨ok_iload C (show decode cL_law 34 = .ok (.iload 4, 2) from dk_at dq53_0 (i := 20) rfl) rfl, ?_⟩
  refine List.forall_mem_cons.mpr ⟨ok_sld C hX hb0 hb1 (show decode cL_law 36 = .ok (.iaload, 1) from dk_at dq53_0 (i := 21) rfl) rfl, ?_⟩
  refine List.forall_mem_cons.mpr ⟨ok_bipush C (show decode cL_law 37 = .ok (.bipush 63, 2) from dk_at dq53_0 (i := 22) rfl) (by decide) rfl, ?_⟩
  refine List.forall_mem_cons.mpr ⟨ok_iand C (show decode cL_law 39 = .ok (.iand, 1) from dk_at dq53_0 (i := 23) rfl) rfl, ?_⟩
  refine List.forall_mem_cons.mpr ⟨ok_tab C (show decode cL_law 40 = .ok (.tableswitch 1400 0 40 #[180, 253, 278, 291, 304, 353, 390, 430, 467, 492, 541, 590, 639, 664, 689, 702, 727, 752, 765, 790, 815, 852, 913, 950, 975, 988, 1001, 1050, 1063, 1100, 1113, 1126, 1151, 1188, 1237, 1262, 1287, 1300, 1325, 1350, 1375], 180) from dk_at dq53_0 (i := 24) rfl) (by decide) (by decide) (by decide), ?_⟩
  refine List.forall_mem_cons.mpr ⟨ok_aload_n C (show decode cL_law 220 = .ok (.aload_n 1, 1) from dk_at dq53_0 (i := 25) rfl) rfl rfl, ?_⟩
  refine List.forall_mem_cons.mpr ⟨ok_aload_n C (show decode cL_law 221 = .ok (.aload_n 0, 1) from dk_at dq53_0 (i := 26) rfl) rfl rfl, ?_⟩
  refine List.forall_mem_cons.mpr ⟨ok_iload C (show decode cL_law 222 = .ok (.iload 4, 2) from dk_at dq53_0 (i := 27) rfl) rfl, ?_⟩
  refine List.forall_mem_cons.mpr ⟨ok_iconst C (show decode cL_law 224 = .ok (.iconst 1, 1) from dk_at dq53_0 (i := 28) rfl) (by decide) rfl, ?_⟩
  refine List.forall_mem_cons.mpr ⟨ok_iadd C (show decode cL_law 225 = .ok (.iadd, 1) from dk_at dq53_0 (i := 29) rfl) rfl, ?_⟩
  refine List.forall_mem_cons.mpr ⟨ok_sld C hX hb0 hb1 (show decode cL_law 226 = .ok (.iaload, 1) from dk_at dq53_0 (i := 30) rfl) rfl, ?_⟩
  refine List.forall_mem_cons.mpr ⟨ok_aload_n C (show decode cL_law 227 = .ok (.aload_n 0, 1) from dk_at dq53_0 (i := 31) rfl) rfl rfl, ?_⟩
  refine List.forall_mem_cons.mpr ⟨ok_iload C (show decode cL_law 228 = .ok (.iload 4, 2) from dk_at dq53_0 (i := 32) rfl) rfl, ?_⟩
  refine List.forall_mem_cons.mpr ⟨ok_iconst C (show decode cL_law 230 = .ok (.iconst 2, 1) from dk_at dq53_0 (i := 33) rfl) (by decide) rfl, ?_⟩
  refine List.forall_mem_cons.mpr ⟨ok_iadd C (show decode cL_law 231 = .ok (.iadd, 1) from dk_at dq53_0 (i := 34) rfl) rfl, ?_⟩
  refine List.forall_mem_cons.mpr ⟨ok_sld C hX hb0 hb1 (show decode cL_law 232 = .ok (.iaload, 1) from dk_at dq53_0 (i := 35) rfl) rfl, ?_⟩
  refine List.forall_mem_cons.mpr ⟨ok_aload_n C (show decode cL_law 233 = .ok (.aload_n 0, 1) from dk_at dq53_0 (i := 36) rfl) rfl rfl, ?_⟩
  refine List.forall_mem_cons.mpr ⟨ok_iload C (show decode cL_law 234 = .ok (.iload 4, 2) from dk_at dq53_0 (i := 37) rfl) rfl, ?_⟩
  refine List.forall_mem_cons.mpr ⟨ok_iconst C (show decode cL_law 236 = .ok (.iconst 3, 1) from dk_at dq53_0 (i := 38) rfl) (by decide) rfl, ?_⟩
  refine List.forall_mem_cons.mpr ⟨ok_iadd C (show decode cL_law 237 = .ok (.iadd, 1) from dk_at dq53_0 (i := 39) rfl) rfl, ?_⟩
  refine List.forall_mem_cons.mpr ⟨ok_sld C hX hb0 hb1 (show decode cL_law 238 = .ok (.iaload, 1) from dk_at dq53_0 (i := 40) rfl) rfl, ?_⟩
  refine List.forall_mem_cons.mpr ⟨ok_aload_n C (show decode cL_law 239 = .ok (.aload_n 0, 1) from dk_at dq53_0 (i := 41) rfl) rfl rfl, ?_⟩
  refine List.forall_mem_cons.mpr ⟨ok_iload C (show decode cL_law 240 = .ok (.iload 4, 2) from dk_at dq53_0 (i := 42) rfl) rfl, ?_⟩
  refine List.forall_mem_cons.mpr ⟨ok_iconst C (show decode cL_law 242 = .ok (.iconst 4, 1) from dk_at dq53_0 (i := 43) rfl) (by decide) rfl, ?_⟩
  refine List.forall_mem_cons.mpr ⟨ok_iadd C (show decode cL_law 243 = .ok (.iadd, 1) from dk_at dq53_0 (i := 44) rfl) rfl, ?_⟩
  refine List.forall_mem_cons.mpr ⟨ok_sld C hX hb0 hb1 (show decode cL_law 244 = .ok (.iaload, 1) from dk_at dq53_0 (i := 45) rfl) rfl, ?_⟩
  refine List.forall_mem_cons.mpr ⟨ok_aload_n C (show decode cL_law 245 = .ok (.aload_n 0, 1) from dk_at dq53_0 (i := 46) rfl) rfl rfl, ?_⟩
  refine List.forall_mem_cons.mpr ⟨ok_iload C (show decode cL_law 246 = .ok (.iload 4, 2) from dk_at dq53_0 (i := 47) rfl) rfl, ?_⟩
  refine List.forall_mem_cons.mpr ⟨ok_iconst C (show decode cL_law 248 = .ok (.iconst 5, 1) from dk_at dq53_1 (i := 0) rfl) (by decide) rfl, ?_⟩
  refine List.forall_mem_cons.mpr ⟨ok_iadd C (show decode cL_law 249 = .ok (.iadd, 1) from dk_at dq53_1 (i := 1) rfl) rfl, ?_⟩
  refine List.forall_mem_cons.mpr ⟨ok_sld C hX hb0 hb1 (show decode cL_law 250 = .ok (.iaload, 1) from dk_at dq53_1 (i := 2) rfl) rfl, ?_⟩
  refine List.forall_mem_cons.mpr ⟨ok_callV C h_X10_feed ⟨rfl, rfl⟩ rfl kw_376 kw_373 kw_374 kw_375 kw_1 rfl ds_X10_feed ⟨by decide, by decide⟩ (show decode cL_law 251 = .ok (.invokevirtual 19, 3) from dk_at dq53_1 (i := 3) rfl) rfl, ?_⟩
  refine List.forall_mem_cons.mpr ⟨ok_pop C (show decode cL_law 254 = .ok (.pop, 1) from dk_at dq53_1 (i := 4) rfl) rfl, ?_⟩
  refine List.forall_mem_cons.mpr ⟨ok_aload_n C (show decode cL_law 255 = .ok (.aload_n 2, 1) from dk_at dq53_1 (i := 5) rfl) rfl rfl, ?_⟩
  refine List.forall_mem_cons.mpr ⟨ok_aload_n C (show decode cL_law 256 = .ok (.aload_n 0, 1) from dk_at dq53_1 (i := 6) rfl) rfl rfl, ?_⟩
  refine List.forall_mem_cons.mpr ⟨ok_iload C (show decode cL_law 257 = .ok (.iload 4, 2) from dk_at dq53_1 (i := 7) rfl) rfl, ?_⟩
  refine List.forall_mem_cons.mpr ⟨ok_iconst C (show decode cL_law 259 = .ok (.iconst 1, 1) from dk_at dq53_1 (i := 8) rfl) (by decide) rfl, ?_⟩
  refine List.forall_mem_cons.mpr ⟨ok_iadd C (show decode cL_law 260 = .ok (.iadd, 1) from dk_at dq53_1 (i := 9) rfl) rfl, ?_⟩
  refine List.forall_mem_cons.mpr ⟨ok_sld C hX hb0 hb1 (show decode cL_law 261 = .ok (.iaload, 1) from dk_at dq53_1 (i := 10) rfl) rfl, ?_⟩
  refine List.forall_mem_cons.mpr ⟨ok_aload_n C (show decode cL_law 262 = .ok (.aload_n 0, 1) from dk_at dq53_1 (i := 11) rfl) rfl rfl, ?_⟩
  refine List.forall_mem_cons.mpr ⟨ok_iload C (show decode cL_law 263 = .ok (.iload 4, 2) from dk_at dq53_1 (i := 12) rfl) rfl, ?_⟩
  refine List.forall_mem_cons.mpr ⟨ok_iconst C (show decode cL_law 265 = .ok (.iconst 2, 1) from dk_at dq53_1 (i := 13) rfl) (by decide) rfl, ?_⟩
  refine List.forall_mem_cons.mpr ⟨ok_iadd C (show decode cL_law 266 = .ok (.iadd, 1) from dk_at dq53_1 (i := 14) rfl) rfl, ?_⟩
  refine List.forall_mem_cons.mpr ⟨ok_sld C hX hb0 hb1 (show decode cL_law 267 = .ok (.iaload, 1) from dk_at dq53_1 (i := 15) rfl) rfl, ?_⟩
  refine List.forall_mem_cons.mpr ⟨ok_aload_n C (show decode cL_law 268 = .ok (.aload_n 0, 1) from dk_at dq53_1 (i := 16) rfl) rfl rfl, ?_⟩
  refine List.forall_mem_cons.mpr ⟨ok_iload C (show decode cL_law 269 = .ok (.iload 4, 2) from dk_at dq53_1 (i := 17) rfl) rfl, ?_⟩
  refine List.forall_mem_cons.mpr ⟨ok_iconst C (show decode cL_law 271 = .ok (.iconst 3, 1) from dk_at dq53_1 (i := 18) rfl) (by decide) rfl, ?_⟩
  refine List.forall_mem_cons.mpr ⟨ok_iadd C (show decode cL_law 272 = .ok (.iadd, 1) from dk_at dq53_1 (i := 19) rfl) rfl, ?_⟩
  refine List.forall_mem_cons.mpr ⟨ok_sld C hX hb0 hb1 (show decode cL_law 273 = .ok (.iaload, 1) from dk_at dq53_1 (i := 20) rfl) rfl, ?_⟩
  refine List.forall_mem_cons.mpr ⟨ok_aload_n C (show decode cL_law 274 = .ok (.aload_n 0, 1) from dk_at dq53_1 (i := 21) rfl) rfl rfl, ?_⟩
  refine List.forall_mem_cons.mpr ⟨ok_iload C (show decode cL_law 275 = .ok (.iload 4, 2) from dk_at dq53_1 (i := 22) rfl) rfl, ?_⟩
  refine List.forall_mem_cons.mpr ⟨ok_iconst C (show decode cL_law 277 = .ok (.iconst 4, 1) from dk_at dq53_1 (i := 23) rfl) (by decide) rfl, ?_⟩
  refine List.forall_mem_cons.mpr ⟨ok_iadd C (show decode cL_law 278 = .ok (.iadd, 1) from dk_at dq53_1 (i := 24) rfl) rfl, ?_⟩
  refine List.forall_mem_cons.mpr ⟨ok_sld C hX hb0 hb1 (show decode cL_law 279 = .ok (.iaload, 1) from dk_at dq53_1 (i := 25) rfl) rfl, ?_⟩
  refine List.forall_mem_cons.mpr ⟨ok_aload_n C (show decode cL_law 280 = .ok (.aload_n 0, 1) from dk_at dq53_1 (i := 26) rfl) rfl rfl, ?_⟩
  refine List.forall_mem_cons.mpr ⟨ok_iload C (show decode cL_law 281 = .ok (.iload 4, 2) from dk_at dq53_1 (i := 27) rfl) rfl, ?_⟩
  refine List.forall_mem_cons.mpr ⟨ok_iconst C (show decode cL_law 283 = .ok (.iconst 5, 1) from dk_at dq53_1 (i := 28) rfl) (by decide) rfl, ?_⟩
  refine List.forall_mem_cons.mpr ⟨ok_iadd C (show decode cL_law 284 = .ok (.iadd, 1) from dk_at dq53_1 (i := 29) rfl) rfl, ?_⟩
  refine List.forall_mem_cons.mpr ⟨ok_sld C hX hb0 hb1 (show decode cL_law 285 = .ok (.iaload, 1) from dk_at dq53_1 (i := 30) rfl) rfl, ?_⟩
  refine List.forall_mem_cons.mpr ⟨ok_callV C h_X11_feed ⟨rfl, rfl⟩ rfl kw_1140 kw_1137 kw_1138 kw_1139 kw_11 rfl ds_X11_feed ⟨by decide, by decide⟩ (show decode cL_law 286 = .ok (.invokevirtual 23, 3) from dk_at dq53_1 (i := 31) rfl) rfl, ?_⟩
  refine List.forall_mem_cons.mpr ⟨ok_pop C (show decode cL_law 289 = .ok (.pop, 1) from dk_at dq53_1 (i := 32) rfl) rfl, ?_⟩
  refine List.forall_mem_cons.mpr ⟨ok_goto C (show decode cL_law 290 = .ok (.goto 1150, 3) from dk_at dq53_1 (i := 33) rfl) (tg := 1440) (by decide) rfl, ?_⟩
  refine List.forall_mem_cons.mpr ⟨ok_aload_n C (show decode cL_law 293 = .ok (.aload_n 1, 1) from dk_at dq53_1 (i := 34) rfl) rfl rfl, ?_⟩
  refine List.forall_mem_cons.mpr ⟨ok_aload_n C (show decode cL_law 294 = .ok (.aload_n 0, 1) from dk_at dq53_1 (i := 35) rfl) rfl rfl, ?_⟩
  refine List.forall_mem_cons.mpr ⟨ok_iload C (show decode cL_law 295 = .ok (.iload 4, 2) from dk_at dq53_1 (i := 36) rfl) rfl, ?_⟩
  refine List.forall_mem_cons.mpr ⟨ok_iconst C (show decode cL_law 297 = .ok (.iconst 1, 1) from dk_at dq53_1 (i := 37) rfl) (by decide) rfl, ?_⟩
  refine List.forall_mem_cons.mpr ⟨ok_iadd C (show decode cL_law 298 = .ok (.iadd, 1) from dk_at dq53_1 (i := 38) rfl) rfl, ?_⟩
  refine List.forall_mem_cons.mpr ⟨ok_sld C hX hb0 hb1 (show decode cL_law 299 = .ok (.iaload, 1) from dk_at dq53_1 (i := 39) rfl) rfl, ?_⟩
  refine List.forall_mem_cons.mpr ⟨ok_callV C h_X10_end ⟨rfl, rfl⟩ rfl kw_384 kw_381 kw_382 kw_383 kw_1 rfl ds_X10_end ⟨by decide, by decide⟩ (show decode cL_law 300 = .ok (.invokevirtual 24, 3) from dk_at dq53_1 (i := 40) rfl) rfl, ?_⟩
  refine List.forall_mem_cons.mpr ⟨ok_pop C (show decode cL_law 303 = .ok (.pop, 1) from dk_at dq53_1 (i := 41) rfl) rfl, ?_⟩
  exact fun _ h => absurd h List.not_mem_nil
def L_law_1 (xs : Nat → Int32) (n : Nat) (f_X11_end : List Value → ab_H → Option ab_O) (f_X10_strait : List Value → ab_H → Option ab_O) (f_X11_strait : List Value → ab_H → Option ab_O) (f_X10_fault : List Value → ab_H → Option ab_O) (f_X11_fault : List Value → ab_H → Option ab_O) (f_X10_good : List Value → ab_H → Option ab_O) (f_X11_good : List Value → ab_H → Option ab_O) (f_X10_crossed : List Value → ab_H → Option ab_O) (f_X11_crossed : List Value → ab_H → Option ab_O) : List (Nat × ab_A) := [
  (304, ab_nx 305 (ab_aload 2)),
  (305, ab_nx 306 (ab_aload 0)),
  (306, ab_nx 308 (ab_iload 4)),
  (308, ab_nx 309 (ab_lit (.int 1))),
  (309, ab_nx 310 (ab_bin (fun x y => x + y))),
  (310, ab_nx 311 (ab_sld xs n)),
  (311, ab_nx 314 (ab_callV 2 11 f_X11_end 0 0 601024 7293034)),
  (314, ab_nx 315 ab_pop),
  (315, ab_goto 1440),
  (318, ab_nx 319 (ab_aload 1)),
  (319, ab_nx 322 (ab_callV 1 10 f_X10_strait 0 0 601024 7293034)),
  (322, ab_nx 323 ab_pop),
  (323, ab_nx 324 (ab_aload 2)),
  (324, ab_nx 327 (ab_callV 1 11 f_X11_strait 0 0 601024 7293034)),
  (327, ab_nx 328 ab_pop),
  (328, ab_goto 1440),
  (331, ab_nx 332 (ab_aload 1)),
  (332, ab_nx 335 (ab_callV 1 10 f_X10_fault 0 0 601024 7293034)),
  (335, ab_nx 336 ab_pop),
  (336, ab_nx 337 (ab_aload 2)),
  (337, ab_nx 340 (ab_callV 1 11 f_X11_fault 0 0 601024 7293034)),
  (340, ab_nx 341 ab_pop),
  (341, ab_goto 1440),
  (344, ab_nx 345 (ab_aload 1)),
  (345, ab_nx 346 (ab_aload 0)),
  (346, ab_nx 348 (ab_iload 4)),
  (348, ab_nx 349 (ab_lit (.int 1))),
  (349, ab_nx 350 (ab_bin (fun x y => x + y))),
  (350, ab_nx 351 (ab_sld xs n)),
  (351, ab_nx 352 (ab_aload 0)),
  (352, ab_nx 354 (ab_iload 4)),
  (354, ab_nx 355 (ab_lit (.int 2))),
  (355, ab_nx 356 (ab_bin (fun x y => x + y))),
  (356, ab_nx 357 (ab_sld xs n)),
  (357, ab_nx 358 (ab_aload 0)),
  (358, ab_nx 360 (ab_iload 4)),
  (360, ab_nx 361 (ab_lit (.int 3))),
  (361, ab_nx 362 (ab_bin (fun x y => x + y))),
  (362, ab_nx 363 (ab_sld xs n)),
  (363, ab_nx 366 (ab_callV 4 10 f_X10_good 0 0 601024 7293034)),
  (366, ab_nx 367 ab_pop),
  (367, ab_nx 368 (ab_aload 2)),
  (368, ab_nx 369 (ab_aload 0)),
  (369, ab_nx 371 (ab_iload 4)),
  (371, ab_nx 372 (ab_lit (.int 1))),
  (372, ab_nx 373 (ab_bin (fun x y => x + y))),
  (373, ab_nx 374 (ab_sld xs n)),
  (374, ab_nx 375 (ab_aload 0)),
  (375, ab_nx 377 (ab_iload 4)),
  (377, ab_nx 378 (ab_lit (.int 2))),
  (378, ab_nx 379 (ab_bin (fun x y => x + y))),
  (379, ab_nx 380 (ab_sld xs n)),
  (380, ab_nx 381 (ab_aload 0)),
  (381, ab_nx 383 (ab_iload 4)),
  (383, ab_nx 384 (ab_lit (.int 3))),
  (384, ab_nx 385 (ab_bin (fun x y => x + y))),
  (385, ab_nx 386 (ab_sld xs n)),
  (386, ab_nx 389 (ab_callV 4 11 f_X11_good 0 0 601024 7293034)),
  (389, ab_nx 390 ab_pop),
  (390, ab_goto 1440),
  (393, ab_nx 394 (ab_aload 1)),
  (394, ab_nx 395 (ab_aload 0)),
  (395, ab_nx 397 (ab_iload 4)),
  (397, ab_nx 398 (ab_lit (.int 1))),
  (398, ab_nx 399 (ab_bin (fun x y => x + y))),
  (399, ab_nx 400 (ab_sld xs n)),
  (400, ab_nx 401 (ab_aload 0)),
  (401, ab_nx 403 (ab_iload 4)),
  (403, ab_nx 404 (ab_lit (.int 2))),
  (404, ab_nx 405 (ab_bin (fun x y => x + y))),
  (405, ab_nx 406 (ab_sld xs n)),
  (406, ab_nx 409 (ab_callV 3 10 f_X10_crossed 0 0 601024 7293034)),
  (409, ab_nx 410 ab_pop),
  (410, ab_nx 411 (ab_aload 2)),
  (411, ab_nx 412 (ab_aload 0)),
  (412, ab_nx 414 (ab_iload 4)),
  (414, ab_nx 415 (ab_lit (.int 1))),
  (415, ab_nx 416 (ab_bin (fun x y => x + y))),
  (416, ab_nx 417 (ab_sld xs n)),
  (417, ab_nx 418 (ab_aload 0)),
  (418, ab_nx 420 (ab_iload 4)),
  (420, ab_nx 421 (ab_lit (.int 2))),
  (421, ab_nx 422 (ab_bin (fun x y => x + y))),
  (422, ab_nx 423 (ab_sld xs n)),
  (423, ab_nx 426 (ab_callV 3 11 f_X11_crossed 0 0 601024 7293034)),
  (426, ab_nx 427 ab_pop),
  (427, ab_goto 1440),
  (430, ab_nx 431 (ab_aload 1)),
  (431, ab_nx 432 (ab_aload 0)),
  (432, ab_nx 434 (ab_iload 4))]
set_option maxRecDepth 100000 in
theorem dq53_2 : ([(304, .aload_n 2, 1), (305, .aload_n 0, 1), (306, .iload 4, 2), (308, .iconst 1, 1), (309, .iadd, 1), (310, .iaload, 1), (311, .invokevirtual 28, 3), (314, .pop, 1), (315, .goto 1125, 3), (318, .aload_n 1, 1), (319, .invokevirtual 29, 3), (322, .pop, 1), (323, .aload_n 2, 1), (324, .invokevirtual 33, 3), (327, .pop, 1), (328, .goto 1112, 3), (331, .aload_n 1, 1), (332, .invokevirtual 34, 3), (335, .pop, 1), (336, .aload_n 2, 1), (337, .invokevirtual 37, 3), (340, .pop, 1), (341, .goto 1099, 3), (344, .aload_n 1, 1), (345, .aload_n 0, 1), (346, .iload 4, 2), (348, .iconst 1, 1), (349, .iadd, 1), (350, .iaload, 1), (351, .aload_n 0, 1), (352, .iload 4, 2), (354, .iconst 2, 1), (355, .iadd, 1), (356, .iaload, 1), (357, .aload_n 0, 1), (358, .iload 4, 2), (360, .iconst 3, 1), (361, .iadd, 1), (362, .iaload, 1), (363, .invokevirtual 38, 3), (366, .pop, 1), (367, .aload_n 2, 1), (368, .aload_n 0, 1), (369, .iload 4, 2), (371, .iconst 1, 1), (372, .iadd, 1), (373, .iaload, 1), (374, .aload_n 0, 1)] : List (Nat × Instr × Nat)).all (fun q => decide (decode cL_law q.1 = .ok q.2)) = true := by decide +kernel
set_option maxRecDepth 100000 in
theorem dq53_3 : ([(375, .iload 4, 2), (377, .iconst 2, 1), (378, .iadd, 1), (379, .iaload, 1), (380, .aload_n 0, 1), (381, .iload 4, 2), (383, .iconst 3, 1), (384, .iadd, 1), (385, .iaload, 1), (386, .invokevirtual 42, 3), (389, .pop, 1), (390, .goto 1050, 3), (393, .aload_n 1, 1), (394, .aload_n 0, 1), (395, .iload 4, 2), (397, .iconst 1, 1), (398, .iadd, 1), (399, .iaload, 1), (400, .aload_n 0, 1), (401, .iload 4, 2), (403, .iconst 2, 1), (404, .iadd, 1), (405, .iaload, 1), (406, .invokevirtual 43, 3), (409, .pop, 1), (410, .aload_n 2, 1), (411, .aload_n 0, 1), (412, .iload 4, 2), (414, .iconst 1, 1), (415, .iadd, 1), (416, .iaload, 1), (417, .aload_n 0, 1), (418, .iload 4, 2), (420, .iconst 2, 1), (421, .iadd, 1), (422, .iaload, 1), (423, .invokevirtual 46, 3), (426, .pop, 1), (427, .goto 1013, 3), (430, .aload_n 1, 1), (431, .aload_n 0, 1), (432, .iload 4, 2)] : List (Nat × Instr × Nat)).all (fun q => decide (decode cL_law q.1 = .ok q.2)) = true := by decide +kernel
set_option maxRecDepth 100000 in
set_option maxHeartbeats 4000000 in
theorem law_1 {p : Program} {l : Launch} {e : Env} {s : State} {m : MethodId} {below : List Frame} {meth : Method} {c : Code} {cd : Cond} {b : ab_B} {D : va_G} {cA : Nat → ClassId} {o : ab_O} {xs : Nat → Int32} {n bb : Nat} {nm : String} (C : ab_cx p l e room_1 s m #[Value.ref bb] below meth c D ab_cl cA (ab_E0 b) (⟨RL, nm, "([I)Z"⟩ : MethodName) cL_law 7 ret (cd :: ab_G) room_1) (hX : va_X bb n xs s s.heap) (hb0 : b.2 0 = bb) (hb1 : b.1 = s.heap.size ∧ bb < s.heap.size) {f_X11_end : List Value → ab_H → Option ab_O} (h_X11_end : ab_M l b D ab_cl cA (ab_E0 b) yX11_end (Cond.code yX11_end cX11_end 2 (some .boolean) :: ab_G) ({ frames := 1, cells := 0, slots := 0, locals := 100 } : Room) f_X11_end) {f_X10_strait : List Value → ab_H → Option ab_O} (h_X10_strait : ab_M l b D ab_cl cA (ab_E0 b) yX10_strait (Cond.code yX10_strait cX10_strait 3 (some .int) :: ab_G) ({ frames := 10, cells := 0, slots := 0, locals := 1000 } : Room) f_X10_strait) {f_X11_strait : List Value → ab_H → Option ab_O} (h_X11_strait : ab_M l b D ab_cl cA (ab_E0 b) yX11_strait (Cond.code yX11_strait cX11_strait 2 (some .int) :: ab_G) ({ frames := 7, cells := 0, slots := 0, locals := 700 } : Room) f_X11_strait) {f_X10_fault : List Value → ab_H → Option ab_O} (h_X10_fault : ab_M l b D ab_cl cA (ab_E0 b) yX10_fault (Cond.code yX10_fault cX10_fault 1 (some .int) :: ab_G) ({ frames := 1, cells := 0, slots := 0, locals := 100 } : Room) f_X10_fault) {f_X11_fault : List Value → ab_H → Option ab_O} (h_X11_fault : ab_M l b D ab_cl cA (ab_E0 b) yX11_fault (Cond.code yX11_fault cX11_fault 1 (some .int) :: ab_G) ({ frames := 1, cells := 0, slots := 0, locals := 100 } : Room) f_X11_fault) {f_X10_good : List Value → ab_H → Option ab_O} (h_X10_good : ab_M l b D ab_cl cA (ab_E0 b) yX10_good (Cond.code yX10_good cX10_good 5 (some .int) :: ab_G) ({ frames := 3, cells := 0, slots := 0, locals := 300 } : Room) f_X10_good) {f_X11_good : List Value → ab_H → Option ab_O} (h_X11_good : ab_M l b D ab_cl cA (ab_E0 b) yX11_good (Cond.code yX11_good cX11_good 5 (some .int) :: ab_G) ({ frames := 4, cells := 0, slots := 0, locals := 400 } : Room) f_X11_good) {f_X10_crossed : List Value → ab_H → Option ab_O} (h_X10_crossed : ab_M l b D ab_cl cA (ab_E0 b) yX10_crossed (Cond.code yX10_crossed cX10_crossed 3 (some .int) :: ab_G) ({ frames := 3, cells := 0, slots := 0, locals := 300 } : Room) f_X10_crossed) {f_X11_crossed : List Value → ab_H → Option ab_O} (h_X11_crossed : ab_M l b D ab_cl cA (ab_E0 b) yX11_crossed (Cond.code yX11_crossed cX11_crossed 3 (some .int) :: ab_G) ({ frames := 4, cells := 0, slots := 0, locals := 400 } : Room) f_X11_crossed) : ∀ q ∈ L_law_1 xs n f_X11_end f_X10_strait f_X11_strait f_X10_fault f_X11_fault f_X10_good f_X11_good f_X10_crossed f_X11_crossed, ab_ok p l e room_1 s m #[Value.ref bb] below meth c (lw_Z below #[Value.ref bb] s) b D ab_cl cA 7 o (fun i => i) q.1 q.2 := by
  unfold L_law_1
  refine List.forall_mem_cons.mpr ⟨ok_aload_n C (show decode cL_law 304 = .ok (.aload_n 2, 1) from dk_at dq53_2 (i := 0) rfl) rfl rfl, ?_⟩
  refine List.forall_mem_cons.mpr ⟨ok_aload_n C (show decode cL_law 305 = .ok (.aload_n 0, 1) from dk_at dq53_2 (i := 1) rfl) rfl rfl, ?_⟩
  refine List.forall_mem_cons.mpr ⟨ok_iload C (show decode cL_law 306 = .ok (.iload 4, 2) from dk_at dq53_2 (i := 2) rfl) rfl, ?_⟩
  refine List.forall_mem_cons.mpr ⟨ok_iconst C (show decode cL_law 308 = .ok (.iconst 1, 1) from dk_at dq53_2 (i := 3) rfl) (by decide) rfl, ?_⟩
  refine List.forall_mem_cons.mpr ⟨ok_iadd C (show decode cL_law 309 = .ok (.iadd, 1) from dk_at dq53_2 (i := 4) rfl) rfl, ?_⟩
  refine List.forall_mem_cons.mpr ⟨ok_sld C hX hb0 hb1 (show decode cL_law 310 = .ok (.iaload, 1) from dk_at dq53_2 (i := 5) rfl) rfl, ?_⟩
  refine List.forall_mem_cons.mpr ⟨ok_callV C h_X11_end ⟨rfl, rfl⟩ rfl kw_1149 kw_1146 kw_1147 kw_1148 kw_11 rfl ds_X11_end ⟨by decide, by decide⟩ (show decode cL_law 311 = .ok (.invokevirtual 28, 3) from dk_at dq53_2 (i := 6) rfl) rfl, ?_⟩
  refine List.forall_mem_cons.mpr ⟨ok_pop C (show decode cL_law 314 = .ok (.pop, 1) from dk_at dq53_2 (i := 7) rfl) rfl, ?_⟩
  refine List.forall_mem_cons.mpr ⟨ok_goto C (show decode cL_law 315 = .ok (.goto 1125, 3) from dk_at dq53_2 (i := 8) rfl) (tg := 1440) (by decide) rfl, ?_⟩
  refine List.forall_mem_cons.mpr ⟨ok_aload_n C (show decode cL_law 318 = .ok (.aload_n 1, 1) from dk_at dq53_2 (i := 9) rfl) rfl rfl, ?_⟩
  refine List.forall_mem_cons.mpr ⟨ok_callV C h_X10_strait ⟨rfl, rfl⟩ rfl kw_388 kw_385 kw_386 kw_387 kw_1 rfl ds_X10_strait ⟨by decide, by decide⟩ (show decode cL_law 319 = .ok (.invokevirtual 29, 3) from dk_at dq53_2 (i := 10) rfl) rfl, ?_⟩
  refine List.forall_mem_cons.mpr ⟨ok_pop C (show decode cL_law 322 = .ok (.pop, 1) from dk_at dq53_2 (i := 11) rfl) rfl, ?_⟩
  refine List.forall_mem_cons.mpr ⟨ok_aload_n C (show decode cL_law 323 = .ok (.aload_n 2, 1) from dk_at dq53_2 (i := 12) rfl) rfl rfl, ?_⟩
  refine List.forall_mem_cons.mpr ⟨ok_callV C h_X11_strait ⟨rfl, rfl⟩ rfl kw_1314 kw_1311 kw_1312 kw_1313 kw_11 rfl ds_X11_strait ⟨by decide, by decide⟩ (show decode cL_law 324 = .ok (.invokevirtual 33, 3) from dk_at dq53_2 (i := 13) rfl) rfl, ?_⟩
  refine List.forall_mem_cons.mpr ⟨ok_pop C (show decode cL_law 327 = .ok (.pop, 1) from dk_at dq53_2 (i := 14) rfl) rfl, ?_⟩
  refine List.forall_mem_cons.mpr ⟨ok_goto C (show decode cL_law 328 = .ok (.goto 1112, 3) from dk_at dq53_2 (i := 15) rfl) (tg := 1440) (by decide) rfl, ?_⟩
  refine List.forall_mem_cons.mpr ⟨ok_aload_n C (show decode cL_law 331 = .ok (.aload_n 1, 1) from dk_at dq53_2 (i := 16) rfl) rfl rfl, ?_⟩
  refine List.forall_mem_cons.mpr ⟨ok_callV C h_X10_fault ⟨rfl, rfl⟩ rfl kw_584 kw_581 kw_582 kw_583 kw_1 rfl ds_X10_fault ⟨by decide, by decide⟩ (show decode cL_law 332 = .ok (.invokevirtual 34, 3) from dk_at dq53_2 (i := 17) rfl) rfl, ?_⟩
  refine List.forall_mem_cons.mpr ⟨ok_pop C (show decode cL_law 335 = .ok (.pop, 1) from dk_at dq53_2 (i := 18) rfl) rfl, ?_⟩
  refine List.forall_mem_cons.mpr ⟨ok_aload_n C (show decode cL_law 336 = .ok (.aload_n 2, 1) from dk_at dq53_2 (i := 19) rfl) rfl rfl, ?_⟩
  refine List.forall_mem_cons.mpr ⟨ok_callV C h_X11_fault ⟨rfl, rfl⟩ rfl kw_1394 kw_1391 kw_1392 kw_1393 kw_11 rfl ds_X11_fault ⟨by decide, by decide⟩ (show decode cL_law 337 = .ok (.invokevirtual 37, 3) from dk_at dq53_2 (i := 20) rfl) rfl, ?_⟩
  refine List.forall_mem_cons.mpr ⟨ok_pop C (show decode cL_law 340 = .ok (.pop, 1) from dk_at dq53_2 (i := 21) rfl) rfl, ?_⟩
  refine List.forall_mem_cons.mpr ⟨ok_goto C (show decode cL_law 341 = .ok (.goto 1099, 3) from dk_at dq53_2 (i := 22) rfl) (tg := 1440) (by decide) rfl, ?_⟩
  refine List.forall_mem_cons.mpr ⟨ok_aload_n C (show decode cL_law 344 = .ok (.aload_n 1, 1) from dk_at dq53_2 (i := 23) rfl) rfl rfl, ?_⟩
  refine List.forall_mem_cons.mpr ⟨ok_aload_n C (show decode cL_law 345 = .ok (.aload_n 0, 1) from dk_at dq53_2 (i := 24) rfl) rfl rfl, ?_⟩
  refine List.forall_mem_cons.mpr ⟨ok_iload C (show decode cL_law 346 = .ok (.iload 4, 2) from dk_at dq53_2 (i := 25) rfl) rfl, ?_⟩
  refine List.forall_mem_cons.mpr ⟨ok_iconst C (show decode cL_law 348 = .ok (.iconst 1, 1) from dk_at dq53_2 (i := 26) rfl) (by decide) rfl, ?_⟩
  refine List.forall_mem_cons.mpr ⟨ok_iadd C (show decode cL_law 349 = .ok (.iadd, 1) from dk_at dq53_2 (i := 27) rfl) rfl, ?_⟩
  refine List.forall_mem_cons.mpr ⟨ok_sld C hX hb0 hb1 (show decode cL_law 350 = .ok (.iaload, 1) from dk_at dq53_2 (i := 28) rfl) rfl, ?_⟩
  refine List.forall_mem_cons.mpr ⟨ok_aload_n C (show decode cL_law 351 = .ok (.aload_n 0, 1) from dk_at dq53_2 (i := 29) rfl) rfl rfl, ?_⟩
  refine List.forall_mem_cons.mpr ⟨ok_iload C (show decode cL_law 352 = .ok (.iload 4, 2) from dk_at dq53_2 (i := 30) rfl) rfl, ?_⟩
  refine List.forall_mem_cons.mpr ⟨ok_iconst C (show decode cL_law 354 = .ok (.iconst 2, 1) from dk_at dq53_2 (i := 31) rfl) (by decide) rfl, ?_⟩
  refine List.forall_mem_cons.mpr ⟨ok_iadd C (show decode cL_law 355 = .ok (.iadd, 1) from dk_at dq53_2 (i := 32) rfl) rfl, ?_⟩
  refine List.forall_mem_cons.mpr ⟨ok_sld C hX hb0 hb1 (show decode cL_law 356 = .ok (.iaload, 1) from dk_at dq53_2 (i := 33) rfl) rfl, ?_⟩
  refine List.forall_mem_cons.mpr ⟨ok_aload_n C (show decode cL_law 357 = .ok (.aload_n 0, 1) from dk_at dq53_2 (i := 34) rfl) rfl rfl, ?_⟩
  refine List.forall_mem_cons.mpr ⟨ok_iload C (show decode cL_law 358 = .ok (.iload 4, 2) from dk_at dq53_2 (i := 35) rfl) rfl, ?_⟩
  refine List.forall_mem_cons.mpr ⟨ok_iconst C (show decode cL_law 360 = .ok (.iconst 3, 1) from dk_at dq53_2 (i := 36) rfl) (by decide) rfl, ?_⟩
  refine List.forall_mem_cons.mpr ⟨ok_iadd C (show decode cL_law 361 = .ok (.iadd, 1) from dk_at dq53_2 (i := 37) rfl) rfl, ?_⟩
  refine List.forall_mem_cons.mpr ⟨ok_sld C hX hb0 hb1 (show decode cL_law 362 = .ok (.iaload, 1) from dk_at dq53_2 (i := 38) rfl) rfl, ?_⟩
  refine List.forall_mem_cons.mpr ⟨ok_callV C h_X10_good ⟨rfl, rfl⟩ rfl kw_588 kw_585 kw_586 kw_587 kw_1 rfl ds_X10_good ⟨by decide, by decide⟩ (show decode cL_law 363 = .ok (.invokevirtual 38, 3) from dk_at dq53_2 (i := 39) rfl) rfl, ?_⟩
  refine List.forall_mem_cons.mpr ⟨ok_pop C (show decode cL_law 366 = .ok (.pop, 1) from dk_at dq53_2 (i := 40) rfl) rfl, ?_⟩
  refine List.forall_mem_cons.mpr ⟨ok_aload_n C (show decode cL_law 367 = .ok (.aload_n 2, 1) from dk_at dq53_2 (i := 41) rfl) rfl rfl, ?_⟩
  refine List.forall_mem_cons.mpr ⟨ok_aload_n C (show decode cL_law 368 = .ok (.aload_n 0, 1) from dk_at dq53_2 (i := 42) rfl) rfl rfl, ?_⟩
  refine List.forall_mem_cons.mpr ⟨ok_iload C (show decode cL_law 369 = .ok (.iload 4, 2) from dk_at dq53_2 (i := 43) rfl) rfl, ?_⟩
  refine List.forall_mem_cons.mpr ⟨ok_iconst C (show decode cL_law 371 = .ok (.iconst 1, 1) from dk_at dq53_2 (i := 44) rfl) (by decide) rfl, ?_⟩
  refine List.forall_mem_cons.mpr ⟨ok_iadd C (show decode cL_law 372 = .ok (.iadd, 1) from dk_at dq53_2 (i := 45) rfl) rfl, ?_⟩
  refine List.forall_mem_cons.mpr ⟨ok_sld C hX hb0 hb1 (show decode cL_law 373 = .ok (.iaload, 1) from dk_at dq53_2 (i := 46) rfl) rfl, ?_⟩
  refine List.forall_mem_cons.mpr ⟨ok_aload_n C (show decode cL_law 374 = .ok (.aload_n 0, 1) from dk_at dq53_2 (i := 47) rfl) rfl rfl, ?_⟩
  refine List.forall_mem_cons.mpr ⟨ok_iload C (show decode cL_law 375 = .ok (.iload 4, 2) from dk_at dq53_3 (i := 0) rfl) rfl, ?_⟩
  refine List.forall_mem_cons.mpr ⟨ok_iconst C (show decode cL_law 377 = .ok (.iconst 2, 1) from dk_at dq53_3 (i := 1) rfl) (by decide) rfl, ?_⟩
  refine List.forall_mem_cons.mpr ⟨ok_iadd C (show decode cL_law 378 = .ok (.iadd, 1) from dk_at dq53_3 (i := 2) rfl) rfl, ?_⟩
  refine List.forall_mem_cons.mpr ⟨ok_sld C hX hb0 hb1 (show decode cL_law 379 = .ok (.iaload, 1) from dk_at dq53_3 (i := 3) rfl) rfl, ?_⟩
  refine List.forall_mem_cons.mpr ⟨ok_aload_n C (show decode cL_law 380 = .ok (.aload_n 0, 1) from dk_at dq53_3 (i := 4) rfl) rfl rfl, ?_⟩
  refine List.forall_mem_cons.mpr ⟨ok_iload C (show decode cL_law 381 = .ok (.iload 4, 2) from dk_at dq53_3 (i := 5) rfl) rfl, ?_⟩
  refine List.forall_mem_cons.mpr ⟨ok_iconst C (show decode cL_law 383 = .ok (.iconst 3, 1) from dk_at dq53_3 (i := 6) rfl) (by decide) rfl, ?_⟩
  refine List.forall_mem_cons.mpr ⟨ok_iadd C (show decode cL_law 384 = .ok (.iadd, 1) from dk_at dq53_3 (i := 7) rfl) rfl, ?_⟩
  refine List.forall_mem_cons.mpr ⟨ok_sld C hX hb0 hb1 (show decode cL_law 385 = .ok (.iaload, 1) from dk_at dq53_3 (i := 8) rfl) rfl, ?_⟩
  refine List.forall_mem_cons.mpr ⟨ok_callV C h_X11_good ⟨rfl, rfl⟩ rfl kw_1398 kw_1395 kw_1396 kw_1397 kw_11 rfl ds_X11_good ⟨by decide, by decide⟩ (show decode cL_law 386 = .ok (.invokevirtual 42, 3) from dk_at dq53_3 (i := 9) rfl) rfl, ?_⟩
  refine List.forall_mem_cons.mpr ⟨ok_pop C (show decode cL_law 389 = .ok (.pop, 1) from dk_at dq53_3 (i := 10) rfl) rfl, ?_⟩
  refine List.forall_mem_cons.mpr ⟨ok_goto C (show decode cL_law 390 = .ok (.goto 1050, 3) from dk_at dq53_3 (i := 11) rfl) (tg := 1440) (by decide) rfl, ?_⟩
  refine List.forall_mem_cons.mpr ⟨ok_aload_n C (show decode cL_law 393 = .ok (.aload_n 1, 1) from dk_at dq53_3 (i := 12) rfl) rfl rfl, ?_⟩
  refine List.forall_mem_cons.mpr ⟨ok_aload_n C (show decode cL_law 394 = .ok (.aload_n 0, 1) from dk_at dq53_3 (i := 13) rfl) rfl rfl, ?_⟩
  refine List.forall_mem_cons.mpr ⟨ok_iload C (show decode cL_law 395 = .ok (.iload 4, 2) from dk_at dq53_3 (i := 14) rfl) rfl, ?_⟩
  refine List.forall_mem_cons.mpr ⟨ok_iconst C (show decode cL_law 397 = .ok (.iconst 1, 1) from dk_at dq53_3 (i := 15) rfl) (by decide) rfl, ?_⟩
  refine List.forall_mem_cons.mpr ⟨ok_iadd C (show decode cL_law 398 = .ok (.iadd, 1) from dk_at dq53_3 (i := 16) rfl) rfl, ?_⟩
  refine List.forall_mem_cons.mpr ⟨ok_sld C hX hb0 hb1 (show decode cL_law 399 = .ok (.iaload, 1) from dk_at dq53_3 (i := 17) rfl) rfl, ?_⟩
  refine List.forall_mem_cons.mpr ⟨ok_aload_n C (show decode cL_law 400 = .ok (.aload_n 0, 1) from dk_at dq53_3 (i := 18) rfl) rfl rfl, ?_⟩
  refine List.forall_mem_cons.mpr ⟨ok_iload C (show decode cL_law 401 = .ok (.iload 4, 2) from dk_at dq53_3 (i := 19) rfl) rfl, ?_⟩
  refine List.forall_mem_cons.mpr ⟨ok_iconst C (show decode cL_law 403 = .ok (.iconst 2, 1) from dk_at dq53_3 (i := 20) rfl) (by decide) rfl, ?_⟩
  refine List.forall_mem_cons.mpr ⟨ok_iadd C (show decode cL_law 404 = .ok (.iadd, 1) from dk_at dq53_3 (i := 21) rfl) rfl, ?_⟩
  refine List.forall_mem_cons.mpr ⟨ok_sld C hX hb0 hb1 (show decode cL_law 405 = .ok (.iaload, 1) from dk_at dq53_3 (i := 22) rfl) rfl, ?_⟩
  refine List.forall_mem_cons.mpr ⟨ok_callV C h_X10_crossed ⟨rfl, rfl⟩ rfl kw_616 kw_613 kw_614 kw_615 kw_1 rfl ds_X10_crossed ⟨by decide, by decide⟩ (show decode cL_law 406 = .ok (.invokevirtual 43, 3) from dk_at dq53_3 (i := 23) rfl) rfl, ?_⟩
  refine List.forall_mem_cons.mpr ⟨ok_pop C (show decode cL_law 409 = .ok (.pop, 1) from dk_at dq53_3 (i := 24) rfl) rfl, ?_⟩
  refine List.forall_mem_cons.mpr ⟨ok_aload_n C (show decode cL_law 410 = .ok (.aload_n 2, 1) from dk_at dq53_3 (i := 25) rfl) rfl rfl, ?_⟩
  refine List.forall_mem_cons.mpr ⟨ok_aload_n C (show decode cL_law 411 = .ok (.aload_n 0, 1) from dk_at dq53_3 (i := 26) rfl) rfl rfl, ?_⟩
  refine List.forall_mem_cons.mpr ⟨ok_iload C (show decode cL_law 412 = .ok (.iload 4, 2) from dk_at dq53_3 (i := 27) rfl) rfl, ?_⟩
  refine List.forall_mem_cons.mpr ⟨ok_iconst C (show decode cL_law 414 = .ok (.iconst 1, 1) from dk_at dq53_3 (i := 28) rfl) (by decide) rfl, ?_⟩
  refine List.forall_mem_cons.mpr ⟨ok_iadd C (show decode cL_law 415 = .ok (.iadd, 1) from dk_at dq53_3 (i := 29) rfl) rfl, ?_⟩
  refine List.forall_mem_cons.mpr ⟨ok_sld C hX hb0 hb1 (show decode cL_law 416 = .ok (.iaload, 1) from dk_at dq53_3 (i := 30) rfl) rfl, ?_⟩
  refine List.forall_mem_cons.mpr ⟨ok_aload_n C (show decode cL_law 417 = .ok (.aload_n 0, 1) from dk_at dq53_3 (i := 31) rfl) rfl rfl, ?_⟩
  refine List.forall_mem_cons.mpr ⟨ok_iload C (show decode cL_law 418 = .ok (.iload 4, 2) from dk_at dq53_3 (i := 32) rfl) rfl, ?_⟩
  refine List.forall_mem_cons.mpr ⟨ok_iconst C (show decode cL_law 420 = .ok (.iconst 2, 1) from dk_at dq53_3 (i := 33) rfl) (by decide) rfl, ?_⟩
  refine List.forall_mem_cons.mpr ⟨ok_iadd C (show decode cL_law 421 = .ok (.iadd, 1) from dk_at dq53_3 (i := 34) rfl) rfl, ?_⟩
  refine List.forall_mem_cons.mpr ⟨ok_sld C hX hb0 hb1 (show decode cL_law 422 = .ok (.iaload, 1) from dk_at dq53_3 (i := 35) rfl) rfl, ?_⟩
  refine List.forall_mem_cons.mpr ⟨ok_callV C h_X11_crossed ⟨rfl, rfl⟩ rfl kw_1425 kw_1422 kw_1423 kw_1424 kw_11 rfl ds_X11_crossed ⟨by decide, by decide⟩ (show decode cL_law 423 = .ok (.invokevirtual 46, 3) from dk_at dq53_3 (i := 36) rfl) rfl, ?_⟩
  refine List.forall_mem_cons.mpr ⟨ok_pop C (show decode cL_law 426 = .ok (.pop, 1) from dk_at dq53_3 (i := 37) rfl) rfl, ?_⟩
  refine List.forall_mem_cons.mpr ⟨ok_goto C (show decode cL_law 427 = .ok (.goto 1013, 3) from dk_at dq53_3 (i := 38) rfl) (tg := 1440) (by decide) rfl, ?_⟩
  refine List.forall_mem_cons.mpr ⟨ok_aload_n C (show decode cL_law 430 = .ok (.aload_n 1, 1) from dk_at dq53_3 (i := 39) rfl) rfl rfl, ?_⟩
  refine List.forall_mem_cons.mpr ⟨ok_aload_n C (show decode cL_law 431 = .ok (.aload_n 0, 1) from dk_at dq53_3 (i := 40) rfl) rfl rfl, ?_⟩
  refine List.forall_mem_cons.mpr ⟨ok_iload C (show decode cL_law 432 = .ok (.iload 4, 2) from dk_at dq53_3 (i := 41) rfl) rfl, ?_⟩
  exact fun _ h => absurd h List.not_mem_nil
def L_law_2 (xs : Nat → Int32) (n : Nat) (f_L_man : List Value → ab_H → Option ab_O) (f_X11_man : List Value → ab_H → Option ab_O) (f_X10_apart : List Value → ab_H → Option ab_O) (f_X11_apart : List Value → ab_H → Option ab_O) (f_X10_now : List Value → ab_H → Option ab_O) (f_X11_now : List Value → ab_H → Option ab_O) (f_X10_hoard : List Value → ab_H → Option ab_O) : List (Nat × ab_A) := [
  (434, ab_nx 435 (ab_lit (.int 1))),
  (435, ab_nx 436 (ab_bin (fun x y => x + y))),
  (436, ab_nx 437 (ab_sld xs n)),
  (437, ab_nx 438 (ab_aload 0)),
  (438, ab_nx 440 (ab_iload 4)),
  (440, ab_nx 441 (ab_lit (.int 2))),
  (441, ab_nx 442 (ab_bin (fun x y => x + y))),
  (442, ab_nx 443 (ab_sld xs n)),
  (443, ab_nx 444 (ab_aload 3)),
  (444, ab_nx 447 (ab_call 4 f_L_man 1 6 601024 7293034)),
  (447, ab_nx 449 (ab_istore 5)),
  (449, ab_nx 450 (ab_aload 2)),
  (450, ab_nx 451 (ab_aload 0)),
  (451, ab_nx 453 (ab_iload 4)),
  (453, ab_nx 454 (ab_lit (.int 1))),
  (454, ab_nx 455 (ab_bin (fun x y => x + y))),
  (455, ab_nx 456 (ab_sld xs n)),
  (456, ab_nx 457 (ab_aload 0)),
  (457, ab_nx 459 (ab_iload 4)),
  (459, ab_nx 460 (ab_lit (.int 2))),
  (460, ab_nx 461 (ab_bin (fun x y => x + y))),
  (461, ab_nx 462 (ab_sld xs n)),
  (462, ab_nx 465 (ab_callV 3 11 f_X11_man 0 0 601024 7293034)),
  (465, ab_nx 467 (ab_istore 6)),
  (467, ab_goto 1440),
  (470, ab_nx 471 (ab_aload 1)),
  (471, ab_nx 472 (ab_aload 0)),
  (472, ab_nx 474 (ab_iload 4)),
  (474, ab_nx 475 (ab_lit (.int 1))),
  (475, ab_nx 476 (ab_bin (fun x y => x + y))),
  (476, ab_nx 477 (ab_sld xs n)),
  (477, ab_nx 478 (ab_aload 0)),
  (478, ab_nx 480 (ab_iload 4)),
  (480, ab_nx 481 (ab_lit (.int 2))),
  (481, ab_nx 482 (ab_bin (fun x y => x + y))),
  (482, ab_nx 483 (ab_sld xs n)),
  (483, ab_nx 486 (ab_callV 3 10 f_X10_apart 0 0 601024 7293034)),
  (486, ab_nx 487 ab_pop),
  (487, ab_nx 488 (ab_aload 2)),
  (488, ab_nx 489 (ab_aload 0)),
  (489, ab_nx 491 (ab_iload 4)),
  (491, ab_nx 492 (ab_lit (.int 1))),
  (492, ab_nx 493 (ab_bin (fun x y => x + y))),
  (493, ab_nx 494 (ab_sld xs n)),
  (494, ab_nx 495 (ab_aload 0)),
  (495, ab_nx 497 (ab_iload 4)),
  (497, ab_nx 498 (ab_lit (.int 2))),
  (498, ab_nx 499 (ab_bin (fun x y => x + y))),
  (499, ab_nx 500 (ab_sld xs n)),
  (500, ab_nx 503 (ab_callV 3 11 f_X11_apart 0 0 601024 7293034)),
  (503, ab_nx 504 ab_pop),
  (504, ab_goto 1440),
  (507, ab_nx 508 (ab_aload 1)),
  (508, ab_nx 509 (ab_aload 0)),
  (509, ab_nx 511 (ab_iload 4)),
  (511, ab_nx 512 (ab_lit (.int 1))),
  (512, ab_nx 513 (ab_bin (fun x y => x + y))),
  (513, ab_nx 514 (ab_sld xs n)),
  (514, ab_nx 517 (ab_callV 2 10 f_X10_now 0 0 601024 7293034)),
  (517, ab_nx 518 ab_pop),
  (518, ab_nx 519 (ab_aload 2)),
  (519, ab_nx 520 (ab_aload 0)),
  (520, ab_nx 522 (ab_iload 4)),
  (522, ab_nx 523 (ab_lit (.int 1))),
  (523, ab_nx 524 (ab_bin (fun x y => x + y))),
  (524, ab_nx 525 (ab_sld xs n)),
  (525, ab_nx 528 (ab_callV 2 11 f_X11_now 0 0 601024 7293034)),
  (528, ab_nx 529 ab_pop),
  (529, ab_goto 1440),
  (532, ab_nx 533 (ab_aload 1)),
  (533, ab_nx 534 (ab_aload 0)),
  (534, ab_nx 536 (ab_iload 4)),
  (536, ab_nx 537 (ab_lit (.int 1))),
  (537, ab_nx 538 (ab_bin (fun x y => x + y))),
  (538, ab_nx 539 (ab_sld xs n)),
  (539, ab_nx 540 (ab_aload 0)),
  (540, ab_nx 542 (ab_iload 4)),
  (542, ab_nx 543 (ab_lit (.int 2))),
  (543, ab_nx 544 (ab_bin (fun x y => x + y))),
  (544, ab_nx 545 (ab_sld xs n)),
  (545, ab_nx 546 (ab_aload 0)),
  (546, ab_nx 548 (ab_iload 4)),
  (548, ab_nx 549 (ab_lit (.int 3))),
  (549, ab_nx 550 (ab_bin (fun x y => x + y))),
  (550, ab_nx 551 (ab_sld xs n)),
  (551, ab_nx 554 (ab_callV 4 10 f_X10_hoard 8 138 601024 7293034)),
  (554, ab_nx 555 ab_pop),
  (555, ab_nx 556 (ab_aload 2)),
  (556, ab_nx 557 (ab_aload 0)),
  (557, ab_nx 559 (ab_iload 4))]
set_option maxRecDepth 100000 in
theorem dq53_4 : ([(434, .iconst 1, 1), (435, .iadd, 1), (436, .iaload, 1), (437, .aload_n 0, 1), (438, .iload 4, 2), (440, .iconst 2, 1), (441, .iadd, 1), (442, .iaload, 1), (443, .aload_n 3, 1), (444, .invokestatic 47, 3), (447, .istore 5, 2), (449, .aload_n 2, 1), (450, .aload_n 0, 1), (451, .iload 4, 2), (453, .iconst 1, 1), (454, .iadd, 1), (455, .iaload, 1), (456, .aload_n 0, 1), (457, .iload 4, 2), (459, .iconst 2, 1), (460, .iadd, 1), (461, .iaload, 1), (462, .invokevirtual 52, 3), (465, .istore 6, 2), (467, .goto 973, 3), (470, .aload_n 1, 1), (471, .aload_n 0, 1), (472, .iload 4, 2), (474, .iconst 1, 1), (475, .iadd, 1), (476, .iaload, 1), (477, .aload_n 0, 1), (478, .iload 4, 2), (480, .iconst 2, 1), (481, .iadd, 1), (482, .iaload, 1), (483, .invokevirtual 53, 3), (486, .pop, 1), (487, .aload_n 2, 1), (488, .aload_n 0, 1), (489, .iload 4, 2), (491, .iconst 1, 1), (492, .iadd, 1), (493, .iaload, 1), (494, .aload_n 0, 1), (495, .iload 4, 2), (497, .iconst 2, 1), (498, .iadd, 1)] : List (Nat × Instr × Nat)).all (fun q => decide (decode cL_law q.1 = .ok q.2)) = true := by decide +kernel
set_option maxRecDepth 100000 in
theorem dq53_5 : ([(499, .iaload, 1), (500, .invokevirtual 56, 3), (503, .pop, 1), (504, .goto 936, 3), (507, .aload_n 1, 1), (508, .aload_n 0, 1), (509, .iload 4, 2), (511, .iconst 1, 1), (512, .iadd, 1), (513, .iaload, 1), (514, .invokevirtual 57, 3), (517, .pop, 1), (518, .aload_n 2, 1), (519, .aload_n 0, 1), (520, .iload 4, 2), (522, .iconst 1, 1), (523, .iadd, 1), (524, .iaload, 1), (525, .invokevirtual 61, 3), (528, .pop, 1), (529, .goto 911, 3), (532, .aload_n 1, 1), (533, .aload_n 0, 1), (534, .iload 4, 2), (536, .iconst 1, 1), (537, .iadd, 1), (538, .iaload, 1), (539, .aload_n 0, 1), (540, .iload 4, 2), (542, .iconst 2, 1), (543, .iadd, 1), (544, .iaload, 1), (545, .aload_n 0, 1), (546, .iload 4, 2), (548, .iconst 3, 1), (549, .iadd, 1), (550, .iaload, 1), (551, .invokevirtual 62, 3), (554, .pop, 1), (555, .aload_n 2, 1), (556, .aload_n 0, 1), (557, .iload 4, 2)] : List (Nat × Instr × Nat)).all (fun q => decide (decode cL_law q.1 = .ok q.2)) = true := by decide +kernel
set_option maxRecDepth 100000 in
set_option maxHeartbeats 4000000 in
theorem law_2 {p : Program} {l : Launch} {e : Env} {s : State} {m : MethodId} {below : List Frame} {meth : Method} {c : Code} {cd : Cond} {b : ab_B} {D : va_G} {cA : Nat → ClassId} {o : ab_O} {xs : Nat → Int32} {n bb : Nat} {nm : String} (C : ab_cx p l e room_1 s m #[Value.ref bb] below meth c D ab_cl cA (ab_E0 b) (⟨RL, nm, "([I)Z"⟩ : MethodName) cL_law 7 ret (cd :: ab_G) room_1) (hX : va_X bb n xs s s.heap) (hb0 : b.2 0 = bb) (hb1 : b.1 = s.heap.size ∧ bb < s.heap.size) {f_L_man : List Value → ab_H → Option ab_O} (h_L_man : ab_M l b D ab_cl cA (ab_E0 b) yL_man (Cond.codeWith yL_man cL_man 5 (some .int) [(0, 10, 13, 13)] :: ab_G) ({ frames := 9, cells := 1, slots := 6, locals := 900 } : Room) f_L_man) {f_X11_man : List Value → ab_H → Option ab_O} (h_X11_man : ab_M l b D ab_cl cA (ab_E0 b) yX11_man (Cond.code yX11_man cX11_man 3 (some .int) :: ab_G) ({ frames := 6, cells := 0, slots := 0, locals := 600 } : Room) f_X11_man) {f_X10_apart : List Value → ab_H → Option ab_O} (h_X10_apart : ab_M l b D ab_cl cA (ab_E0 b) yX10_apart (Cond.code yX10_apart cX10_apart 3 (some .int) :: ab_G) ({ frames := 3, cells := 0, slots := 0, locals := 300 } : Room) f_X10_apart) {f_X11_apart : List Value → ab_H → Option ab_O} (h_X11_apart : ab_M l b D ab_cl cA (ab_E0 b) yX11_apart (Cond.code yX11_apart cX11_apart 3 (some .int) :: ab_G) ({ frames := 3, cells := 0, slots := 0, locals := 300 } : Room) f_X11_apart) {f_X10_now : List Value → ab_H → Option ab_O} (h_X10_now : ab_M l b D ab_cl cA (ab_E0 b) yX10_now (Cond.code yX10_now cX10_now 2 (some .int) :: ab_G) ({ frames := 2, cells := 0, slots := 0, locals := 200 } : Room) f_X10_now) {f_X11_now : List Value → ab_H → Option ab_O} (h_X11_now : ab_M l b D ab_cl cA (ab_E0 b) yX11_now (Cond.code yX11_now cX11_now 2 (some .int) :: ab_G) ({ frames := 4, cells := 0, slots := 0, locals := 400 } : Room) f_X11_now) {f_X10_hoard : List Value → ab_H → Option ab_O} (h_X10_hoard : ab_M l b D ab_cl cA (ab_E0 b) yX10_hoard (Cond.code yX10_hoard cX10_hoard 4 (some .int) :: ab_G) ({ frames := 5, cells := 8, slots := 138, locals := 500 } : Room) f_X10_hoard) : ∀ q ∈ L_law_2 xs n f_L_man f_X11_man f_X10_apart f_X11_apart f_X10_now f_X11_now f_X10_hoard, ab_ok p l e room_1 s m #[Value.ref bb] below meth c (lw_Z below #[Value.ref bb] s) b D ab_cl cA 7 o (fun i => i) q.1 q.2 := by
  unfold L_law_2
  refine List.forall_mem_cons.mpr ⟨ok_iconst C (show decode cL_law 434 = .ok (.iconst 1, 1) from dk_at dq53_4 (i := 0) rfl) (by decide) rfl, ?_⟩
  refine List.forall_mem_cons.mpr ⟨ok_iadd C (show decode cL_law 435 = .ok (.iadd, 1) from dk_at dq53_4 (i := 1) rfl) rfl, ?_⟩
  refine List.forall_mem_cons.mpr ⟨ok_sld C hX hb0 hb1 (show decode cL_law 436 = .ok (.iaload, 1) from dk_at dq53_4 (i := 2) rfl) rfl, ?_⟩
  refine List.forall_mem_cons.mpr ⟨ok_aload_n C (show decode cL_law 437 = .ok (.aload_n 0, 1) from dk_at dq53_4 (i := 3) rfl) rfl rfl, ?_⟩
  refine List.forall_mem_cons.mpr ⟨ok_iload C (show decode cL_law 438 = .ok (.iload 4, 2) from dk_at dq53_4 (i := 4) rfl) rfl, ?_⟩
  refine List.forall_mem_cons.mpr ⟨ok_iconst C (show decode cL_law 440 = .ok (.iconst 2, 1) from dk_at dq53_4 (i := 5) rfl) (by decide) rfl, ?_⟩
  refine List.forall_mem_cons.mpr ⟨ok_iadd C (show decode cL_law 441 = .ok (.iadd, 1) from dk_at dq53_4 (i := 6) rfl) rfl, ?_⟩
  refine List.forall_mem_cons.mpr ⟨ok_sld C hX hb0 hb1 (show decode cL_law 442 = .ok (.iaload, 1) from dk_at dq53_4 (i := 7) rfl) rfl, ?_⟩
  refine List.forall_mem_cons.mpr ⟨ok_aload_n C (show decode cL_law 443 = .ok (.aload_n 3, 1) from dk_at dq53_4 (i := 8) rfl) rfl rfl, ?_⟩
  refine List.forall_mem_cons.mpr ⟨ok_callSW C h_L_man ⟨rfl, rfl⟩ kw_1061 kw_1059 kw_1060 kw_0 ds_L_man ⟨by decide, by decide⟩ (show decode cL_law 444 = .ok (.invokestatic 47, 3) from dk_at dq53_4 (i := 9) rfl) rfl, ?_⟩
  refine List.forall_mem_cons.mpr ⟨ok_istore C (show decode cL_law 447 = .ok (.istore 5, 2) from dk_at dq53_4 (i := 10) rfl) (by decide) rfl, ?_⟩
  refine List.forall_mem_cons.mpr ⟨ok_aload_n C (show decode cL_law 449 = .ok (.aload_n 2, 1) from dk_at dq53_4 (i := 11) rfl) rfl rfl, ?_⟩
  refine List.forall_mem_cons.mpr ⟨ok_aload_n C (show decode cL_law 450 = .ok (.aload_n 0, 1) from dk_at dq53_4 (i := 12) rfl) rfl rfl, ?_⟩
  refine List.forall_mem_cons.mpr ⟨ok_iload C (show decode cL_law 451 = .ok (.iload 4, 2) from dk_at dq53_4 (i := 13) rfl) rfl, ?_⟩
  refine List.forall_mem_cons.mpr ⟨ok_iconst C (show decode cL_law 453 = .ok (.iconst 1, 1) from dk_at dq53_4 (i := 14) rfl) (by decide) rfl, ?_⟩
  refine List.forall_mem_cons.mpr ⟨ok_iadd C (show decode cL_law 454 = .ok (.iadd, 1) from dk_at dq53_4 (i := 15) rfl) rfl, ?_⟩
  refine List.forall_mem_cons.mpr ⟨ok_sld C hX hb0 hb1 (show decode cL_law 455 = .ok (.iaload, 1) from dk_at dq53_4 (i := 16) rfl) rfl, ?_⟩
  refine List.forall_mem_cons.mpr ⟨ok_aload_n C (show decode cL_law 456 = .ok (.aload_n 0, 1) from dk_at dq53_4 (i := 17) rfl) rfl rfl, ?_⟩
  refine List.forall_mem_cons.mpr ⟨ok_iload C (show decode cL_law 457 = .ok (.iload 4, 2) from dk_at dq53_4 (i := 18) rfl) rfl, ?_⟩
  refine List.forall_mem_cons.mpr ⟨ok_iconst C (show decode cL_law 459 = .ok (.iconst 2, 1) from dk_at dq53_4 (i := 19) rfl) (by decide) rfl, ?_⟩
  refine List.forall_mem_cons.mpr ⟨ok_iadd C (show decode cL_law 460 = .ok (.iadd, 1) from dk_at dq53_4 (i := 20) rfl) rfl, ?_⟩
  refine List.forall_mem_cons.mpr ⟨ok_sld C hX hb0 hb1 (show decode cL_law 461 = .ok (.iaload, 1) from dk_at dq53_4 (i := 21) rfl) rfl, ?_⟩
  refine List.forall_mem_cons.mpr ⟨ok_callV C h_X11_man ⟨rfl, rfl⟩ rfl kw_1429 kw_1426 kw_1427 kw_1428 kw_11 rfl ds_X11_man ⟨by decide, by decide⟩ (show decode cL_law 462 = .ok (.invokevirtual 52, 3) from dk_at dq53_4 (i := 22) rfl) rfl, ?_⟩
  refine List.forall_mem_cons.mpr ⟨ok_istore C (show decode cL_law 465 = .ok (.istore 6, 2) from dk_at dq53_4 (i := 23) rfl) (by decide) rfl, ?_⟩
  refine List.forall_mem_cons.mpr ⟨ok_goto C (show decode cL_law 467 = .ok (.goto 973, 3) from dk_at dq53_4 (i := 24) rfl) (tg := 1440) (by decide) rfl, ?_⟩
  refine List.forall_mem_cons.mpr ⟨ok_aload_n C (show decode cL_law 470 = .ok (.aload_n 1, 1) from dk_at dq53_4 (i := 25) rfl) rfl rfl, ?_⟩
  refine List.forall_mem_cons.mpr ⟨ok_aload_n C (show decode cL_law 471 = .ok (.aload_n 0, 1) from dk_at dq53_4 (i := 26) rfl) rfl rfl, ?_⟩
  refine List.forall_mem_cons.mpr ⟨ok_iload C (show decode cL_law 472 = .ok (.iload 4, 2) from dk_at dq53_4 (i := 27) rfl) rfl, ?_⟩
  refine List.forall_mem_cons.mpr ⟨ok_iconst C (show decode cL_law 474 = .ok (.iconst 1, 1) from dk_at dq53_4 (i := 28) rfl) (by decide) rfl, ?_⟩
  refine List.forall_mem_cons.mpr ⟨ok_iadd C (show decode cL_law 475 = .ok (.iadd, 1) from dk_at dq53_4 (i := 29) rfl) rfl, ?_⟩
  refine List.forall_mem_cons.mpr ⟨ok_sld C hX hb0 hb1 (show decode cL_law 476 = .ok (.iaload, 1) from dk_at dq53_4 (i := 30) rfl) rfl, ?_⟩
  refine List.forall_mem_cons.mpr ⟨ok_aload_n C (show decode cL_law 477 = .ok (.aload_n 0, 1) from dk_at dq53_4 (i := 31) rfl) rfl rfl, ?_⟩
  refine List.forall_mem_cons.mpr ⟨ok_iload C (show decode cL_law 478 = .ok (.iload 4, 2) from dk_at dq53_4 (i := 32) rfl) rfl, ?_⟩
  refine List.forall_mem_cons.mpr ⟨ok_iconst C (show decode cL_law 480 = .ok (.iconst 2, 1) from dk_at dq53_4 (i := 33) rfl) (by decide) rfl, ?_⟩
  refine List.forall_mem_cons.mpr ⟨ok_iadd C (show decode cL_law 481 = .ok (.iadd, 1) from dk_at dq53_4 (i := 34) rfl) rfl, ?_⟩
  refine List.forall_mem_cons.mpr ⟨ok_sld C hX hb0 hb1 (show decode cL_law 482 = .ok (.iaload, 1) from dk_at dq53_4 (i := 35) rfl) rfl, ?_⟩
  refine List.forall_mem_cons.mpr ⟨ok_callV C h_X10_apart ⟨rfl, rfl⟩ rfl kw_620 kw_617 kw_618 kw_619 kw_1 rfl ds_X10_apart ⟨by decide, by decide⟩ (show decode cL_law 483 = .ok (.invokevirtual 53, 3) from dk_at dq53_4 (i := 36) rfl) rfl, ?_⟩
  refine List.forall_mem_cons.mpr ⟨ok_pop C (show decode cL_law 486 = .ok (.pop, 1) from dk_at dq53_4 (i := 37) rfl) rfl, ?_⟩
  refine List.forall_mem_cons.mpr ⟨ok_aload_n C (show decode cL_law 487 = .ok (.aload_n 2, 1) from dk_at dq53_4 (i := 38) rfl) rfl rfl, ?_⟩
  refine List.forall_mem_cons.mpr ⟨ok_aload_n C (show decode cL_law 488 = .ok (.aload_n 0, 1) from dk_at dq53_4 (i := 39) rfl) rfl rfl, ?_⟩
  refine List.forall_mem_cons.mpr ⟨ok_iload C (show decode cL_law 489 = .ok (.iload 4, 2) from dk_at dq53_4 (i := 40) rfl) rfl, ?_⟩
  refine List.forall_mem_cons.mpr ⟨ok_iconst C (show decode cL_law 491 = .ok (.iconst 1, 1) from dk_at dq53_4 (i := 41) rfl) (by decide) rfl, ?_⟩
  refine List.forall_mem_cons.mpr ⟨ok_iadd C (show decode cL_law 492 = .ok (.iadd, 1) from dk_at dq53_4 (i := 42) rfl) rfl, ?_⟩
  refine List.forall_mem_cons.mpr ⟨ok_sld C hX hb0 hb1 (show decode cL_law 493 = .ok (.iaload, 1) from dk_at dq53_4 (i := 43) rfl) rfl, ?_⟩
  refine List.forall_mem_cons.mpr ⟨ok_aload_n C (show decode cL_law 494 = .ok (.aload_n 0, 1) from dk_at dq53_4 (i := 44) rfl) rfl rfl, ?_⟩
  refine List.forall_mem_cons.mpr ⟨ok_iload C (show decode cL_law 495 = .ok (.iload 4, 2) from dk_at dq53_4 (i := 45) rfl) rfl, ?_⟩
  refine List.forall_mem_cons.mpr ⟨ok_iconst C (show decode cL_law 497 = .ok (.iconst 2, 1) from dk_at dq53_4 (i := 46) rfl) (by decide) rfl, ?_⟩
  refine List.forall_mem_cons.mpr ⟨ok_iadd C (show decode cL_law 498 = .ok (.iadd, 1) from dk_at dq53_4 (i := 47) rfl) rfl, ?_⟩
  refine List.forall_mem_cons.mpr ⟨ok_sld C hX hb0 hb1 (show decode cL_law 499 = .ok (.iaload, 1) from dk_at dq53_5 (i := 0) rfl) rfl, ?_⟩
  refine List.forall_mem_cons.mpr ⟨ok_callV C h_X11_apart ⟨rfl, rfl⟩ rfl kw_1461 kw_1458 kw_1459 kw_1460 kw_11 rfl ds_X11_apart ⟨by decide, by decide⟩ (show decode cL_law 500 = .ok (.invokevirtual 56, 3) from dk_at dq53_5 (i := 1) rfl) rfl, ?_⟩
  refine List.forall_mem_cons.mpr ⟨ok_pop C (show decode cL_law 503 = .ok (.pop, 1) from dk_at dq53_5 (i := 2) rfl) rfl, ?_⟩
  refine List.forall_mem_cons.mpr ⟨ok_goto C (show decode cL_law 504 = .ok (.goto 936, 3) from dk_at dq53_5 (i := 3) rfl) (tg := 1440) (by decide) rfl, ?_⟩
  refine List.forall_mem_cons.mpr ⟨ok_aload_n C (show decode cL_law 507 = .ok (.aload_n 1, 1) from dk_at dq53_5 (i := 4) rfl) rfl rfl, ?_⟩
  refine List.forall_mem_cons.mpr ⟨ok_aload_n C (show decode cL_law 508 = .ok (.aload_n 0, 1) from dk_at dq53_5 (i := 5) rfl) rfl rfl, ?_⟩
  refine List.forall_mem_cons.mpr ⟨ok_iload C (show decode cL_law 509 = .ok (.iload 4, 2) from dk_at dq53_5 (i := 6) rfl) rfl, ?_⟩
  refine List.forall_mem_cons.mpr ⟨ok_iconst C (show decode cL_law 511 = .ok (.iconst 1, 1) from dk_at dq53_5 (i := 7) rfl) (by decide) rfl, ?_⟩
  refine List.forall_mem_cons.mpr ⟨ok_iadd C (show decode cL_law 512 = .ok (.iadd, 1) from dk_at dq53_5 (i := 8) rfl) rfl, ?_⟩
  refine List.forall_mem_cons.mpr ⟨ok_sld C hX hb0 hb1 (show decode cL_law 513 = .ok (.iaload, 1) from dk_at dq53_5 (i := 9) rfl) rfl, ?_⟩
  refine List.forall_mem_cons.mpr ⟨ok_callV C h_X10_now ⟨rfl, rfl⟩ rfl kw_640 kw_637 kw_638 kw_639 kw_1 rfl ds_X10_now ⟨by decide, by decide⟩ (show decode cL_law 514 = .ok (.invokevirtual 57, 3) from dk_at dq53_5 (i := 10) rfl) rfl, ?_⟩
  refine List.forall_mem_cons.mpr ⟨ok_pop C (show decode cL_law 517 = .ok (.pop, 1) from dk_at dq53_5 (i := 11) rfl) rfl, ?_⟩
  refine List.forall_mem_cons.mpr ⟨ok_aload_n C (show decode cL_law 518 = .ok (.aload_n 2, 1) from dk_at dq53_5 (i := 12) rfl) rfl rfl, ?_⟩
  refine List.forall_mem_cons.mpr ⟨ok_aload_n C (show decode cL_law 519 = .ok (.aload_n 0, 1) from dk_at dq53_5 (i := 13) rfl) rfl rfl, ?_⟩
  refine List.forall_mem_cons.mpr ⟨ok_iload C (show decode cL_law 520 = .ok (.iload 4, 2) from dk_at dq53_5 (i := 14) rfl) rfl, ?_⟩
  refine List.forall_mem_cons.mpr ⟨ok_iconst C (show decode cL_law 522 = .ok (.iconst 1, 1) from dk_at dq53_5 (i := 15) rfl) (by decide) rfl, ?_⟩
  refine List.forall_mem_cons.mpr ⟨ok_iadd C (show decode cL_law 523 = .ok (.iadd, 1) from dk_at dq53_5 (i := 16) rfl) rfl, ?_⟩
  refine List.forall_mem_cons.mpr ⟨ok_sld C hX hb0 hb1 (show decode cL_law 524 = .ok (.iaload, 1) from dk_at dq53_5 (i := 17) rfl) rfl, ?_⟩
  refine List.forall_mem_cons.mpr ⟨ok_callV C h_X11_now ⟨rfl, rfl⟩ rfl kw_1465 kw_1462 kw_1463 kw_1464 kw_11 rfl ds_X11_now ⟨by decide, by decide⟩ (show decode cL_law 525 = .ok (.invokevirtual 61, 3) from dk_at dq53_5 (i := 18) rfl) rfl, ?_⟩
  refine List.forall_mem_cons.mpr ⟨ok_pop C (show decode cL_law 528 = .ok (.pop, 1) from dk_at dq53_5 (i := 19) rfl) rfl, ?_⟩
  refine List.forall_mem_cons.mpr ⟨ok_goto C (show decode cL_law 529 = .ok (.goto 911, 3) from dk_at dq53_5 (i := 20) rfl) (tg := 1440) (by decide) rfl, ?_⟩
  refine List.forall_mem_cons.mpr ⟨ok_aload_n C (show decode cL_law 532 = .ok (.aload_n 1, 1) from dk_at dq53_5 (i := 21) rfl) rfl rfl, ?_⟩
  refine List.forall_mem_cons.mpr ⟨ok_aload_n C (show decode cL_law 533 = .ok (.aload_n 0, 1) from dk_at dq53_5 (i := 22) rfl) rfl rfl, ?_⟩
  refine List.forall_mem_cons.mpr ⟨ok_iload C (show decode cL_law 534 = .ok (.iload 4, 2) from dk_at dq53_5 (i := 23) rfl) rfl, ?_⟩
  refine List.forall_mem_cons.mpr ⟨ok_iconst C (show decode cL_law 536 = .ok (.iconst 1, 1) from dk_at dq53_5 (i := 24) rfl) (by decide) rfl, ?_⟩
  refine List.forall_mem_cons.mpr ⟨ok_iadd C (show decode cL_law 537 = .ok (.iadd, 1) from dk_at dq53_5 (i := 25) rfl) rfl, ?_⟩
  refine List.forall_mem_cons.mpr ⟨ok_sld C hX hb0 hb1 (show decode cL_law 538 = .ok (.iaload, 1) from dk_at dq53_5 (i := 26) rfl) rfl, ?_⟩
  refine List.forall_mem_cons.mpr ⟨ok_aload_n C (show decode cL_law 539 = .ok (.aload_n 0, 1) from dk_at dq53_5 (i := 27) rfl) rfl rfl, ?_⟩
  refine List.forall_mem_cons.mpr ⟨ok_iload C (show decode cL_law 540 = .ok (.iload 4, 2) from dk_at dq53_5 (i := 28) rfl) rfl, ?_⟩
  refine List.forall_mem_cons.mpr ⟨ok_iconst C (show decode cL_law 542 = .ok (.iconst 2, 1) from dk_at dq53_5 (i := 29) rfl) (by decide) rfl, ?_⟩
  refine List.forall_mem_cons.mpr ⟨ok_iadd C (show decode cL_law 543 = .ok (.iadd, 1) from dk_at dq53_5 (i := 30) rfl) rfl, ?_⟩
  refine List.forall_mem_cons.mpr ⟨ok_sld C hX hb0 hb1 (show decode cL_law 544 = .ok (.iaload, 1) from dk_at dq53_5 (i := 31) rfl) rfl, ?_⟩
  refine List.forall_mem_cons.mpr ⟨ok_aload_n C (show decode cL_law 545 = .ok (.aload_n 0, 1) from dk_at dq53_5 (i := 32) rfl) rfl rfl, ?_⟩
  refine List.forall_mem_cons.mpr ⟨ok_iload C (show decode cL_law 546 = .ok (.iload 4, 2) from dk_at dq53_5 (i := 33) rfl) rfl, ?_⟩
  refine List.forall_mem_cons.mpr ⟨ok_iconst C (show decode cL_law 548 = .ok (.iconst 3, 1) from dk_at dq53_5 (i := 34) rfl) (by decide) rfl, ?_⟩
  refine List.forall_mem_cons.mpr ⟨ok_iadd C (show decode cL_law 549 = .ok (.iadd, 1) from dk_at dq53_5 (i := 35) rfl) rfl, ?_⟩
  refine List.forall_mem_cons.mpr ⟨ok_sld C hX hb0 hb1 (show decode cL_law 550 = .ok (.iaload, 1) from dk_at dq53_5 (i := 36) rfl) rfl, ?_⟩
  refine List.forall_mem_cons.mpr ⟨ok_callV C h_X10_hoard ⟨rfl, rfl⟩ rfl kw_700 kw_697 kw_698 kw_699 kw_1 rfl ds_X10_hoard ⟨by decide, by decide⟩ (show decode cL_law 551 = .ok (.invokevirtual 62, 3) from dk_at dq53_5 (i := 37) rfl) rfl, ?_⟩
  refine List.forall_mem_cons.mpr ⟨ok_pop C (show decode cL_law 554 = .ok (.pop, 1) from dk_at dq53_5 (i := 38) rfl) rfl, ?_⟩
  refine List.forall_mem_cons.mpr ⟨ok_aload_n C (show decode cL_law 555 = .ok (.aload_n 2, 1) from dk_at dq53_5 (i := 39) rfl) rfl rfl, ?_⟩
  refine List.forall_mem_cons.mpr ⟨ok_aload_n C (show decode cL_law 556 = .ok (.aload_n 0, 1) from dk_at dq53_5 (i := 40) rfl) rfl rfl, ?_⟩
  refine List.forall_mem_cons.mpr ⟨ok_iload C (show decode cL_law 557 = .ok (.iload 4, 2) from dk_at dq53_5 (i := 41) rfl) rfl, ?_⟩
  exact fun _ h => absurd h List.not_mem_nil
def L_law_3 (xs : Nat → Int32) (n : Nat) (f_X11_hoard : List Value → ab_H → Option ab_O) (f_X10_bare : List Value → ab_H → Option ab_O) (f_X11_bare : List Value → ab_H → Option ab_O) (f_X10_waste : List Value → ab_H → Option ab_O) (f_X11_waste : List Value → ab_H → Option ab_O) : List (Nat × ab_A) := [
  (559, ab_nx 560 (ab_lit (.int 1))),
  (560, ab_nx 561 (ab_bin (fun x y => x + y))),
  (561, ab_nx 562 (ab_sld xs n)),
  (562, ab_nx 563 (ab_aload 0)),
  (563, ab_nx 565 (ab_iload 4)),
  (565, ab_nx 566 (ab_lit (.int 2))),
  (566, ab_nx 567 (ab_bin (fun x y => x + y))),
  (567, ab_nx 568 (ab_sld xs n)),
  (568, ab_nx 569 (ab_aload 0)),
  (569, ab_nx 571 (ab_iload 4)),
  (571, ab_nx 572 (ab_lit (.int 3))),
  (572, ab_nx 573 (ab_bin (fun x y => x + y))),
  (573, ab_nx 574 (ab_sld xs n)),
  (574, ab_nx 577 (ab_callV 4 11 f_X11_hoard 0 0 601024 7293034)),
  (577, ab_nx 578 ab_pop),
  (578, ab_goto 1440),
  (581, ab_nx 582 (ab_aload 1)),
  (582, ab_nx 583 (ab_aload 0)),
  (583, ab_nx 585 (ab_iload 4)),
  (585, ab_nx 586 (ab_lit (.int 1))),
  (586, ab_nx 587 (ab_bin (fun x y => x + y))),
  (587, ab_nx 588 (ab_sld xs n)),
  (588, ab_nx 589 (ab_aload 0)),
  (589, ab_nx 591 (ab_iload 4)),
  (591, ab_nx 592 (ab_lit (.int 2))),
  (592, ab_nx 593 (ab_bin (fun x y => x + y))),
  (593, ab_nx 594 (ab_sld xs n)),
  (594, ab_nx 595 (ab_aload 0)),
  (595, ab_nx 597 (ab_iload 4)),
  (597, ab_nx 598 (ab_lit (.int 3))),
  (598, ab_nx 599 (ab_bin (fun x y => x + y))),
  (599, ab_nx 600 (ab_sld xs n)),
  (600, ab_nx 603 (ab_callV 4 10 f_X10_bare 8 138 601024 7293034)),
  (603, ab_nx 604 ab_pop),
  (604, ab_nx 605 (ab_aload 2)),
  (605, ab_nx 606 (ab_aload 0)),
  (606, ab_nx 608 (ab_iload 4)),
  (608, ab_nx 609 (ab_lit (.int 1))),
  (609, ab_nx 610 (ab_bin (fun x y => x + y))),
  (610, ab_nx 611 (ab_sld xs n)),
  (611, ab_nx 612 (ab_aload 0)),
  (612, ab_nx 614 (ab_iload 4)),
  (614, ab_nx 615 (ab_lit (.int 2))),
  (615, ab_nx 616 (ab_bin (fun x y => x + y))),
  (616, ab_nx 617 (ab_sld xs n)),
  (617, ab_nx 618 (ab_aload 0)),
  (618, ab_nx 620 (ab_iload 4)),
  (620, ab_nx 621 (ab_lit (.int 3))),
  (621, ab_nx 622 (ab_bin (fun x y => x + y))),
  (622, ab_nx 623 (ab_sld xs n)),
  (623, ab_nx 626 (ab_callV 4 11 f_X11_bare 0 0 601024 7293034)),
  (626, ab_nx 627 ab_pop),
  (627, ab_goto 1440),
  (630, ab_nx 631 (ab_aload 1)),
  (631, ab_nx 632 (ab_aload 0)),
  (632, ab_nx 634 (ab_iload 4)),
  (634, ab_nx 635 (ab_lit (.int 1))),
  (635, ab_nx 636 (ab_bin (fun x y => x + y))),
  (636, ab_nx 637 (ab_sld xs n)),
  (637, ab_nx 638 (ab_aload 0)),
  (638, ab_nx 640 (ab_iload 4)),
  (640, ab_nx 641 (ab_lit (.int 2))),
  (641, ab_nx 642 (ab_bin (fun x y => x + y))),
  (642, ab_nx 643 (ab_sld xs n)),
  (643, ab_nx 644 (ab_aload 0)),
  (644, ab_nx 646 (ab_iload 4)),
  (646, ab_nx 647 (ab_lit (.int 3))),
  (647, ab_nx 648 (ab_bin (fun x y => x + y))),
  (648, ab_nx 649 (ab_sld xs n)),
  (649, ab_nx 652 (ab_callV 4 10 f_X10_waste 8 138 601024 7293034)),
  (652, ab_nx 653 ab_pop),
  (653, ab_nx 654 (ab_aload 2)),
  (654, ab_nx 655 (ab_aload 0)),
  (655, ab_nx 657 (ab_iload 4)),
  (657, ab_nx 658 (ab_lit (.int 1))),
  (658, ab_nx 659 (ab_bin (fun x y => x + y))),
  (659, ab_nx 660 (ab_sld xs n)),
  (660, ab_nx 661 (ab_aload 0)),
  (661, ab_nx 663 (ab_iload 4)),
  (663, ab_nx 664 (ab_lit (.int 2))),
  (664, ab_nx 665 (ab_bin (fun x y => x + y))),
  (665, ab_nx 666 (ab_sld xs n)),
  (666, ab_nx 667 (ab_aload 0)),
  (667, ab_nx 669 (ab_iload 4)),
  (669, ab_nx 670 (ab_lit (.int 3))),
  (670, ab_nx 671 (ab_bin (fun x y => x + y))),
  (671, ab_nx 672 (ab_sld xs n)),
  (672, ab_nx 675 (ab_callV 4 11 f_X11_waste 0 0 601024 7293034)),
  (675, ab_nx 676 ab_pop),
  (676, ab_goto 1440)]
set_option maxRecDepth 100000 in
theorem dq53_6 : ([(559, .iconst 1, 1), (560, .iadd, 1), (561, .iaload, 1), (562, .aload_n 0, 1), (563, .iload 4, 2), (565, .iconst 2, 1), (566, .iadd, 1), (567, .iaload, 1), (568, .aload_n 0, 1), (569, .iload 4, 2), (571, .iconst 3, 1), (572, .iadd, 1), (573, .iaload, 1), (574, .invokevirtual 65, 3), (577, .pop, 1), (578, .goto 862, 3), (581, .aload_n 1, 1), (582, .aload_n 0, 1), (583, .iload 4, 2), (585, .iconst 1, 1), (586, .iadd, 1), (587, .iaload, 1), (588, .aload_n 0, 1), (589, .iload 4, 2), (591, .iconst 2, 1), (592, .iadd, 1), (593, .iaload, 1), (594, .aload_n 0, 1), (595, .iload 4, 2), (597, .iconst 3, 1), (598, .iadd, 1), (599, .iaload, 1), (600, .invokevirtual 66, 3), (603, .pop, 1), (604, .aload_n 2, 1), (605, .aload_n 0, 1), (606, .iload 4, 2), (608, .iconst 1, 1), (609, .iadd, 1), (610, .iaload, 1), (611, .aload_n 0, 1), (612, .iload 4, 2), (614, .iconst 2, 1), (615, .iadd, 1), (616, .iaload, 1), (617, .aload_n 0, 1), (618, .iload 4, 2), (620, .iconst 3, 1)] : List (Nat × Instr × Nat)).all (fun q => decide (decode cL_law q.1 = .ok q.2)) = true := by decide +kernel
set_option maxRecDepth 100000 in
theorem dq53_7 : ([(621, .iadd, 1), (622, .iaload, 1), (623, .invokevirtual 69, 3), (626, .pop, 1), (627, .goto 813, 3), (630, .aload_n 1, 1), (631, .aload_n 0, 1), (632, .iload 4, 2), (634, .iconst 1, 1), (635, .iadd, 1), (636, .iaload, 1), (637, .aload_n 0, 1), (638, .iload 4, 2), (640, .iconst 2, 1), (641, .iadd, 1), (642, .iaload, 1), (643, .aload_n 0, 1), (644, .iload 4, 2), (646, .iconst 3, 1), (647, .iadd, 1), (648, .iaload, 1), (649, .invokevirtual 70, 3), (652, .pop, 1), (653, .aload_n 2, 1), (654, .aload_n 0, 1), (655, .iload 4, 2), (657, .iconst 1, 1), (658, .iadd, 1), (659, .iaload, 1), (660, .aload_n 0, 1), (661, .iload 4, 2), (663, .iconst 2, 1), (664, .iadd, 1), (665, .iaload, 1), (666, .aload_n 0, 1), (667, .iload 4, 2), (669, .iconst 3, 1), (670, .iadd, 1), (671, .iaload, 1), (672, .invokevirtual 73, 3), (675, .pop, 1), (676, .goto 764, 3)] : List (Nat × Instr × Nat)).all (fun q => decide (decode cL_law q.1 = .ok q.2)) = true := by decide +kernel
set_option maxRecDepth 100000 in
set_option maxHeartbeats 4000000 in
theorem law_3 {p : Program} {l : Launch} {e : Env} {s : State} {m : MethodId} {below : List Frame} {meth : Method} {c : Code} {cd : Cond} {b : ab_B} {D : va_G} {cA : Nat → ClassId} {o : ab_O} {xs : Nat → Int32} {n bb : Nat} {nm : String} (C : ab_cx p l e room_1 s m #[Value.ref bb] below meth c D ab_cl cA (ab_E0 b) (⟨RL, nm, "([I)Z"⟩ : MethodName) cL_law 7 ret (cd :: ab_G) room_1) (hX : va_X bb n xs s s.heap) (hb0 : b.2 0 = bb) (hb1 : b.1 = s.heap.size ∧ bb < s.heap.size) {f_X11_hoard : List Value → ab_H → Option ab_O} (h_X11_hoard : ab_M l b D ab_cl cA (ab_E0 b) yX11_hoard (Cond.code yX11_hoard cX11_hoard 4 (some .int) :: ab_G) ({ frames := 4, cells := 0, slots := 0, locals := 400 } : Room) f_X11_hoard) {f_X10_bare : List Value → ab_H → Option ab_O} (h_X10_bare : ab_M l b D ab_cl cA (ab_E0 b) yX10_bare (Cond.code yX10_bare cX10_bare 4 (some .int) :: ab_G) ({ frames := 5, cells := 8, slots := 138, locals := 500 } : Room) f_X10_bare) {f_X11_bare : List Value → ab_H → Option ab_O} (h_X11_bare : ab_M l b D ab_cl cA (ab_E0 b) yX11_bare (Cond.code yX11_bare cX11_bare 5 (some .int) :: ab_G) ({ frames := 4, cells := 0, slots := 0, locals := 400 } : Room) f_X11_bare) {f_X10_waste : List Value → ab_H → Option ab_O} (h_X10_waste : ab_M l b D ab_cl cA (ab_E0 b) yX10_waste (Cond.code yX10_waste cX10_waste 4 (some .int) :: ab_G) ({ frames := 5, cells := 8, slots := 138, locals := 500 } : Room) f_X10_waste) {f_X11_waste : List Value → ab_H → Option ab_O} (h_X11_waste : ab_M l b D ab_cl cA (ab_E0 b) yX11_waste (Cond.code yX11_waste cX11_waste 4 (some .int) :: ab_G) ({ frames := 4, cells := 0, slots := 0, locals := 400 } : Room) f_X11_waste) : ∀ q ∈ L_law_3 xs n f_X11_hoard f_X10_bare f_X11_bare f_X10_waste f_X11_waste, ab_ok p l e room_1 s m #[Value.ref bb] below meth c (lw_Z below #[Value.ref bb] s) b D ab_cl cA 7 o (fun i => i) q.1 q.2 := by
  unfold L_law_3
  refine List.forall_mem_cons.mpr ⟨ok_iconst C (show decode cL_law 559 = .ok (.iconst 1, 1) from dk_at dq53_6 (i := 0) rfl) (by decide) rfl, ?_⟩
  refine List.forall_mem_cons.mpr ⟨ok_iadd C (show decode cL_law 560 = .ok (.iadd, 1) from dk_at dq53_6 (i := 1) rfl) rfl, ?_⟩
  refine List.forall_mem_cons.mpr ⟨ok_sld C hX hb0 hb1 (show decode cL_law 561 = .ok (.iaload, 1) from dk_at dq53_6 (i := 2) rfl) rfl, ?_⟩
  refine List.forall_mem_cons.mpr ⟨ok_aload_n C (show decode cL_law 562 = .ok (.aload_n 0, 1) from dk_at dq53_6 (i := 3) rfl) rfl rfl, ?_⟩
  refine List.forall_mem_cons.mpr ⟨ok_iload C (show decode cL_law 563 = .ok (.iload 4, 2) from dk_at dq53_6 (i := 4) rfl) rfl, ?_⟩
  refine List.forall_mem_cons.mpr ⟨ok_iconst C (show decode cL_law 565 = .ok (.iconst 2, 1) from dk_at dq53_6 (i := 5) rfl) (by decide) rfl, ?_⟩
  refine List.forall_mem_cons.mpr ⟨ok_iadd C (show decode cL_law 566 = .ok (.iadd, 1) from dk_at dq53_6 (i := 6) rfl) rfl, ?_⟩
  refine List.forall_mem_cons.mpr ⟨ok_sld C hX hb0 hb1 (show decode cL_law 567 = .ok (.iaload, 1) from dk_at dq53_6 (i := 7) rfl) rfl, ?_⟩
  refine List.forall_mem_cons.mpr ⟨ok_aload_n C (show decode cL_law 568 = .ok (.aload_n 0, 1) from dk_at dq53_6 (i := 8) rfl) rfl rfl, ?_⟩
  refine List.forall_mem_cons.mpr ⟨ok_iload C (show decode cL_law 569 = .ok (.iload 4, 2) from dk_at dq53_6 (i := 9) rfl) rfl, ?_⟩
  refine List.forall_mem_cons.mpr ⟨ok_iconst C (show decode cL_law 571 = .ok (.iconst 3, 1) from dk_at dq53_6 (i := 10) rfl) (by decide) rfl, ?_⟩
  refine List.forall_mem_cons.mpr ⟨ok_iadd C (show decode cL_law 572 = .ok (.iadd, 1) from dk_at dq53_6 (i := 11) rfl) rfl, ?_⟩
  refine List.forall_mem_cons.mpr ⟨ok_sld C hX hb0 hb1 (show decode cL_law 573 = .ok (.iaload, 1) from dk_at dq53_6 (i := 12) rfl) rfl, ?_⟩
  refine List.forall_mem_cons.mpr ⟨ok_callV C h_X11_hoard ⟨rfl, rfl⟩ rfl kw_1473 kw_1470 kw_1471 kw_1472 kw_11 rfl ds_X11_hoard ⟨by decide, by decide⟩ (show decode cL_law 574 = .ok (.invokevirtual 65, 3) from dk_at dq53_6 (i := 13) rfl) rfl, ?_⟩
  refine List.forall_mem_cons.mpr ⟨ok_pop C (show decode cL_law 577 = .ok (.pop, 1) from dk_at dq53_6 (i := 14) rfl) rfl, ?_⟩
  refine List.forall_mem_cons.mpr ⟨ok_goto C (show decode cL_law 578 = .ok (.goto 862, 3) from dk_at dq53_6 (i := 15) rfl) (tg := 1440) (by decide) rfl, ?_⟩
  refine List.forall_mem_cons.mpr ⟨ok_aload_n C (show decode cL_law 581 = .ok (.aload_n 1, 1) from dk_at dq53_6 (i := 16) rfl) rfl rfl, ?_⟩
  refine List.forall_mem_cons.mpr ⟨ok_aload_n C (show decode cL_law 582 = .ok (.aload_n 0, 1) from dk_at dq53_6 (i := 17) rfl) rfl rfl, ?_⟩
  refine List.forall_mem_cons.mpr ⟨ok_iload C (show decode cL_law 583 = .ok (.iload 4, 2) from dk_at dq53_6 (i := 18) rfl) rfl, ?_⟩
  refine List.forall_mem_cons.mpr ⟨ok_iconst C (show decode cL_law 585 = .ok (.iconst 1, 1) from dk_at dq53_6 (i := 19) rfl) (by decide) rfl, ?_⟩
  refine List.forall_mem_cons.mpr ⟨ok_iadd C (show decode cL_law 586 = .ok (.iadd, 1) from dk_at dq53_6 (i := 20) rfl) rfl, ?_⟩
  refine List.forall_mem_cons.mpr ⟨ok_sld C hX hb0 hb1 (show decode cL_law 587 = .ok (.iaload, 1) from dk_at dq53_6 (i := 21) rfl) rfl, ?_⟩
  refine List.forall_mem_cons.mpr ⟨ok_aload_n C (show decode cL_law 588 = .ok (.aload_n 0, 1) from dk_at dq53_6 (i := 22) rfl) rfl rfl, ?_⟩
  refine List.forall_mem_cons.mpr ⟨ok_iload C (show decode cL_law 589 = .ok (.iload 4, 2) from dk_at dq53_6 (i := 23) rfl) rfl, ?_⟩
  refine List.forall_mem_cons.mpr ⟨ok_iconst C (show decode cL_law 591 = .ok (.iconst 2, 1) from dk_at dq53_6 (i := 24) rfl) (by decide) rfl, ?_⟩
  refine List.forall_mem_cons.mpr ⟨ok_iadd C (show decode cL_law 592 = .ok (.iadd, 1) from dk_at dq53_6 (i := 25) rfl) rfl, ?_⟩
  refine List.forall_mem_cons.mpr ⟨ok_sld C hX hb0 hb1 (show decode cL_law 593 = .ok (.iaload, 1) from dk_at dq53_6 (i := 26) rfl) rfl, ?_⟩
  refine List.forall_mem_cons.mpr ⟨ok_aload_n C (show decode cL_law 594 = .ok (.aload_n 0, 1) from dk_at dq53_6 (i := 27) rfl) rfl rfl, ?_⟩
  refine List.forall_mem_cons.mpr ⟨ok_iload C (show decode cL_law 595 = .ok (.iload 4, 2) from dk_at dq53_6 (i := 28) rfl) rfl, ?_⟩
  refine List.forall_mem_cons.mpr ⟨ok_iconst C (show decode cL_law 597 = .ok (.iconst 3, 1) from dk_at dq53_6 (i := 29) rfl) (by decide) rfl, ?_⟩
  refine List.forall_mem_cons.mpr ⟨ok_iadd C (show decode cL_law 598 = .ok (.iadd, 1) from dk_at dq53_6 (i := 30) rfl) rfl, ?_⟩
  refine List.forall_mem_cons.mpr ⟨ok_sld C hX hb0 hb1 (show decode cL_law 599 = .ok (.iaload, 1) from dk_at dq53_6 (i := 31) rfl) rfl, ?_⟩
  refine List.forall_mem_cons.mpr ⟨ok_callV C h_X10_bare ⟨rfl, rfl⟩ rfl kw_735 kw_732 kw_733 kw_734 kw_1 rfl ds_X10_bare ⟨by decide, by decide⟩ (show decode cL_law 600 = .ok (.invokevirtual 66, 3) from dk_at dq53_6 (i := 32) rfl) rfl, ?_⟩
  refine List.forall_mem_cons.mpr ⟨ok_pop C (show decode cL_law 603 = .ok (.pop, 1) from dk_at dq53_6 (i := 33) rfl) rfl, ?_⟩
  refine List.forall_mem_cons.mpr ⟨ok_aload_n C (show decode cL_law 604 = .ok (.aload_n 2, 1) from dk_at dq53_6 (i := 34) rfl) rfl rfl, ?_⟩
  refine List.forall_mem_cons.mpr ⟨ok_aload_n C (show decode cL_law 605 = .ok (.aload_n 0, 1) from dk_at dq53_6 (i := 35) rfl) rfl rfl, ?_⟩
  refine List.forall_mem_cons.mpr ⟨ok_iload C (show decode cL_law 606 = .ok (.iload 4, 2) from dk_at dq53_6 (i := 36) rfl) rfl, ?_⟩
  refine List.forall_mem_cons.mpr ⟨ok_iconst C (show decode cL_law 608 = .ok (.iconst 1, 1) from dk_at dq53_6 (i := 37) rfl) (by decide) rfl, ?_⟩
  refine List.forall_mem_cons.mpr ⟨ok_iadd C (show decode cL_law 609 = .ok (.iadd, 1) from dk_at dq53_6 (i := 38) rfl) rfl, ?_⟩
  refine List.forall_mem_cons.mpr ⟨ok_sld C hX hb0 hb1 (show decode cL_law 610 = .ok (.iaload, 1) from dk_at dq53_6 (i := 39) rfl) rfl, ?_⟩
  refine List.forall_mem_cons.mpr ⟨ok_aload_n C (show decode cL_law 611 = .ok (.aload_n 0, 1) from dk_at dq53_6 (i := 40) rfl) rfl rfl, ?_⟩
  refine List.forall_mem_cons.mpr ⟨ok_iload C (show decode cL_law 612 = .ok (.iload 4, 2) from dk_at dq53_6 (i := 41) rfl) rfl, ?_⟩
  refine List.forall_mem_cons.mpr ⟨ok_iconst C (show decode cL_law 614 = .ok (.iconst 2, 1) from dk_at dq53_6 (i := 42) rfl) (by decide) rfl, ?_⟩
  refine List.forall_mem_cons.mpr ⟨ok_iadd C (show decode cL_law 615 = .ok (.iadd, 1) from dk_at dq53_6 (i := 43) rfl) rfl, ?_⟩
  refine List.forall_mem_cons.mpr ⟨ok_sld C hX hb0 hb1 (show decode cL_law 616 = .ok (.iaload, 1) from dk_at dq53_6 (i := 44) rfl) rfl, ?_⟩
  refine List.forall_mem_cons.mpr ⟨ok_aload_n C (show decode cL_law 617 = .ok (.aload_n 0, 1) from dk_at dq53_6 (i := 45) rfl) rfl rfl, ?_⟩
  refine List.forall_mem_cons.mpr ⟨ok_iload C (show decode cL_law 618 = .ok (.iload 4, 2) from dk_at dq53_6 (i := 46) rfl) rfl, ?_⟩
  refine List.forall_mem_cons.mpr ⟨ok_iconst C (show decode cL_law 620 = .ok (.iconst 3, 1) from dk_at dq53_6 (i := 47) rfl) (by decide) rfl, ?_⟩
  refine List.forall_mem_cons.mpr ⟨ok_iadd C (show decode cL_law 621 = .ok (.iadd, 1) from dk_at dq53_7 (i := 0) rfl) rfl, ?_⟩
  refine List.forall_mem_cons.mpr ⟨ok_sld C hX hb0 hb1 (show decode cL_law 622 = .ok (.iaload, 1) from dk_at dq53_7 (i := 1) rfl) rfl, ?_⟩
  refine List.forall_mem_cons.mpr ⟨ok_callV C h_X11_bare ⟨rfl, rfl⟩ rfl kw_1489 kw_1486 kw_1487 kw_1488 kw_11 rfl ds_X11_bare ⟨by decide, by decide⟩ (show decode cL_law 623 = .ok (.invokevirtual 69, 3) from dk_at dq53_7 (i := 2) rfl) rfl, ?_⟩
  refine List.forall_mem_cons.mpr ⟨ok_pop C (show decode cL_law 626 = .ok (.pop, 1) from dk_at dq53_7 (i := 3) rfl) rfl, ?_⟩
  refine List.forall_mem_cons.mpr ⟨ok_goto C (show decode cL_law 627 = .ok (.goto 813, 3) from dk_at dq53_7 (i := 4) rfl) (tg := 1440) (by decide) rfl, ?_⟩
  refine List.forall_mem_cons.mpr ⟨ok_aload_n C (show decode cL_law 630 = .ok (.aload_n 1, 1) from dk_at dq53_7 (i := 5) rfl) rfl rfl, ?_⟩
  refine List.forall_mem_cons.mpr ⟨ok_aload_n C (show decode cL_law 631 = .ok (.aload_n 0, 1) from dk_at dq53_7 (i := 6) rfl) rfl rfl, ?_⟩
  refine List.forall_mem_cons.mpr ⟨ok_iload C (show decode cL_law 632 = .ok (.iload 4, 2) from dk_at dq53_7 (i := 7) rfl) rfl, ?_⟩
  refine List.forall_mem_cons.mpr ⟨ok_iconst C (show decode cL_law 634 = .ok (.iconst 1, 1) from dk_at dq53_7 (i := 8) rfl) (by decide) rfl, ?_⟩
  refine List.forall_mem_cons.mpr ⟨ok_iadd C (show decode cL_law 635 = .ok (.iadd, 1) from dk_at dq53_7 (i := 9) rfl) rfl, ?_⟩
  refine List.forall_mem_cons.mpr ⟨ok_sld C hX hb0 hb1 (show decode cL_law 636 = .ok (.iaload, 1) from dk_at dq53_7 (i := 10) rfl) rfl, ?_⟩
  refine List.forall_mem_cons.mpr ⟨ok_aload_n C (show decode cL_law 637 = .ok (.aload_n 0, 1) from dk_at dq53_7 (i := 11) rfl) rfl rfl, ?_⟩
  refine List.forall_mem_cons.mpr ⟨ok_iload C (show decode cL_law 638 = .ok (.iload 4, 2) from dk_at dq53_7 (i := 12) rfl) rfl, ?_⟩
  refine List.forall_mem_cons.mpr ⟨ok_iconst C (show decode cL_law 640 = .ok (.iconst 2, 1) from dk_at dq53_7 (i := 13) rfl) (by decide) rfl, ?_⟩
  refine List.forall_mem_cons.mpr ⟨ok_iadd C (show decode cL_law 641 = .ok (.iadd, 1) from dk_at dq53_7 (i := 14) rfl) rfl, ?_⟩
  refine List.forall_mem_cons.mpr ⟨ok_sld C hX hb0 hb1 (show decode cL_law 642 = .ok (.iaload, 1) from dk_at dq53_7 (i := 15) rfl) rfl, ?_⟩
  refine List.forall_mem_cons.mpr ⟨ok_aload_n C (show decode cL_law 643 = .ok (.aload_n 0, 1) from dk_at dq53_7 (i := 16) rfl) rfl rfl, ?_⟩
  refine List.forall_mem_cons.mpr ⟨ok_iload C (show decode cL_law 644 = .ok (.iload 4, 2) from dk_at dq53_7 (i := 17) rfl) rfl, ?_⟩
  refine List.forall_mem_cons.mpr ⟨ok_iconst C (show decode cL_law 646 = .ok (.iconst 3, 1) from dk_at dq53_7 (i := 18) rfl) (by decide) rfl, ?_⟩
  refine List.forall_mem_cons.mpr ⟨ok_iadd C (show decode cL_law 647 = .ok (.iadd, 1) from dk_at dq53_7 (i := 19) rfl) rfl, ?_⟩
  refine List.forall_mem_cons.mpr ⟨ok_sld C hX hb0 hb1 (show decode cL_law 648 = .ok (.iaload, 1) from dk_at dq53_7 (i := 20) rfl) rfl, ?_⟩
  refine List.forall_mem_cons.mpr ⟨ok_callV C h_X10_waste ⟨rfl, rfl⟩ rfl kw_739 kw_736 kw_737 kw_738 kw_1 rfl ds_X10_waste ⟨by decide, by decide⟩ (show decode cL_law 649 = .ok (.invokevirtual 70, 3) from dk_at dq53_7 (i := 21) rfl) rfl, ?_⟩
  refine List.forall_mem_cons.mpr ⟨ok_pop C (show decode cL_law 652 = .ok (.pop, 1) from dk_at dq53_7 (i := 22) rfl) rfl, ?_⟩
  refine List.forall_mem_cons.mpr ⟨ok_aload_n C (show decode cL_law 653 = .ok (.aload_n 2, 1) from dk_at dq53_7 (i := 23) rfl) rfl rfl, ?_⟩
  refine List.forall_mem_cons.mpr ⟨ok_aload_n C (show decode cL_law 654 = .ok (.aload_n 0, 1) from dk_at dq53_7 (i := 24) rfl) rfl rfl, ?_⟩
  refine List.forall_mem_cons.mpr ⟨ok_iload C (show decode cL_law 655 = .ok (.iload 4, 2) from dk_at dq53_7 (i := 25) rfl) rfl, ?_⟩
  refine List.forall_mem_cons.mpr ⟨ok_iconst C (show decode cL_law 657 = .ok (.iconst 1, 1) from dk_at dq53_7 (i := 26) rfl) (by decide) rfl, ?_⟩
  refine List.forall_mem_cons.mpr ⟨ok_iadd C (show decode cL_law 658 = .ok (.iadd, 1) from dk_at dq53_7 (i := 27) rfl) rfl, ?_⟩
  refine List.forall_mem_cons.mpr ⟨ok_sld C hX hb0 hb1 (show decode cL_law 659 = .ok (.iaload, 1) from dk_at dq53_7 (i := 28) rfl) rfl, ?_⟩
  refine List.forall_mem_cons.mpr ⟨ok_aload_n C (show decode cL_law 660 = .ok (.aload_n 0, 1) from dk_at dq53_7 (i := 29) rfl) rfl rfl, ?_⟩
  refine List.forall_mem_cons.mpr ⟨ok_iload C (show decode cL_law 661 = .ok (.iload 4, 2) from dk_at dq53_7 (i := 30) rfl) rfl, ?_⟩
  refine List.forall_mem_cons.mpr ⟨ok_iconst C (show decode cL_law 663 = .ok (.iconst 2, 1) from dk_at dq53_7 (i := 31) rfl) (by decide) rfl, ?_⟩
  refine List.forall_mem_cons.mpr ⟨ok_iadd C (show decode cL_law 664 = .ok (.iadd, 1) from dk_at dq53_7 (i := 32) rfl) rfl, ?_⟩
  refine List.forall_mem_cons.mpr ⟨ok_sld C hX hb0 hb1 (show decode cL_law 665 = .ok (.iaload, 1) from dk_at dq53_7 (i := 33) rfl) rfl, ?_⟩
  refine List.forall_mem_cons.mpr ⟨ok_aload_n C (show decode cL_law 666 = .ok (.aload_n 0, 1) from dk_at dq53_7 (i := 34) rfl) rfl rfl, ?_⟩
  refine List.forall_mem_cons.mpr ⟨ok_iload C (show decode cL_law 667 = .ok (.iload 4, 2) from dk_at dq53_7 (i := 35) rfl) rfl, ?_⟩
  refine List.forall_mem_cons.mpr ⟨ok_iconst C (show decode cL_law 669 = .ok (.iconst 3, 1) from dk_at dq53_7 (i := 36) rfl) (by decide) rfl, ?_⟩
  refine List.forall_mem_cons.mpr ⟨ok_iadd C (show decode cL_law 670 = .ok (.iadd, 1) from dk_at dq53_7 (i := 37) rfl) rfl, ?_⟩
  refine List.forall_mem_cons.mpr ⟨ok_sld C hX hb0 hb1 (show decode cL_law 671 = .ok (.iaload, 1) from dk_at dq53_7 (i := 38) rfl) rfl, ?_⟩
  refine List.forall_mem_cons.mpr ⟨ok_callV C h_X11_waste ⟨rfl, rfl⟩ rfl kw_1497 kw_1494 kw_1495 kw_1496 kw_11 rfl ds_X11_waste ⟨by decide, by decide⟩ (show decode cL_law 672 = .ok (.invokevirtual 73, 3) from dk_at dq53_7 (i := 39) rfl) rfl, ?_⟩
  refine List.forall_mem_cons.mpr ⟨ok_pop C (show decode cL_law 675 = .ok (.pop, 1) from dk_at dq53_7 (i := 40) rfl) rfl, ?_⟩
  refine List.forall_mem_cons.mpr ⟨ok_goto C (show decode cL_law 676 = .ok (.goto 764, 3) from dk_at dq53_7 (i := 41) rfl) (tg := 1440) (by decide) rfl, ?_⟩
  exact fun _ h => absurd h List.not_mem_nil
def L_law_4 (xs : Nat → Int32) (n : Nat) (f_X10_die : List Value → ab_H → Option ab_O) (f_X11_die : List Value → ab_H → Option ab_O) (f_X10_days : List Value → ab_H → Option ab_O) (f_X11_days : List Value → ab_H → Option ab_O) (f_X10_undo : List Value → ab_H → Option ab_O) (f_X11_undo : List Value → ab_H → Option ab_O) (f_X10_lacks : List Value → ab_H → Option ab_O) (f_X11_lacks : List Value → ab_H → Option ab_O) (f_X10_falses : List Value → ab_H → Option ab_O) (f_X11_falses : List Value → ab_H → Option ab_O) (f_X10_going : List Value → ab_H → Option ab_O) (f_X11_going : List Value → ab_H → Option ab_O) (f_X10_goes : List Value → ab_H → Option ab_O) : List (Nat × ab_A) := [
  (679, ab_nx 680 (ab_aload 1)),
  (680, ab_nx 681 (ab_aload 0)),
  (681, ab_nx 683 (ab_iload 4)),
  (683, ab_nx 684 (ab_lit (.int 1))),
  (684, ab_nx 685 (ab_bin (fun x y => x + y))),
  (685, ab_nx 686 (ab_sld xs n)),
  (686, ab_nx 689 (ab_callV 2 10 f_X10_die 8 138 601024 7293034)),
  (689, ab_nx 690 ab_pop),
  (690, ab_nx 691 (ab_aload 2)),
  (691, ab_nx 692 (ab_aload 0)),
  (692, ab_nx 694 (ab_iload 4)),
  (694, ab_nx 695 (ab_lit (.int 1))),
  (695, ab_nx 696 (ab_bin (fun x y => x + y))),
  (696, ab_nx 697 (ab_sld xs n)),
  (697, ab_nx 700 (ab_callV 2 11 f_X11_die 0 0 601024 7293034)),
  (700, ab_nx 701 ab_pop),
  (701, ab_goto 1440),
  (704, ab_nx 705 (ab_aload 1)),
  (705, ab_nx 706 (ab_aload 0)),
  (706, ab_nx 708 (ab_iload 4)),
  (708, ab_nx 709 (ab_lit (.int 1))),
  (709, ab_nx 710 (ab_bin (fun x y => x + y))),
  (710, ab_nx 711 (ab_sld xs n)),
  (711, ab_nx 714 (ab_callV 2 10 f_X10_days 8 138 601024 7293034)),
  (714, ab_nx 715 ab_pop),
  (715, ab_nx 716 (ab_aload 2)),
  (716, ab_nx 717 (ab_aload 0)),
  (717, ab_nx 719 (ab_iload 4)),
  (719, ab_nx 720 (ab_lit (.int 1))),
  (720, ab_nx 721 (ab_bin (fun x y => x + y))),
  (721, ab_nx 722 (ab_sld xs n)),
  (722, ab_nx 725 (ab_callV 2 11 f_X11_days 0 0 601024 7293034)),
  (725, ab_nx 726 ab_pop),
  (726, ab_goto 1440),
  (729, ab_nx 730 (ab_aload 1)),
  (730, ab_nx 733 (ab_callV 1 10 f_X10_undo 0 0 601024 7293034)),
  (733, ab_nx 734 ab_pop),
  (734, ab_nx 735 (ab_aload 2)),
  (735, ab_nx 738 (ab_callV 1 11 f_X11_undo 0 0 601024 7293034)),
  (738, ab_nx 739 ab_pop),
  (739, ab_goto 1440),
  (742, ab_nx 743 (ab_aload 1)),
  (743, ab_nx 744 (ab_aload 0)),
  (744, ab_nx 746 (ab_iload 4)),
  (746, ab_nx 747 (ab_lit (.int 1))),
  (747, ab_nx 748 (ab_bin (fun x y => x + y))),
  (748, ab_nx 749 (ab_sld xs n)),
  (749, ab_nx 752 (ab_callV 2 10 f_X10_lacks 0 0 601024 7293034)),
  (752, ab_nx 753 ab_pop),
  (753, ab_nx 754 (ab_aload 2)),
  (754, ab_nx 755 (ab_aload 0)),
  (755, ab_nx 757 (ab_iload 4)),
  (757, ab_nx 758 (ab_lit (.int 1))),
  (758, ab_nx 759 (ab_bin (fun x y => x + y))),
  (759, ab_nx 760 (ab_sld xs n)),
  (760, ab_nx 763 (ab_callV 2 11 f_X11_lacks 0 0 601024 7293034)),
  (763, ab_nx 764 ab_pop),
  (764, ab_goto 1440),
  (767, ab_nx 768 (ab_aload 1)),
  (768, ab_nx 769 (ab_aload 0)),
  (769, ab_nx 771 (ab_iload 4)),
  (771, ab_nx 772 (ab_lit (.int 1))),
  (772, ab_nx 773 (ab_bin (fun x y => x + y))),
  (773, ab_nx 774 (ab_sld xs n)),
  (774, ab_nx 777 (ab_callV 2 10 f_X10_falses 0 0 601024 7293034)),
  (777, ab_nx 778 ab_pop),
  (778, ab_nx 779 (ab_aload 2)),
  (779, ab_nx 780 (ab_aload 0)),
  (780, ab_nx 782 (ab_iload 4)),
  (782, ab_nx 783 (ab_lit (.int 1))),
  (783, ab_nx 784 (ab_bin (fun x y => x + y))),
  (784, ab_nx 785 (ab_sld xs n)),
  (785, ab_nx 788 (ab_callV 2 11 f_X11_falses 0 0 601024 7293034)),
  (788, ab_nx 789 ab_pop),
  (789, ab_goto 1440),
  (792, ab_nx 793 (ab_aload 1)),
  (793, ab_nx 796 (ab_callV 1 10 f_X10_going 0 0 601024 7293034)),
  (796, ab_nx 797 ab_pop),
  (797, ab_nx 798 (ab_aload 2)),
  (798, ab_nx 801 (ab_callV 1 11 f_X11_going 0 0 601024 7293034)),
  (801, ab_nx 802 ab_pop),
  (802, ab_goto 1440),
  (805, ab_nx 806 (ab_aload 1)),
  (806, ab_nx 807 (ab_aload 0)),
  (807, ab_nx 809 (ab_iload 4)),
  (809, ab_nx 810 (ab_lit (.int 1))),
  (810, ab_nx 811 (ab_bin (fun x y => x + y))),
  (811, ab_nx 812 (ab_sld xs n)),
  (812, ab_nx 815 (ab_callV 2 10 f_X10_goes 0 0 601024 7293034)),
  (815, ab_nx 816 ab_pop)]
set_option maxRecDepth 100000 in
theorem dq53_8 : ([(679, .aload_n 1, 1), (680, .aload_n 0, 1), (681, .iload 4, 2), (683, .iconst 1, 1), (684, .iadd, 1), (685, .iaload, 1), (686, .invokevirtual 74, 3), (689, .pop, 1), (690, .aload_n 2, 1), (691, .aload_n 0, 1), (692, .iload 4, 2), (694, .iconst 1, 1), (695, .iadd, 1), (696, .iaload, 1), (697, .invokevirtual 77, 3), (700, .pop, 1), (701, .goto 739, 3), (704, .aload_n 1, 1), (705, .aload_n 0, 1), (706, .iload 4, 2), (708, .iconst 1, 1), (709, .iadd, 1), (710, .iaload, 1), (711, .invokevirtual 78, 3), (714, .pop, 1), (715, .aload_n 2, 1), (716, .aload_n 0, 1), (717, .iload 4, 2), (719, .iconst 1, 1), (720, .iadd, 1), (721, .iaload, 1), (722, .invokevirtual 81, 3), (725, .pop, 1), (726, .goto 714, 3), (729, .aload_n 1, 1), (730, .invokevirtual 82, 3), (733, .pop, 1), (734, .aload_n 2, 1), (735, .invokevirtual 85, 3), (738, .pop, 1), (739, .goto 701, 3), (742, .aload_n 1, 1), (743, .aload_n 0, 1), (744, .iload 4, 2), (746, .iconst 1, 1), (747, .iadd, 1), (748, .iaload, 1), (749, .invokevirtual 86, 3)] : List (Nat × Instr × Nat)).all (fun q => decide (decode cL_law q.1 = .ok q.2)) = true := by decide +kernel
set_option maxRecDepth 100000 in
theorem dq53_9 : ([(752, .pop, 1), (753, .aload_n 2, 1), (754, .aload_n 0, 1), (755, .iload 4, 2), (757, .iconst 1, 1), (758, .iadd, 1), (759, .iaload, 1), (760, .invokevirtual 89, 3), (763, .pop, 1), (764, .goto 676, 3), (767, .aload_n 1, 1), (768, .aload_n 0, 1), (769, .iload 4, 2), (771, .iconst 1, 1), (772, .iadd, 1), (773, .iaload, 1), (774, .invokevirtual 90, 3), (777, .pop, 1), (778, .aload_n 2, 1), (779, .aload_n 0, 1), (780, .iload 4, 2), (782, .iconst 1, 1), (783, .iadd, 1), (784, .iaload, 1), (785, .invokevirtual 93, 3), (788, .pop, 1), (789, .goto 651, 3), (792, .aload_n 1, 1), (793, .invokevirtual 94, 3), (796, .pop, 1), (797, .aload_n 2, 1), (798, .invokevirtual 97, 3), (801, .pop, 1), (802, .goto 638, 3), (805, .aload_n 1, 1), (806, .aload_n 0, 1), (807, .iload 4, 2), (809, .iconst 1, 1), (810, .iadd, 1), (811, .iaload, 1), (812, .invokevirtual 98, 3), (815, .pop, 1)] : List (Nat × Instr × Nat)).all (fun q => decide (decode cL_law q.1 = .ok q.2)) = true := by decide +kernel
set_option maxRecDepth 100000 in
set_option maxHeartbeats 4000000 in
theorem law_4 {p : Program} {l : Launch} {e : Env} {s : State} {m : MethodId} {below : List Frame} {meth : Method} {c : Code} {cd : Cond} {b : ab_B} {D : va_G} {cA : Nat → ClassId} {o : ab_O} {xs : Nat → Int32} {n bb : Nat} {nm : String} (C : ab_cx p l e room_1 s m #[Value.ref bb] below meth c D ab_cl cA (ab_E0 b) (⟨RL, nm, "([I)Z"⟩ : MethodName) cL_law 7 ret (cd :: ab_G) room_1) (hX : va_X bb n xs s s.heap) (hb0 : b.2 0 = bb) (hb1 : b.1 = s.heap.size ∧ bb < s.heap.size) {f_X10_die : List Value → ab_H → Option ab_O} (h_X10_die : ab_M l b D ab_cl cA (ab_E0 b) yX10_die (Cond.code yX10_die cX10_die 3 (some .int) :: ab_G) ({ frames := 4, cells := 8, slots := 138, locals := 400 } : Room) f_X10_die) {f_X11_die : List Value → ab_H → Option ab_O} (h_X11_die : ab_M l b D ab_cl cA (ab_E0 b) yX11_die (Cond.code yX11_die cX11_die 2 (some .int) :: ab_G) ({ frames := 3, cells := 0, slots := 0, locals := 300 } : Room) f_X11_die) {f_X10_days : List Value → ab_H → Option ab_O} (h_X10_days : ab_M l b D ab_cl cA (ab_E0 b) yX10_days (Cond.code yX10_days cX10_days 2 (some .int) :: ab_G) ({ frames := 6, cells := 8, slots := 138, locals := 600 } : Room) f_X10_days) {f_X11_days : List Value → ab_H → Option ab_O} (h_X11_days : ab_M l b D ab_cl cA (ab_E0 b) yX11_days (Cond.code yX11_days cX11_days 2 (some .int) :: ab_G) ({ frames := 9, cells := 0, slots := 0, locals := 900 } : Room) f_X11_days) {f_X10_undo : List Value → ab_H → Option ab_O} (h_X10_undo : ab_M l b D ab_cl cA (ab_E0 b) yX10_undo (Cond.code yX10_undo cX10_undo 1 (some .int) :: ab_G) ({ frames := 4, cells := 0, slots := 0, locals := 400 } : Room) f_X10_undo) {f_X11_undo : List Value → ab_H → Option ab_O} (h_X11_undo : ab_M l b D ab_cl cA (ab_E0 b) yX11_undo (Cond.code yX11_undo cX11_undo 2 (some .int) :: ab_G) ({ frames := 1, cells := 0, slots := 0, locals := 100 } : Room) f_X11_undo) {f_X10_lacks : List Value → ab_H → Option ab_O} (h_X10_lacks : ab_M l b D ab_cl cA (ab_E0 b) yX10_lacks (Cond.code yX10_lacks cX10_lacks 4 (some .int) :: ab_G) ({ frames := 3, cells := 0, slots := 0, locals := 300 } : Room) f_X10_lacks) {f_X11_lacks : List Value → ab_H → Option ab_O} (h_X11_lacks : ab_M l b D ab_cl cA (ab_E0 b) yX11_lacks (Cond.code yX11_lacks cX11_lacks 4 (some .int) :: ab_G) ({ frames := 3, cells := 0, slots := 0, locals := 300 } : Room) f_X11_lacks) {f_X10_falses : List Value → ab_H → Option ab_O} (h_X10_falses : ab_M l b D ab_cl cA (ab_E0 b) yX10_falses (Cond.code yX10_falses cX10_falses 4 (some .int) :: ab_G) ({ frames := 3, cells := 0, slots := 0, locals := 300 } : Room) f_X10_falses) {f_X11_falses : List Value → ab_H → Option ab_O} (h_X11_falses : ab_M l b D ab_cl cA (ab_E0 b) yX11_falses (Cond.code yX11_falses cX11_falses 4 (some .int) :: ab_G) ({ frames := 4, cells := 0, slots := 0, locals := 400 } : Room) f_X11_falses) {f_X10_going : List Value → ab_H → Option ab_O} (h_X10_going : ab_M l b D ab_cl cA (ab_E0 b) yX10_going (Cond.code yX10_going cX10_going 1 (some .int) :: ab_G) ({ frames := 5, cells := 0, slots := 0, locals := 500 } : Room) f_X10_going) {f_X11_going : List Value → ab_H → Option ab_O} (h_X11_going : ab_M l b D ab_cl cA (ab_E0 b) yX11_going (Cond.code yX11_going cX11_going 1 (some .int) :: ab_G) ({ frames := 7, cells := 0, slots := 0, locals := 700 } : Room) f_X11_going) {f_X10_goes : List Value → ab_H → Option ab_O} (h_X10_goes : ab_M l b D ab_cl cA (ab_E0 b) yX10_goes (Cond.code yX10_goes cX10_goes 2 (some .int) :: ab_G) ({ frames := 5, cells := 0, slots := 0, locals := 500 } : Room) f_X10_goes) : ∀ q ∈ L_law_4 xs n f_X10_die f_X11_die f_X10_days f_X11_days f_X10_undo f_X11_undo f_X10_lacks f_X11_lacks f_X10_falses f_X11_falses f_X10_going f_X11_going f_X10_goes, ab_ok p l e room_1 s m #[Value.ref bb] below meth c (lw_Z below #[Value.ref bb] s) b D ab_cl cA 7 o (fun i => i) q.1 q.2 := by
  unfold L_law_4
  refine List.forall_mem_cons.mpr ⟨ok_aload_n C (show decode cL_law 679 = .ok (.aload_n 1, 1) from dk_at dq53_8 (i := 0) rfl) rfl rfl, ?_⟩
  refine List.forall_mem_cons.mpr ⟨ok_aload_n C (show decode cL_law 680 = .ok (.aload_n 0, 1) from dk_at dq53_8 (i := 1) rfl) rfl rfl, ?_⟩
  refine List.forall_mem_cons.mpr ⟨ok_iload C (show decode cL_law 681 = .ok (.iload 4, 2) from dk_at dq53_8 (i := 2) rfl) rfl, ?_⟩
  refine List.forall_mem_cons.mpr ⟨ok_iconst C (show decode cL_law 683 = .ok (.iconst 1, 1) from dk_at dq53_8 (i := 3) rfl) (by decide) rfl, ?_⟩
  refine List.forall_mem_cons.mpr ⟨ok_iadd C (show decode cL_law 684 = .ok (.iadd, 1) from dk_at dq53_8 (i := 4) rfl) rfl, ?_⟩
  refine List.forall_mem_cons.mpr ⟨ok_sld C hX hb0 hb1 (show decode cL_law 685 = .ok (.iaload, 1) from dk_at dq53_8 (i := 5) rfl) rfl, ?_⟩
  refine List.forall_mem_cons.mpr ⟨ok_callV C h_X10_die ⟨rfl, rfl⟩ rfl kw_743 kw_740 kw_741 kw_742 kw_1 rfl ds_X10_die ⟨by decide, by decide⟩ (show decode cL_law 686 = .ok (.invokevirtual 74, 3) from dk_at dq53_8 (i := 6) rfl) rfl, ?_⟩
  refine List.forall_mem_cons.mpr ⟨ok_pop C (show decode cL_law 689 = .ok (.pop, 1) from dk_at dq53_8 (i := 7) rfl) rfl, ?_⟩
  refine List.forall_mem_cons.mpr ⟨ok_aload_n C (show decode cL_law 690 = .ok (.aload_n 2, 1) from dk_at dq53_8 (i := 8) rfl) rfl rfl, ?_⟩
  refine List.forall_mem_cons.mpr ⟨ok_aload_n C (show decode cL_law 691 = .ok (.aload_n 0, 1) from dk_at dq53_8 (i := 9) rfl) rfl rfl, ?_⟩
  refine List.forall_mem_cons.mpr ⟨ok_iload C (show decode cL_law 692 = .ok (.iload 4, 2) from dk_at dq53_8 (i := 10) rfl) rfl, ?_⟩
  refine List.forall_mem_cons.mpr ⟨ok_iconst C (show decode cL_law 694 = .ok (.iconst 1, 1) from dk_at dq53_8 (i := 11) rfl) (by decide) rfl, ?_⟩
  refine List.forall_mem_cons.mpr ⟨ok_iadd C (show decode cL_law 695 = .ok (.iadd, 1) from dk_at dq53_8 (i := 12) rfl) rfl, ?_⟩
  refine List.forall_mem_cons.mpr ⟨ok_sld C hX hb0 hb1 (show decode cL_law 696 = .ok (.iaload, 1) from dk_at dq53_8 (i := 13) rfl) rfl, ?_⟩
  refine List.forall_mem_cons.mpr ⟨ok_callV C h_X11_die ⟨rfl, rfl⟩ rfl kw_1501 kw_1498 kw_1499 kw_1500 kw_11 rfl ds_X11_die ⟨by decide, by decide⟩ (show decode cL_law 697 = .ok (.invokevirtual 77, 3) from dk_at dq53_8 (i := 14) rfl) rfl, ?_⟩
  refine List.forall_mem_cons.mpr ⟨ok_pop C (show decode cL_law 700 = .ok (.pop, 1) from dk_at dq53_8 (i := 15) rfl) rfl, ?_⟩
  refine List.forall_mem_cons.mpr ⟨ok_goto C (show decode cL_law 701 = .ok (.goto 739, 3) from dk_at dq53_8 (i := 16) rfl) (tg := 1440) (by decide) rfl, ?_⟩
  refine List.forall_mem_cons.mpr ⟨ok_aload_n C (show decode cL_law 704 = .ok (.aload_n 1, 1) from dk_at dq53_8 (i := 17) rfl) rfl rfl, ?_⟩
  refine List.forall_mem_cons.mpr ⟨ok_aload_n C (show decode cL_law 705 = .ok (.aload_n 0, 1) from dk_at dq53_8 (i := 18) rfl) rfl rfl, ?_⟩
  refine List.forall_mem_cons.mpr ⟨ok_iload C (show decode cL_law 706 = .ok (.iload 4, 2) from dk_at dq53_8 (i := 19) rfl) rfl, ?_⟩
  refine List.forall_mem_cons.mpr ⟨ok_iconst C (show decode cL_law 708 = .ok (.iconst 1, 1) from dk_at dq53_8 (i := 20) rfl) (by decide) rfl, ?_⟩
  refine List.forall_mem_cons.mpr ⟨ok_iadd C (show decode cL_law 709 = .ok (.iadd, 1) from dk_at dq53_8 (i := 21) rfl) rfl, ?_⟩
  refine List.forall_mem_cons.mpr ⟨ok_sld C hX hb0 hb1 (show decode cL_law 710 = .ok (.iaload, 1) from dk_at dq53_8 (i := 22) rfl) rfl, ?_⟩
  refine List.forall_mem_cons.mpr ⟨ok_callV C h_X10_days ⟨rfl, rfl⟩ rfl kw_747 kw_744 kw_745 kw_746 kw_1 rfl ds_X10_days ⟨by decide, by decide⟩ (show decode cL_law 711 = .ok (.invokevirtual 78, 3) from dk_at dq53_8 (i := 23) rfl) rfl, ?_⟩
  refine List.forall_mem_cons.mpr ⟨ok_pop C (show decode cL_law 714 = .ok (.pop, 1) from dk_at dq53_8 (i := 24) rfl) rfl, ?_⟩
  refine List.forall_mem_cons.mpr ⟨ok_aload_n C (show decode cL_law 715 = .ok (.aload_n 2, 1) from dk_at dq53_8 (i := 25) rfl) rfl rfl, ?_⟩
  refine List.forall_mem_cons.mpr ⟨ok_aload_n C (show decode cL_law 716 = .ok (.aload_n 0, 1) from dk_at dq53_8 (i := 26) rfl) rfl rfl, ?_⟩
  refine List.forall_mem_cons.mpr ⟨ok_iload C (show decode cL_law 717 = .ok (.iload 4, 2) from dk_at dq53_8 (i := 27) rfl) rfl, ?_⟩
  refine List.forall_mem_cons.mpr ⟨ok_iconst C (show decode cL_law 719 = .ok (.iconst 1, 1) from dk_at dq53_8 (i := 28) rfl) (by decide) rfl, ?_⟩
  refine List.forall_mem_cons.mpr ⟨ok_iadd C (show decode cL_law 720 = .ok (.iadd, 1) from dk_at dq53_8 (i := 29) rfl) rfl, ?_⟩
  refine List.forall_mem_cons.mpr ⟨ok_sld C hX hb0 hb1 (show decode cL_law 721 = .ok (.iaload, 1) from dk_at dq53_8 (i := 30) rfl) rfl, ?_⟩
  refine List.forall_mem_cons.mpr ⟨ok_callV C h_X11_days ⟨rfl, rfl⟩ rfl kw_1505 kw_1502 kw_1503 kw_1504 kw_11 rfl ds_X11_days ⟨by decide, by decide⟩ (show decode cL_law 722 = .ok (.invokevirtual 81, 3) from dk_at dq53_8 (i := 31) rfl) rfl, ?_⟩
  refine List.forall_mem_cons.mpr ⟨ok_pop C (show decode cL_law 725 = .ok (.pop, 1) from dk_at dq53_8 (i := 32) rfl) rfl, ?_⟩
  refine List.forall_mem_cons.mpr ⟨ok_goto C (show decode cL_law 726 = .ok (.goto 714, 3) from dk_at dq53_8 (i := 33) rfl) (tg := 1440) (by decide) rfl, ?_⟩
  refine List.forall_mem_cons.mpr ⟨ok_aload_n C (show decode cL_law 729 = .ok (.aload_n 1, 1) from dk_at dq53_8 (i := 34) rfl) rfl rfl, ?_⟩
  refine List.forall_mem_cons.mpr ⟨ok_callV C h_X10_undo ⟨rfl, rfl⟩ rfl kw_788 kw_785 kw_786 kw_787 kw_1 rfl ds_X10_undo ⟨by decide, by decide⟩ (show decode cL_law 730 = .ok (.invokevirtual 82, 3) from dk_at dq53_8 (i := 35) rfl) rfl, ?_⟩
  refine List.forall_mem_cons.mpr ⟨ok_pop C (show decode cL_law 733 = .ok (.pop, 1) from dk_at dq53_8 (i := 36) rfl) rfl, ?_⟩
  refine List.forall_mem_cons.mpr ⟨ok_aload_n C (show decode cL_law 734 = .ok (.aload_n 2, 1) from dk_at dq53_8 (i := 37) rfl) rfl rfl, ?_⟩
  refine List.forall_mem_cons.mpr ⟨ok_callV C h_X11_undo ⟨rfl, rfl⟩ rfl kw_1532 kw_1529 kw_1530 kw_1531 kw_11 rfl ds_X11_undo ⟨by decide, by decide⟩ (show decode cL_law 735 = .ok (.invokevirtual 85, 3) from dk_at dq53_8 (i := 38) rfl) rfl, ?_⟩
  refine List.forall_mem_cons.mpr ⟨ok_pop C (show decode cL_law 738 = .ok (.pop, 1) from dk_at dq53_8 (i := 39) rfl) rfl, ?_⟩
  refine List.forall_mem_cons.mpr ⟨ok_goto C (show decode cL_law 739 = .ok (.goto 701, 3) from dk_at dq53_8 (i := 40) rfl) (tg := 1440) (by decide) rfl, ?_⟩
  refine List.forall_mem_cons.mpr ⟨ok_aload_n C (show decode cL_law 742 = .ok (.aload_n 1, 1) from dk_at dq53_8 (i := 41) rfl) rfl rfl, ?_⟩
  refine List.forall_mem_cons.mpr ⟨ok_aload_n C (show decode cL_law 743 = .ok (.aload_n 0, 1) from dk_at dq53_8 (i := 42) rfl) rfl rfl, ?_⟩
  refine List.forall_mem_cons.mpr ⟨ok_iload C (show decode cL_law 744 = .ok (.iload 4, 2) from dk_at dq53_8 (i := 43) rfl) rfl, ?_⟩
  refine List.forall_mem_cons.mpr ⟨ok_iconst C (show decode cL_law 746 = .ok (.iconst 1, 1) from dk_at dq53_8 (i := 44) rfl) (by decide) rfl, ?_⟩
  refine List.forall_mem_cons.mpr ⟨ok_iadd C (show decode cL_law 747 = .ok (.iadd, 1) from dk_at dq53_8 (i := 45) rfl) rfl, ?_⟩
  refine List.forall_mem_cons.mpr ⟨ok_sld C hX hb0 hb1 (show decode cL_law 748 = .ok (.iaload, 1) from dk_at dq53_8 (i := 46) rfl) rfl, ?_⟩
  refine List.forall_mem_cons.mpr ⟨ok_callV C h_X10_lacks ⟨rfl, rfl⟩ rfl kw_656 kw_653 kw_654 kw_655 kw_1 rfl ds_X10_lacks ⟨by decide, by decide⟩ (show decode cL_law 749 = .ok (.invokevirtual 86, 3) from dk_at dq53_8 (i := 47) rfl) rfl, ?_⟩
  refine List.forall_mem_cons.mpr ⟨ok_pop C (show decode cL_law 752 = .ok (.pop, 1) from dk_at dq53_9 (i := 0) rfl) rfl, ?_⟩
  refine List.forall_mem_cons.mpr ⟨ok_aload_n C (show decode cL_law 753 = .ok (.aload_n 2, 1) from dk_at dq53_9 (i := 1) rfl) rfl rfl, ?_⟩
  refine List.forall_mem_cons.mpr ⟨ok_aload_n C (show decode cL_law 754 = .ok (.aload_n 0, 1) from dk_at dq53_9 (i := 2) rfl) rfl rfl, ?_⟩
  refine List.forall_mem_cons.mpr ⟨ok_iload C (show decode cL_law 755 = .ok (.iload 4, 2) from dk_at dq53_9 (i := 3) rfl) rfl, ?_⟩
  refine List.forall_mem_cons.mpr ⟨ok_iconst C (show decode cL_law 757 = .ok (.iconst 1, 1) from dk_at dq53_9 (i := 4) rfl) (by decide) rfl, ?_⟩
  refine List.forall_mem_cons.mpr ⟨ok_iadd C (show decode cL_law 758 = .ok (.iadd, 1) from dk_at dq53_9 (i := 5) rfl) rfl, ?_⟩
  refine List.forall_mem_cons.mpr ⟨ok_sld C hX hb0 hb1 (show decode cL_law 759 = .ok (.iaload, 1) from dk_at dq53_9 (i := 6) rfl) rfl, ?_⟩
  refine List.forall_mem_cons.mpr ⟨ok_callV C h_X11_lacks ⟨rfl, rfl⟩ rfl kw_1536 kw_1533 kw_1534 kw_1535 kw_11 rfl ds_X11_lacks ⟨by decide, by decide⟩ (show decode cL_law 760 = .ok (.invokevirtual 89, 3) from dk_at dq53_9 (i := 7) rfl) rfl, ?_⟩
  refine List.forall_mem_cons.mpr ⟨ok_pop C (show decode cL_law 763 = .ok (.pop, 1) from dk_at dq53_9 (i := 8) rfl) rfl, ?_⟩
  refine List.forall_mem_cons.mpr ⟨ok_goto C (show decode cL_law 764 = .ok (.goto 676, 3) from dk_at dq53_9 (i := 9) rfl) (tg := 1440) (by decide) rfl, ?_⟩
  refine List.forall_mem_cons.mpr ⟨ok_aload_n C (show decode cL_law 767 = .ok (.aload_n 1, 1) from dk_at dq53_9 (i := 10) rfl) rfl rfl, ?_⟩
  refine List.forall_mem_cons.mpr ⟨ok_aload_n C (show decode cL_law 768 = .ok (.aload_n 0, 1) from dk_at dq53_9 (i := 11) rfl) rfl rfl, ?_⟩
  refine List.forall_mem_cons.mpr ⟨ok_iload C (show decode cL_law 769 = .ok (.iload 4, 2) from dk_at dq53_9 (i := 12) rfl) rfl, ?_⟩
  refine List.forall_mem_cons.mpr ⟨ok_iconst C (show decode cL_law 771 = .ok (.iconst 1, 1) from dk_at dq53_9 (i := 13) rfl) (by decide) rfl, ?_⟩
  refine List.forall_mem_cons.mpr ⟨ok_iadd C (show decode cL_law 772 = .ok (.iadd, 1) from dk_at dq53_9 (i := 14) rfl) rfl, ?_⟩
  refine List.forall_mem_cons.mpr ⟨ok_sld C hX hb0 hb1 (show decode cL_law 773 = .ok (.iaload, 1) from dk_at dq53_9 (i := 15) rfl) rfl, ?_⟩
  refine List.forall_mem_cons.mpr ⟨ok_callV C h_X10_falses ⟨rfl, rfl⟩ rfl kw_660 kw_657 kw_658 kw_659 kw_1 rfl ds_X10_falses ⟨by decide, by decide⟩ (show decode cL_law 774 = .ok (.invokevirtual 90, 3) from dk_at dq53_9 (i := 16) rfl) rfl, ?_⟩
  refine List.forall_mem_cons.mpr ⟨ok_pop C (show decode cL_law 777 = .ok (.pop, 1) from dk_at dq53_9 (i := 17) rfl) rfl, ?_⟩
  refine List.forall_mem_cons.mpr ⟨ok_aload_n C (show decode cL_law 778 = .ok (.aload_n 2, 1) from dk_at dq53_9 (i := 18) rfl) rfl rfl, ?_⟩
  refine List.forall_mem_cons.mpr ⟨ok_aload_n C (show decode cL_law 779 = .ok (.aload_n 0, 1) from dk_at dq53_9 (i := 19) rfl) rfl rfl, ?_⟩
  refine List.forall_mem_cons.mpr ⟨ok_iload C (show decode cL_law 780 = .ok (.iload 4, 2) from dk_at dq53_9 (i := 20) rfl) rfl, ?_⟩
  refine List.forall_mem_cons.mpr ⟨ok_iconst C (show decode cL_law 782 = .ok (.iconst 1, 1) from dk_at dq53_9 (i := 21) rfl) (by decide) rfl, ?_⟩
  refine List.forall_mem_cons.mpr ⟨ok_iadd C (show decode cL_law 783 = .ok (.iadd, 1) from dk_at dq53_9 (i := 22) rfl) rfl, ?_⟩
  refine List.forall_mem_cons.mpr ⟨ok_sld C hX hb0 hb1 (show decode cL_law 784 = .ok (.iaload, 1) from dk_at dq53_9 (i := 23) rfl) rfl, ?_⟩
  refine List.forall_mem_cons.mpr ⟨ok_callV C h_X11_falses ⟨rfl, rfl⟩ rfl kw_1540 kw_1537 kw_1538 kw_1539 kw_11 rfl ds_X11_falses ⟨by decide, by decide⟩ (show decode cL_law 785 = .ok (.invokevirtual 93, 3) from dk_at dq53_9 (i := 24) rfl) rfl, ?_⟩
  refine List.forall_mem_cons.mpr ⟨ok_pop C (show decode cL_law 788 = .ok (.pop, 1) from dk_at dq53_9 (i := 25) rfl) rfl, ?_⟩
  refine List.forall_mem_cons.mpr ⟨ok_goto C (show decode cL_law 789 = .ok (.goto 651, 3) from dk_at dq53_9 (i := 26) rfl) (tg := 1440) (by decide) rfl, ?_⟩
  refine List.forall_mem_cons.mpr ⟨ok_aload_n C (show decode cL_law 792 = .ok (.aload_n 1, 1) from dk_at dq53_9 (i := 27) rfl) rfl rfl, ?_⟩
  refine List.forall_mem_cons.mpr ⟨ok_callV C h_X10_going ⟨rfl, rfl⟩ rfl kw_796 kw_793 kw_794 kw_795 kw_1 rfl ds_X10_going ⟨by decide, by decide⟩ (show decode cL_law 793 = .ok (.invokevirtual 94, 3) from dk_at dq53_9 (i := 28) rfl) rfl, ?_⟩
  refine List.forall_mem_cons.mpr ⟨ok_pop C (show decode cL_law 796 = .ok (.pop, 1) from dk_at dq53_9 (i := 29) rfl) rfl, ?_⟩
  refine List.forall_mem_cons.mpr ⟨ok_aload_n C (show decode cL_law 797 = .ok (.aload_n 2, 1) from dk_at dq53_9 (i := 30) rfl) rfl rfl, ?_⟩
  refine List.forall_mem_cons.mpr ⟨ok_callV C h_X11_going ⟨rfl, rfl⟩ rfl kw_1544 kw_1541 kw_1542 kw_1543 kw_11 rfl ds_X11_going ⟨by decide, by decide⟩ (show decode cL_law 798 = .ok (.invokevirtual 97, 3) from dk_at dq53_9 (i := 31) rfl) rfl, ?_⟩
  refine List.forall_mem_cons.mpr ⟨ok_pop C (show decode cL_law 801 = .ok (.pop, 1) from dk_at dq53_9 (i := 32) rfl) rfl, ?_⟩
  refine List.forall_mem_cons.mpr ⟨ok_goto C (show decode cL_law 802 = .ok (.goto 638, 3) from dk_at dq53_9 (i := 33) rfl) (tg := 1440) (by decide) rfl, ?_⟩
  refine List.forall_mem_cons.mpr ⟨ok_aload_n C (show decode cL_law 805 = .ok (.aload_n 1, 1) from dk_at dq53_9 (i := 34) rfl) rfl rfl, ?_⟩
  refine List.forall_mem_cons.mpr ⟨ok_aload_n C (show decode cL_law 806 = .ok (.aload_n 0, 1) from dk_at dq53_9 (i := 35) rfl) rfl rfl, ?_⟩
  refine List.forall_mem_cons.mpr ⟨ok_iload C (show decode cL_law 807 = .ok (.iload 4, 2) from dk_at dq53_9 (i := 36) rfl) rfl, ?_⟩
  refine List.forall_mem_cons.mpr ⟨ok_iconst C (show decode cL_law 809 = .ok (.iconst 1, 1) from dk_at dq53_9 (i := 37) rfl) (by decide) rfl, ?_⟩
  refine List.forall_mem_cons.mpr ⟨ok_iadd C (show decode cL_law 810 = .ok (.iadd, 1) from dk_at dq53_9 (i := 38) rfl) rfl, ?_⟩
  refine List.forall_mem_cons.mpr ⟨ok_sld C hX hb0 hb1 (show decode cL_law 811 = .ok (.iaload, 1) from dk_at dq53_9 (i := 39) rfl) rfl, ?_⟩
  refine List.forall_mem_cons.mpr ⟨ok_callV C h_X10_goes ⟨rfl, rfl⟩ rfl kw_801 kw_798 kw_799 kw_800 kw_1 rfl ds_X10_goes ⟨by decide, by decide⟩ (show decode cL_law 812 = .ok (.invokevirtual 98, 3) from dk_at dq53_9 (i := 40) rfl) rfl, ?_⟩
  refine List.forall_mem_cons.mpr ⟨ok_pop C (show decode cL_law 815 = .ok (.pop, 1) from dk_at dq53_9 (i := 41) rfl) rfl, ?_⟩
  exact fun _ h => absurd h List.not_mem_nil
def L_law_5 (xs : Nat → Int32) (n : Nat) (f_X11_goes : List Value → ab_H → Option ab_O) (f_X10_crosses : List Value → ab_H → Option ab_O) (f_X11_crosses : List Value → ab_H → Option ab_O) (f_X10_comes : List Value → ab_H → Option ab_O) (f_X11_comes : List Value → ab_H → Option ab_O) (f_X10_without : List Value → ab_H → Option ab_O) : List (Nat × ab_A) := [
  (816, ab_nx 817 (ab_aload 2)),
  (817, ab_nx 818 (ab_aload 0)),
  (818, ab_nx 820 (ab_iload 4)),
  (820, ab_nx 821 (ab_lit (.int 1))),
  (821, ab_nx 822 (ab_bin (fun x y => x + y))),
  (822, ab_nx 823 (ab_sld xs n)),
  (823, ab_nx 826 (ab_callV 2 11 f_X11_goes 0 0 601024 7293034)),
  (826, ab_nx 827 ab_pop),
  (827, ab_goto 1440),
  (830, ab_nx 831 (ab_aload 1)),
  (831, ab_nx 832 (ab_aload 0)),
  (832, ab_nx 834 (ab_iload 4)),
  (834, ab_nx 835 (ab_lit (.int 1))),
  (835, ab_nx 836 (ab_bin (fun x y => x + y))),
  (836, ab_nx 837 (ab_sld xs n)),
  (837, ab_nx 840 (ab_callV 2 10 f_X10_crosses 0 0 601024 7293034)),
  (840, ab_nx 841 ab_pop),
  (841, ab_nx 842 (ab_aload 2)),
  (842, ab_nx 843 (ab_aload 0)),
  (843, ab_nx 845 (ab_iload 4)),
  (845, ab_nx 846 (ab_lit (.int 1))),
  (846, ab_nx 847 (ab_bin (fun x y => x + y))),
  (847, ab_nx 848 (ab_sld xs n)),
  (848, ab_nx 851 (ab_callV 2 11 f_X11_crosses 0 0 601024 7293034)),
  (851, ab_nx 852 ab_pop),
  (852, ab_goto 1440),
  (855, ab_nx 856 (ab_aload 1)),
  (856, ab_nx 857 (ab_aload 0)),
  (857, ab_nx 859 (ab_iload 4)),
  (859, ab_nx 860 (ab_lit (.int 1))),
  (860, ab_nx 861 (ab_bin (fun x y => x + y))),
  (861, ab_nx 862 (ab_sld xs n)),
  (862, ab_nx 863 (ab_aload 0)),
  (863, ab_nx 865 (ab_iload 4)),
  (865, ab_nx 866 (ab_lit (.int 2))),
  (866, ab_nx 867 (ab_bin (fun x y => x + y))),
  (867, ab_nx 868 (ab_sld xs n)),
  (868, ab_nx 871 (ab_callV 3 10 f_X10_comes 0 0 601024 7293034)),
  (871, ab_nx 872 ab_pop),
  (872, ab_nx 873 (ab_aload 2)),
  (873, ab_nx 874 (ab_aload 0)),
  (874, ab_nx 876 (ab_iload 4)),
  (876, ab_nx 877 (ab_lit (.int 1))),
  (877, ab_nx 878 (ab_bin (fun x y => x + y))),
  (878, ab_nx 879 (ab_sld xs n)),
  (879, ab_nx 880 (ab_aload 0)),
  (880, ab_nx 882 (ab_iload 4)),
  (882, ab_nx 883 (ab_lit (.int 2))),
  (883, ab_nx 884 (ab_bin (fun x y => x + y))),
  (884, ab_nx 885 (ab_sld xs n)),
  (885, ab_nx 888 (ab_callV 3 11 f_X11_comes 0 0 601024 7293034)),
  (888, ab_nx 889 ab_pop),
  (889, ab_goto 1440),
  (892, ab_nx 893 (ab_aload 1)),
  (893, ab_nx 894 (ab_aload 0)),
  (894, ab_nx 896 (ab_iload 4)),
  (896, ab_nx 897 (ab_lit (.int 1))),
  (897, ab_nx 898 (ab_bin (fun x y => x + y))),
  (898, ab_nx 899 (ab_sld xs n)),
  (899, ab_nx 900 (ab_aload 0)),
  (900, ab_nx 902 (ab_iload 4)),
  (902, ab_nx 903 (ab_lit (.int 2))),
  (903, ab_nx 904 (ab_bin (fun x y => x + y))),
  (904, ab_nx 905 (ab_sld xs n)),
  (905, ab_nx 906 (ab_aload 0)),
  (906, ab_nx 908 (ab_iload 4)),
  (908, ab_nx 909 (ab_lit (.int 3))),
  (909, ab_nx 910 (ab_bin (fun x y => x + y))),
  (910, ab_nx 911 (ab_sld xs n)),
  (911, ab_nx 912 (ab_aload 0)),
  (912, ab_nx 914 (ab_iload 4)),
  (914, ab_nx 915 (ab_lit (.int 4))),
  (915, ab_nx 916 (ab_bin (fun x y => x + y))),
  (916, ab_nx 917 (ab_sld xs n)),
  (917, ab_nx 920 (ab_callV 5 10 f_X10_without 0 0 601024 7293034)),
  (920, ab_nx 921 ab_pop),
  (921, ab_nx 922 (ab_aload 2)),
  (922, ab_nx 923 (ab_aload 0)),
  (923, ab_nx 925 (ab_iload 4)),
  (925, ab_nx 926 (ab_lit (.int 1))),
  (926, ab_nx 927 (ab_bin (fun x y => x + y))),
  (927, ab_nx 928 (ab_sld xs n)),
  (928, ab_nx 929 (ab_aload 0)),
  (929, ab_nx 931 (ab_iload 4)),
  (931, ab_nx 932 (ab_lit (.int 2))),
  (932, ab_nx 933 (ab_bin (fun x y => x + y))),
  (933, ab_nx 934 (ab_sld xs n)),
  (934, ab_nx 935 (ab_aload 0)),
  (935, ab_nx 937 (ab_iload 4)),
  (937, ab_nx 938 (ab_lit (.int 3)))]
set_option maxRecDepth 100000 in
theorem dq53_10 : ([(816, .aload_n 2, 1), (817, .aload_n 0, 1), (818, .iload 4, 2), (820, .iconst 1, 1), (821, .iadd, 1), (822, .iaload, 1), (823, .invokevirtual 101, 3), (826, .pop, 1), (827, .goto 613, 3), (830, .aload_n 1, 1), (831, .aload_n 0, 1), (832, .iload 4, 2), (834, .iconst 1, 1), (835, .iadd, 1), (836, .iaload, 1), (837, .invokevirtual 102, 3), (840, .pop, 1), (841, .aload_n 2, 1), (842, .aload_n 0, 1), (843, .iload 4, 2), (845, .iconst 1, 1), (846, .iadd, 1), (847, .iaload, 1), (848, .invokevirtual 105, 3), (851, .pop, 1), (852, .goto 588, 3), (855, .aload_n 1, 1), (856, .aload_n 0, 1), (857, .iload 4, 2), (859, .iconst 1, 1), (860, .iadd, 1), (861, .iaload, 1), (862, .aload_n 0, 1), (863, .iload 4, 2), (865, .iconst 2, 1), (866, .iadd, 1), (867, .iaload, 1), (868, .invokevirtual 106, 3), (871, .pop, 1), (872, .aload_n 2, 1), (873, .aload_n 0, 1), (874, .iload 4, 2), (876, .iconst 1, 1), (877, .iadd, 1), (878, .iaload, 1), (879, .aload_n 0, 1), (880, .iload 4, 2), (882, .iconst 2, 1)] : List (Nat × Instr × Nat)).all (fun q => decide (decode cL_law q.1 = .ok q.2)) = true := by decide +kernel
set_option maxRecDepth 100000 in
theorem dq53_11 : ([(883, .iadd, 1), (884, .iaload, 1), (885, .invokevirtual 109, 3), (888, .pop, 1), (889, .goto 551, 3), (892, .aload_n 1, 1), (893, .aload_n 0, 1), (894, .iload 4, 2), (896, .iconst 1, 1), (897, .iadd, 1), (898, .iaload, 1), (899, .aload_n 0, 1), (900, .iload 4, 2), (902, .iconst 2, 1), (903, .iadd, 1), (904, .iaload, 1), (905, .aload_n 0, 1), (906, .iload 4, 2), (908, .iconst 3, 1), (909, .iadd, 1), (910, .iaload, 1), (911, .aload_n 0, 1), (912, .iload 4, 2), (914, .iconst 4, 1), (915, .iadd, 1), (916, .iaload, 1), (917, .invokevirtual 110, 3), (920, .pop, 1), (921, .aload_n 2, 1), (922, .aload_n 0, 1), (923, .iload 4, 2), (925, .iconst 1, 1), (926, .iadd, 1), (927, .iaload, 1), (928, .aload_n 0, 1), (929, .iload 4, 2), (931, .iconst 2, 1), (932, .iadd, 1), (933, .iaload, 1), (934, .aload_n 0, 1), (935, .iload 4, 2), (937, .iconst 3, 1)] : List (Nat × Instr × Nat)).all (fun q => decide (decode cL_law q.1 = .ok q.2)) = true := by decide +kernel
set_option maxRecDepth 100000 in
set_option maxHeartbeats 4000000 in
theorem law_5 {p : Program} {l : Launch} {e : Env} {s : State} {m : MethodId} {below : List Frame} {meth : Method} {c : Code} {cd : Cond} {b : ab_B} {D : va_G} {cA : Nat → ClassId} {o : ab_O} {xs : Nat → Int32} {n bb : Nat} {nm : String} (C : ab_cx p l e room_1 s m #[Value.ref bb] below meth c D ab_cl cA (ab_E0 b) (⟨RL, nm, "([I)Z"⟩ : MethodName) cL_law 7 ret (cd :: ab_G) room_1) (hX : va_X bb n xs s s.heap) (hb0 : b.2 0 = bb) (hb1 : b.1 = s.heap.size ∧ bb < s.heap.size) {f_X11_goes : List Value → ab_H → Option ab_O} (h_X11_goes : ab_M l b D ab_cl cA (ab_E0 b) yX11_goes (Cond.code yX11_goes cX11_goes 3 (some .int) :: ab_G) ({ frames := 7, cells := 0, slots := 0, locals := 700 } : Room) f_X11_goes) {f_X10_crosses : List Value → ab_H → Option ab_O} (h_X10_crosses : ab_M l b D ab_cl cA (ab_E0 b) yX10_crosses (Cond.code yX10_crosses cX10_crosses 4 (some .int) :: ab_G) ({ frames := 6, cells := 0, slots := 0, locals := 600 } : Room) f_X10_crosses) {f_X11_crosses : List Value → ab_H → Option ab_O} (h_X11_crosses : ab_M l b D ab_cl cA (ab_E0 b) yX11_crosses (Cond.code yX11_crosses cX11_crosses 5 (some .int) :: ab_G) ({ frames := 9, cells := 0, slots := 0, locals := 900 } : Room) f_X11_crosses) {f_X10_comes : List Value → ab_H → Option ab_O} (h_X10_comes : ab_M l b D ab_cl cA (ab_E0 b) yX10_comes (Cond.code yX10_comes cX10_comes 6 (some .int) :: ab_G) ({ frames := 6, cells := 0, slots := 0, locals := 600 } : Room) f_X10_comes) {f_X11_comes : List Value → ab_H → Option ab_O} (h_X11_comes : ab_M l b D ab_cl cA (ab_E0 b) yX11_comes (Cond.code yX11_comes cX11_comes 6 (some .int) :: ab_G) ({ frames := 9, cells := 0, slots := 0, locals := 900 } : Room) f_X11_comes) {f_X10_without : List Value → ab_H → Option ab_O} (h_X10_without : ab_M l b D ab_cl cA (ab_E0 b) yX10_without (Cond.code yX10_without cX10_without 8 (some .int) :: ab_G) ({ frames := 7, cells := 0, slots := 0, locals := 700 } : Room) f_X10_without) : ∀ q ∈ L_law_5 xs n f_X11_goes f_X10_crosses f_X11_crosses f_X10_comes f_X11_comes f_X10_without, ab_ok p l e room_1 s m #[Value.ref bb] below meth c (lw_Z below #[Value.ref bb] s) b D ab_cl cA 7 o (fun i => i) q.1 q.2 := by
  unfold L_law_5
  refine List.forall_mem_cons.mpr ⟨ok_aload_n C (show decode cL_law 816 = .ok (.aload_n 2, 1) from dk_at dq53_10 (i := 0) rfl) rfl rfl, ?_⟩
  refine List.forall_mem_cons.mpr ⟨ok_aload_n C (show decode cL_law 817 = .ok (.aload_n 0, 1) from dk_at dq53_10 (i := 1) rfl) rfl rfl, ?_⟩
  refine List.forall_mem_cons.mpr ⟨ok_iload C (show decode cL_law 818 = .ok (.iload 4, 2) from dk_at dq53_10 (i := 2) rfl) rfl, ?_⟩
  refine List.forall_mem_cons.mpr ⟨ok_iconst C (show decode cL_law 820 = .ok (.iconst 1, 1) from dk_at dq53_10 (i := 3) rfl) (by decide) rfl, ?_⟩
  refine List.forall_mem_cons.mpr ⟨ok_iadd C (show decode cL_law 821 = .ok (.iadd, 1) from dk_at dq53_10 (i := 4) rfl) rfl, ?_⟩
  refine List.forall_mem_cons.mpr ⟨ok_sld C hX hb0 hb1 (show decode cL_law 822 = .ok (.iaload, 1) from dk_at dq53_10 (i := 5) rfl) rfl, ?_⟩
  refine List.forall_mem_cons.mpr ⟨ok_callV C h_X11_goes ⟨rfl, rfl⟩ rfl kw_1548 kw_1545 kw_1546 kw_1547 kw_11 rfl ds_X11_goes ⟨by decide, by decide⟩ (show decode cL_law 823 = .ok (.invokevirtual 101, 3) from dk_at dq53_10 (i := 6) rfl) rfl, ?_⟩
  refine List.forall_mem_cons.mpr ⟨ok_pop C (show decode cL_law 826 = .ok (.pop, 1) from dk_at dq53_10 (i := 7) rfl) rfl, ?_⟩
  refine List.forall_mem_cons.mpr ⟨ok_goto C (show decode cL_law 827 = .ok (.goto 613, 3) from dk_at dq53_10 (i := 8) rfl) (tg := 1440) (by decide) rfl, ?_⟩
  refine List.forall_mem_cons.mpr ⟨ok_aload_n C (show decode cL_law 830 = .ok (.aload_n 1, 1) from dk_at dq53_10 (i := 9) rfl) rfl rfl, ?_⟩
  refine List.forall_mem_cons.mpr ⟨ok_aload_n C (show decode cL_law 831 = .ok (.aload_n 0, 1) from dk_at dq53_10 (i := 10) rfl) rfl rfl, ?_⟩
  refine List.forall_mem_cons.mpr ⟨ok_iload C (show decode cL_law 832 = .ok (.iload 4, 2) from dk_at dq53_10 (i := 11) rfl) rfl, ?_⟩
  refine List.forall_mem_cons.mpr ⟨ok_iconst C (show decode cL_law 834 = .ok (.iconst 1, 1) from dk_at dq53_10 (i := 12) rfl) (by decide) rfl, ?_⟩
  refine List.forall_mem_cons.mpr ⟨ok_iadd C (show decode cL_law 835 = .ok (.iadd, 1) from dk_at dq53_10 (i := 13) rfl) rfl, ?_⟩
  refine List.forall_mem_cons.mpr ⟨ok_sld C hX hb0 hb1 (show decode cL_law 836 = .ok (.iaload, 1) from dk_at dq53_10 (i := 14) rfl) rfl, ?_⟩
  refine List.forall_mem_cons.mpr ⟨ok_callV C h_X10_crosses ⟨rfl, rfl⟩ rfl kw_805 kw_802 kw_803 kw_804 kw_1 rfl ds_X10_crosses ⟨by decide, by decide⟩ (show decode cL_law 837 = .ok (.invokevirtual 102, 3) from dk_at dq53_10 (i := 15) rfl) rfl, ?_⟩
  refine List.forall_mem_cons.mpr ⟨ok_pop C (show decode cL_law 840 = .ok (.pop, 1) from dk_at dq53_10 (i := 16) rfl) rfl, ?_⟩
  refine List.forall_mem_cons.mpr ⟨ok_aload_n C (show decode cL_law 841 = .ok (.aload_n 2, 1) from dk_at dq53_10 (i := 17) rfl) rfl rfl, ?_⟩
  refine List.forall_mem_cons.mpr ⟨ok_aload_n C (show decode cL_law 842 = .ok (.aload_n 0, 1) from dk_at dq53_10 (i := 18) rfl) rfl rfl, ?_⟩
  refine List.forall_mem_cons.mpr ⟨ok_iload C (show decode cL_law 843 = .ok (.iload 4, 2) from dk_at dq53_10 (i := 19) rfl) rfl, ?_⟩
  refine List.forall_mem_cons.mpr ⟨ok_iconst C (show decode cL_law 845 = .ok (.iconst 1, 1) from dk_at dq53_10 (i := 20) rfl) (by decide) rfl, ?_⟩
  refine List.forall_mem_cons.mpr ⟨ok_iadd C (show decode cL_law 846 = .ok (.iadd, 1) from dk_at dq53_10 (i := 21) rfl) rfl, ?_⟩
  refine List.forall_mem_cons.mpr ⟨ok_sld C hX hb0 hb1 (show decode cL_law 847 = .ok (.iaload, 1) from dk_at dq53_10 (i := 22) rfl) rfl, ?_⟩
  refine List.forall_mem_cons.mpr ⟨ok_callV C h_X11_crosses ⟨rfl, rfl⟩ rfl kw_1552 kw_1549 kw_1550 kw_1551 kw_11 rfl ds_X11_crosses ⟨by decide, by decide⟩ (show decode cL_law 848 = .ok (.invokevirtual 105, 3) from dk_at dq53_10 (i := 23) rfl) rfl, ?_⟩
  refine List.forall_mem_cons.mpr ⟨ok_pop C (show decode cL_law 851 = .ok (.pop, 1) from dk_at dq53_10 (i := 24) rfl) rfl, ?_⟩
  refine List.forall_mem_cons.mpr ⟨ok_goto C (show decode cL_law 852 = .ok (.goto 588, 3) from dk_at dq53_10 (i := 25) rfl) (tg := 1440) (by decide) rfl, ?_⟩
  refine List.forall_mem_cons.mpr ⟨ok_aload_n C (show decode cL_law 855 = .ok (.aload_n 1, 1) from dk_at dq53_10 (i := 26) rfl) rfl rfl, ?_⟩
  refine List.forall_mem_cons.mpr ⟨ok_aload_n C (show decode cL_law 856 = .ok (.aload_n 0, 1) from dk_at dq53_10 (i := 27) rfl) rfl rfl, ?_⟩
  refine List.forall_mem_cons.mpr ⟨ok_iload C (show decode cL_law 857 = .ok (.iload 4, 2) from dk_at dq53_10 (i := 28) rfl) rfl, ?_⟩
  refine List.forall_mem_cons.mpr ⟨ok_iconst C (show decode cL_law 859 = .ok (.iconst 1, 1) from dk_at dq53_10 (i := 29) rfl) (by decide) rfl, ?_⟩
  refine List.forall_mem_cons.mpr ⟨ok_iadd C (show decode cL_law 860 = .ok (.iadd, 1) from dk_at dq53_10 (i := 30) rfl) rfl, ?_⟩
  refine List.forall_mem_cons.mpr ⟨ok_sld C hX hb0 hb1 (show decode cL_law 861 = .ok (.iaload, 1) from dk_at dq53_10 (i := 31) rfl) rfl, ?_⟩
  refine List.forall_mem_cons.mpr ⟨ok_aload_n C (show decode cL_law 862 = .ok (.aload_n 0, 1) from dk_at dq53_10 (i := 32) rfl) rfl rfl, ?_⟩
  refine List.forall_mem_cons.mpr ⟨ok_iload C (show decode cL_law 863 = .ok (.iload 4, 2) from dk_at dq53_10 (i := 33) rfl) rfl, ?_⟩
  refine List.forall_mem_cons.mpr ⟨ok_iconst C (show decode cL_law 865 = .ok (.iconst 2, 1) from dk_at dq53_10 (i := 34) rfl) (by decide) rfl, ?_⟩
  refine List.forall_mem_cons.mpr ⟨ok_iadd C (show decode cL_law 866 = .ok (.iadd, 1) from dk_at dq53_10 (i := 35) rfl) rfl, ?_⟩
  refine List.forall_mem_cons.mpr ⟨ok_sld C hX hb0 hb1 (show decode cL_law 867 = .ok (.iaload, 1) from dk_at dq53_10 (i := 36) rfl) rfl, ?_⟩
  refine List.forall_mem_cons.mpr ⟨ok_callV C h_X10_comes ⟨rfl, rfl⟩ rfl kw_810 kw_807 kw_808 kw_809 kw_1 rfl ds_X10_comes ⟨by decide, by decide⟩ (show decode cL_law 868 = .ok (.invokevirtual 106, 3) from dk_at dq53_10 (i := 37) rfl) rfl, ?_⟩
  refine List.forall_mem_cons.mpr ⟨ok_pop C (show decode cL_law 871 = .ok (.pop, 1) from dk_at dq53_10 (i := 38) rfl) rfl, ?_⟩
  refine List.forall_mem_cons.mpr ⟨ok_aload_n C (show decode cL_law 872 = .ok (.aload_n 2, 1) from dk_at dq53_10 (i := 39) rfl) rfl rfl, ?_⟩
  refine List.forall_mem_cons.mpr ⟨ok_aload_n C (show decode cL_law 873 = .ok (.aload_n 0, 1) from dk_at dq53_10 (i := 40) rfl) rfl rfl, ?_⟩
  refine List.forall_mem_cons.mpr ⟨ok_iload C (show decode cL_law 874 = .ok (.iload 4, 2) from dk_at dq53_10 (i := 41) rfl) rfl, ?_⟩
  refine List.forall_mem_cons.mpr ⟨ok_iconst C (show decode cL_law 876 = .ok (.iconst 1, 1) from dk_at dq53_10 (i := 42) rfl) (by decide) rfl, ?_⟩
  refine List.forall_mem_cons.mpr ⟨ok_iadd C (show decode cL_law 877 = .ok (.iadd, 1) from dk_at dq53_10 (i := 43) rfl) rfl, ?_⟩
  refine List.forall_mem_cons.mpr ⟨ok_sld C hX hb0 hb1 (show decode cL_law 878 = .ok (.iaload, 1) from dk_at dq53_10 (i := 44) rfl) rfl, ?_⟩
  refine List.forall_mem_cons.mpr ⟨ok_aload_n C (show decode cL_law 879 = .ok (.aload_n 0, 1) from dk_at dq53_10 (i := 45) rfl) rfl rfl, ?_⟩
  refine List.forall_mem_cons.mpr ⟨ok_iload C (show decode cL_law 880 = .ok (.iload 4, 2) from dk_at dq53_10 (i := 46) rfl) rfl, ?_⟩
  refine List.forall_mem_cons.mpr ⟨ok_iconst C (show decode cL_law 882 = .ok (.iconst 2, 1) from dk_at dq53_10 (i := 47) rfl) (by decide) rfl, ?_⟩
  refine List.forall_mem_cons.mpr ⟨ok_iadd C (show decode cL_law 883 = .ok (.iadd, 1) from dk_at dq53_11 (i := 0) rfl) rfl, ?_⟩
  refine List.forall_mem_cons.mpr ⟨ok_sld C hX hb0 hb1 (show decode cL_law 884 = .ok (.iaload, 1) from dk_at dq53_11 (i := 1) rfl) rfl, ?_⟩
  refine List.forall_mem_cons.mpr ⟨ok_callV C h_X11_comes ⟨rfl, rfl⟩ rfl kw_1564 kw_1561 kw_1562 kw_1563 kw_11 rfl ds_X11_comes ⟨by decide, by decide⟩ (show decode cL_law 885 = .ok (.invokevirtual 109, 3) from dk_at dq53_11 (i := 2) rfl) rfl, ?_⟩
  refine List.forall_mem_cons.mpr ⟨ok_pop C (show decode cL_law 888 = .ok (.pop, 1) from dk_at dq53_11 (i := 3) rfl) rfl, ?_⟩
  refine List.forall_mem_cons.mpr ⟨ok_goto C (show decode cL_law 889 = .ok (.goto 551, 3) from dk_at dq53_11 (i := 4) rfl) (tg := 1440) (by decide) rfl, ?_⟩
  refine List.forall_mem_cons.mpr ⟨ok_aload_n C (show decode cL_law 892 = .ok (.aload_n 1, 1) from dk_at dq53_11 (i := 5) rfl) rfl rfl, ?_⟩
  refine List.forall_mem_cons.mpr ⟨ok_aload_n C (show decode cL_law 893 = .ok (.aload_n 0, 1) from dk_at dq53_11 (i := 6) rfl) rfl rfl, ?_⟩
  refine List.forall_mem_cons.mpr ⟨ok_iload C (show decode cL_law 894 = .ok (.iload 4, 2) from dk_at dq53_11 (i := 7) rfl) rfl, ?_⟩
  refine List.forall_mem_cons.mpr ⟨ok_iconst C (show decode cL_law 896 = .ok (.iconst 1, 1) from dk_at dq53_11 (i := 8) rfl) (by decide) rfl, ?_⟩
  refine List.forall_mem_cons.mpr ⟨ok_iadd C (show decode cL_law 897 = .ok (.iadd, 1) from dk_at dq53_11 (i := 9) rfl) rfl, ?_⟩
  refine List.forall_mem_cons.mpr ⟨ok_sld C hX hb0 hb1 (show decode cL_law 898 = .ok (.iaload, 1) from dk_at dq53_11 (i := 10) rfl) rfl, ?_⟩
  refine List.forall_mem_cons.mpr ⟨ok_aload_n C (show decode cL_law 899 = .ok (.aload_n 0, 1) from dk_at dq53_11 (i := 11) rfl) rfl rfl, ?_⟩
  refine List.forall_mem_cons.mpr ⟨ok_iload C (show decode cL_law 900 = .ok (.iload 4, 2) from dk_at dq53_11 (i := 12) rfl) rfl, ?_⟩
  refine List.forall_mem_cons.mpr ⟨ok_iconst C (show decode cL_law 902 = .ok (.iconst 2, 1) from dk_at dq53_11 (i := 13) rfl) (by decide) rfl, ?_⟩
  refine List.forall_mem_cons.mpr ⟨ok_iadd C (show decode cL_law 903 = .ok (.iadd, 1) from dk_at dq53_11 (i := 14) rfl) rfl, ?_⟩
  refine List.forall_mem_cons.mpr ⟨ok_sld C hX hb0 hb1 (show decode cL_law 904 = .ok (.iaload, 1) from dk_at dq53_11 (i := 15) rfl) rfl, ?_⟩
  refine List.forall_mem_cons.mpr ⟨ok_aload_n C (show decode cL_law 905 = .ok (.aload_n 0, 1) from dk_at dq53_11 (i := 16) rfl) rfl rfl, ?_⟩
  refine List.forall_mem_cons.mpr ⟨ok_iload C (show decode cL_law 906 = .ok (.iload 4, 2) from dk_at dq53_11 (i := 17) rfl) rfl, ?_⟩
  refine List.forall_mem_cons.mpr ⟨ok_iconst C (show decode cL_law 908 = .ok (.iconst 3, 1) from dk_at dq53_11 (i := 18) rfl) (by decide) rfl, ?_⟩
  refine List.forall_mem_cons.mpr ⟨ok_iadd C (show decode cL_law 909 = .ok (.iadd, 1) from dk_at dq53_11 (i := 19) rfl) rfl, ?_⟩
  refine List.forall_mem_cons.mpr ⟨ok_sld C hX hb0 hb1 (show decode cL_law 910 = .ok (.iaload, 1) from dk_at dq53_11 (i := 20) rfl) rfl, ?_⟩
  refine List.forall_mem_cons.mpr ⟨ok_aload_n C (show decode cL_law 911 = .ok (.aload_n 0, 1) from dk_at dq53_11 (i := 21) rfl) rfl rfl, ?_⟩
  refine List.forall_mem_cons.mpr ⟨ok_iload C (show decode cL_law 912 = .ok (.iload 4, 2) from dk_at dq53_11 (i := 22) rfl) rfl, ?_⟩
  refine List.forall_mem_cons.mpr ⟨ok_iconst C (show decode cL_law 914 = .ok (.iconst 4, 1) from dk_at dq53_11 (i := 23) rfl) (by decide) rfl, ?_⟩
  refine List.forall_mem_cons.mpr ⟨ok_iadd C (show decode cL_law 915 = .ok (.iadd, 1) from dk_at dq53_11 (i := 24) rfl) rfl, ?_⟩
  refine List.forall_mem_cons.mpr ⟨ok_sld C hX hb0 hb1 (show decode cL_law 916 = .ok (.iaload, 1) from dk_at dq53_11 (i := 25) rfl) rfl, ?_⟩
  refine List.forall_mem_cons.mpr ⟨ok_callV C h_X10_without ⟨rfl, rfl⟩ rfl kw_814 kw_811 kw_812 kw_813 kw_1 rfl ds_X10_without ⟨by decide, by decide⟩ (show decode cL_law 917 = .ok (.invokevirtual 110, 3) from dk_at dq53_11 (i := 26) rfl) rfl, ?_⟩
  refine List.forall_mem_cons.mpr ⟨ok_pop C (show decode cL_law 920 = .ok (.pop, 1) from dk_at dq53_11 (i := 27) rfl) rfl, ?_⟩
  refine List.forall_mem_cons.mpr ⟨ok_aload_n C (show decode cL_law 921 = .ok (.aload_n 2, 1) from dk_at dq53_11 (i := 28) rfl) rfl rfl, ?_⟩
  refine List.forall_mem_cons.mpr ⟨ok_aload_n C (show decode cL_law 922 = .ok (.aload_n 0, 1) from dk_at dq53_11 (i := 29) rfl) rfl rfl, ?_⟩
  refine List.forall_mem_cons.mpr ⟨ok_iload C (show decode cL_law 923 = .ok (.iload 4, 2) from dk_at dq53_11 (i := 30) rfl) rfl, ?_⟩
  refine List.forall_mem_cons.mpr ⟨ok_iconst C (show decode cL_law 925 = .ok (.iconst 1, 1) from dk_at dq53_11 (i := 31) rfl) (by decide) rfl, ?_⟩
  refine List.forall_mem_cons.mpr ⟨ok_iadd C (show decode cL_law 926 = .ok (.iadd, 1) from dk_at dq53_11 (i := 32) rfl) rfl, ?_⟩
  refine List.forall_mem_cons.mpr ⟨ok_sld C hX hb0 hb1 (show decode cL_law 927 = .ok (.iaload, 1) from dk_at dq53_11 (i := 33) rfl) rfl, ?_⟩
  refine List.forall_mem_cons.mpr ⟨ok_aload_n C (show decode cL_law 928 = .ok (.aload_n 0, 1) from dk_at dq53_11 (i := 34) rfl) rfl rfl, ?_⟩
  refine List.forall_mem_cons.mpr ⟨ok_iload C (show decode cL_law 929 = .ok (.iload 4, 2) from dk_at dq53_11 (i := 35) rfl) rfl, ?_⟩
  refine List.forall_mem_cons.mpr ⟨ok_iconst C (show decode cL_law 931 = .ok (.iconst 2, 1) from dk_at dq53_11 (i := 36) rfl) (by decide) rfl, ?_⟩
  refine List.forall_mem_cons.mpr ⟨ok_iadd C (show decode cL_law 932 = .ok (.iadd, 1) from dk_at dq53_11 (i := 37) rfl) rfl, ?_⟩
  refine List.forall_mem_cons.mpr ⟨ok_sld C hX hb0 hb1 (show decode cL_law 933 = .ok (.iaload, 1) from dk_at dq53_11 (i := 38) rfl) rfl, ?_⟩
  refine List.forall_mem_cons.mpr ⟨ok_aload_n C (show decode cL_law 934 = .ok (.aload_n 0, 1) from dk_at dq53_11 (i := 39) rfl) rfl rfl, ?_⟩
  refine List.forall_mem_cons.mpr ⟨ok_iload C (show decode cL_law 935 = .ok (.iload 4, 2) from dk_at dq53_11 (i := 40) rfl) rfl, ?_⟩
  refine List.forall_mem_cons.mpr ⟨ok_iconst C (show decode cL_law 937 = .ok (.iconst 3, 1) from dk_at dq53_11 (i := 41) rfl) (by decide) rfl, ?_⟩
  exact fun _ h => absurd h List.not_mem_nil
def L_law_6 (xs : Nat → Int32) (n : Nat) (f_X11_without : List Value → ab_H → Option ab_O) (f_X10_meet : List Value → ab_H → Option ab_O) (f_X11_meet : List Value → ab_H → Option ab_O) (f_X10_loads : List Value → ab_H → Option ab_O) (f_X11_loads : List Value → ab_H → Option ab_O) (f_X10_which : List Value → ab_H → Option ab_O) (f_X11_which : List Value → ab_H → Option ab_O) (f_X10_settles : List Value → ab_H → Option ab_O) (f_X11_settles : List Value → ab_H → Option ab_O) (f_X10_hunger : List Value → ab_H → Option ab_O) : List (Nat × ab_A) := [
  (938, ab_nx 939 (ab_bin (fun x y => x + y))),
  (939, ab_nx 940 (ab_sld xs n)),
  (940, ab_nx 941 (ab_aload 0)),
  (941, ab_nx 943 (ab_iload 4)),
  (943, ab_nx 944 (ab_lit (.int 4))),
  (944, ab_nx 945 (ab_bin (fun x y => x + y))),
  (945, ab_nx 946 (ab_sld xs n)),
  (946, ab_nx 949 (ab_callV 5 11 f_X11_without 0 0 601024 7293034)),
  (949, ab_nx 950 ab_pop),
  (950, ab_goto 1440),
  (953, ab_nx 954 (ab_aload 1)),
  (954, ab_nx 955 (ab_aload 0)),
  (955, ab_nx 957 (ab_iload 4)),
  (957, ab_nx 958 (ab_lit (.int 1))),
  (958, ab_nx 959 (ab_bin (fun x y => x + y))),
  (959, ab_nx 960 (ab_sld xs n)),
  (960, ab_nx 961 (ab_aload 0)),
  (961, ab_nx 963 (ab_iload 4)),
  (963, ab_nx 964 (ab_lit (.int 2))),
  (964, ab_nx 965 (ab_bin (fun x y => x + y))),
  (965, ab_nx 966 (ab_sld xs n)),
  (966, ab_nx 969 (ab_callV 3 10 f_X10_meet 0 0 601024 7293034)),
  (969, ab_nx 970 ab_pop),
  (970, ab_nx 971 (ab_aload 2)),
  (971, ab_nx 972 (ab_aload 0)),
  (972, ab_nx 974 (ab_iload 4)),
  (974, ab_nx 975 (ab_lit (.int 1))),
  (975, ab_nx 976 (ab_bin (fun x y => x + y))),
  (976, ab_nx 977 (ab_sld xs n)),
  (977, ab_nx 978 (ab_aload 0)),
  (978, ab_nx 980 (ab_iload 4)),
  (980, ab_nx 981 (ab_lit (.int 2))),
  (981, ab_nx 982 (ab_bin (fun x y => x + y))),
  (982, ab_nx 983 (ab_sld xs n)),
  (983, ab_nx 986 (ab_callV 3 11 f_X11_meet 0 0 601024 7293034)),
  (986, ab_nx 987 ab_pop),
  (987, ab_goto 1440),
  (990, ab_nx 991 (ab_aload 1)),
  (991, ab_nx 992 (ab_aload 0)),
  (992, ab_nx 994 (ab_iload 4)),
  (994, ab_nx 995 (ab_lit (.int 1))),
  (995, ab_nx 996 (ab_bin (fun x y => x + y))),
  (996, ab_nx 997 (ab_sld xs n)),
  (997, ab_nx 1000 (ab_callV 2 10 f_X10_loads 0 0 601024 7293034)),
  (1000, ab_nx 1001 ab_pop),
  (1001, ab_nx 1002 (ab_aload 2)),
  (1002, ab_nx 1003 (ab_aload 0)),
  (1003, ab_nx 1005 (ab_iload 4)),
  (1005, ab_nx 1006 (ab_lit (.int 1))),
  (1006, ab_nx 1007 (ab_bin (fun x y => x + y))),
  (1007, ab_nx 1008 (ab_sld xs n)),
  (1008, ab_nx 1011 (ab_callV 2 11 f_X11_loads 0 0 601024 7293034)),
  (1011, ab_nx 1012 ab_pop),
  (1012, ab_goto 1440),
  (1015, ab_nx 1016 (ab_aload 1)),
  (1016, ab_nx 1019 (ab_callV 1 10 f_X10_which 0 0 601024 7293034)),
  (1019, ab_nx 1020 ab_pop),
  (1020, ab_nx 1021 (ab_aload 2)),
  (1021, ab_nx 1024 (ab_callV 1 11 f_X11_which 0 0 601024 7293034)),
  (1024, ab_nx 1025 ab_pop),
  (1025, ab_goto 1440),
  (1028, ab_nx 1029 (ab_aload 1)),
  (1029, ab_nx 1032 (ab_callV 1 10 f_X10_settles 0 0 601024 7293034)),
  (1032, ab_nx 1033 ab_pop),
  (1033, ab_nx 1034 (ab_aload 2)),
  (1034, ab_nx 1037 (ab_callV 1 11 f_X11_settles 0 0 601024 7293034)),
  (1037, ab_nx 1038 ab_pop),
  (1038, ab_goto 1440),
  (1041, ab_nx 1042 (ab_aload 1)),
  (1042, ab_nx 1043 (ab_aload 0)),
  (1043, ab_nx 1045 (ab_iload 4)),
  (1045, ab_nx 1046 (ab_lit (.int 1))),
  (1046, ab_nx 1047 (ab_bin (fun x y => x + y))),
  (1047, ab_nx 1048 (ab_sld xs n)),
  (1048, ab_nx 1049 (ab_aload 0)),
  (1049, ab_nx 1051 (ab_iload 4)),
  (1051, ab_nx 1052 (ab_lit (.int 2))),
  (1052, ab_nx 1053 (ab_bin (fun x y => x + y))),
  (1053, ab_nx 1054 (ab_sld xs n)),
  (1054, ab_nx 1055 (ab_aload 0)),
  (1055, ab_nx 1057 (ab_iload 4)),
  (1057, ab_nx 1058 (ab_lit (.int 3))),
  (1058, ab_nx 1059 (ab_bin (fun x y => x + y))),
  (1059, ab_nx 1060 (ab_sld xs n)),
  (1060, ab_nx 1063 (ab_callV 4 10 f_X10_hunger 0 0 601024 7293034)),
  (1063, ab_nx 1064 ab_pop),
  (1064, ab_nx 1065 (ab_aload 2)),
  (1065, ab_nx 1066 (ab_aload 0)),
  (1066, ab_nx 1068 (ab_iload 4)),
  (1068, ab_nx 1069 (ab_lit (.int 1)))]
set_option maxRecDepth 100000 in
theorem dq53_12 : ([(938, .iadd, 1), (939, .iaload, 1), (940, .aload_n 0, 1), (941, .iload 4, 2), (943, .iconst 4, 1), (944, .iadd, 1), (945, .iaload, 1), (946, .invokevirtual 114, 3), (949, .pop, 1), (950, .goto 490, 3), (953, .aload_n 1, 1), (954, .aload_n 0, 1), (955, .iload 4, 2), (957, .iconst 1, 1), (958, .iadd, 1), (959, .iaload, 1), (960, .aload_n 0, 1), (961, .iload 4, 2), (963, .iconst 2, 1), (964, .iadd, 1), (965, .iaload, 1), (966, .invokevirtual 115, 3), (969, .pop, 1), (970, .aload_n 2, 1), (971, .aload_n 0, 1), (972, .iload 4, 2), (974, .iconst 1, 1), (975, .iadd, 1), (976, .iaload, 1), (977, .aload_n 0, 1), (978, .iload 4, 2), (980, .iconst 2, 1), (981, .iadd, 1), (982, .iaload, 1), (983, .invokevirtual 118, 3), (986, .pop, 1), (987, .goto 453, 3), (990, .aload_n 1, 1), (991, .aload_n 0, 1), (992, .iload 4, 2), (994, .iconst 1, 1), (995, .iadd, 1), (996, .iaload, 1), (997, .invokevirtual 119, 3), (1000, .pop, 1), (1001, .aload_n 2, 1), (1002, .aload_n 0, 1), (1003, .iload 4, 2)] : List (Nat × Instr × Nat)).all (fun q => decide (decode cL_law q.1 = .ok q.2)) = true := by decide +kernel
set_option maxRecDepth 100000 in
theorem dq53_13 : ([(1005, .iconst 1, 1), (1006, .iadd, 1), (1007, .iaload, 1), (1008, .invokevirtual 122, 3), (1011, .pop, 1), (1012, .goto 428, 3), (1015, .aload_n 1, 1), (1016, .invokevirtual 123, 3), (1019, .pop, 1), (1020, .aload_n 2, 1), (1021, .invokevirtual 126, 3), (1024, .pop, 1), (1025, .goto 415, 3), (1028, .aload_n 1, 1), (1029, .invokevirtual 127, 3), (1032, .pop, 1), (1033, .aload_n 2, 1), (1034, .invokevirtual 130, 3), (1037, .pop, 1), (1038, .goto 402, 3), (1041, .aload_n 1, 1), (1042, .aload_n 0, 1), (1043, .iload 4, 2), (1045, .iconst 1, 1), (1046, .iadd, 1), (1047, .iaload, 1), (1048, .aload_n 0, 1), (1049, .iload 4, 2), (1051, .iconst 2, 1), (1052, .iadd, 1), (1053, .iaload, 1), (1054, .aload_n 0, 1), (1055, .iload 4, 2), (1057, .iconst 3, 1), (1058, .iadd, 1), (1059, .iaload, 1), (1060, .invokevirtual 131, 3), (1063, .pop, 1), (1064, .aload_n 2, 1), (1065, .aload_n 0, 1), (1066, .iload 4, 2), (1068, .iconst 1, 1)] : List (Nat × Instr × Nat)).all (fun q => decide (decode cL_law q.1 = .ok q.2)) = true := by decide +kernel
set_option maxRecDepth 100000 in
set_option maxHeartbeats 4000000 in
theorem law_6 {p : Program} {l : Launch} {e : Env} {s : State} {m : MethodId} {below : List Frame} {meth : Method} {c : Code} {cd : Cond} {b : ab_B} {D : va_G} {cA : Nat → ClassId} {o : ab_O} {xs : Nat → Int32} {n bb : Nat} {nm : String} (C : ab_cx p l e room_1 s m #[Value.ref bb] below meth c D ab_cl cA (ab_E0 b) (⟨RL, nm, "([I)Z"⟩ : MethodName) cL_law 7 ret (cd :: ab_G) room_1) (hX : va_X bb n xs s s.heap) (hb0 : b.2 0 = bb) (hb1 : b.1 = s.heap.size ∧ bb < s.heap.size) {f_X11_without : List Value → ab_H → Option ab_O} (h_X11_without : ab_M l b D ab_cl cA (ab_E0 b) yX11_without (Cond.code yX11_without cX11_without 10 (some .int) :: ab_G) ({ frames := 9, cells := 0, slots := 0, locals := 900 } : Room) f_X11_without) {f_X10_meet : List Value → ab_H → Option ab_O} (h_X10_meet : ab_M l b D ab_cl cA (ab_E0 b) yX10_meet (Cond.code yX10_meet cX10_meet 4 (some .int) :: ab_G) ({ frames := 6, cells := 0, slots := 0, locals := 600 } : Room) f_X10_meet) {f_X11_meet : List Value → ab_H → Option ab_O} (h_X11_meet : ab_M l b D ab_cl cA (ab_E0 b) yX11_meet (Cond.code yX11_meet cX11_meet 5 (some .int) :: ab_G) ({ frames := 9, cells := 0, slots := 0, locals := 900 } : Room) f_X11_meet) {f_X10_loads : List Value → ab_H → Option ab_O} (h_X10_loads : ab_M l b D ab_cl cA (ab_E0 b) yX10_loads (Cond.code yX10_loads cX10_loads 2 (some .int) :: ab_G) ({ frames := 6, cells := 0, slots := 0, locals := 600 } : Room) f_X10_loads) {f_X11_loads : List Value → ab_H → Option ab_O} (h_X11_loads : ab_M l b D ab_cl cA (ab_E0 b) yX11_loads (Cond.code yX11_loads cX11_loads 4 (some .int) :: ab_G) ({ frames := 9, cells := 0, slots := 0, locals := 900 } : Room) f_X11_loads) {f_X10_which : List Value → ab_H → Option ab_O} (h_X10_which : ab_M l b D ab_cl cA (ab_E0 b) yX10_which (Cond.code yX10_which cX10_which 6 (some .int) :: ab_G) ({ frames := 5, cells := 0, slots := 0, locals := 500 } : Room) f_X10_which) {f_X11_which : List Value → ab_H → Option ab_O} (h_X11_which : ab_M l b D ab_cl cA (ab_E0 b) yX11_which (Cond.code yX11_which cX11_which 7 (some .int) :: ab_G) ({ frames := 2, cells := 0, slots := 0, locals := 200 } : Room) f_X11_which) {f_X10_settles : List Value → ab_H → Option ab_O} (h_X10_settles : ab_M l b D ab_cl cA (ab_E0 b) yX10_settles (Cond.code yX10_settles cX10_settles 2 (some .int) :: ab_G) ({ frames := 6, cells := 0, slots := 0, locals := 600 } : Room) f_X10_settles) {f_X11_settles : List Value → ab_H → Option ab_O} (h_X11_settles : ab_M l b D ab_cl cA (ab_E0 b) yX11_settles (Cond.code yX11_settles cX11_settles 3 (some .int) :: ab_G) ({ frames := 9, cells := 0, slots := 0, locals := 900 } : Room) f_X11_settles) {f_X10_hunger : List Value → ab_H → Option ab_O} (h_X10_hunger : ab_M l b D ab_cl cA (ab_E0 b) yX10_hunger (Cond.code yX10_hunger cX10_hunger 5 (some .int) :: ab_G) ({ frames := 6, cells := 0, slots := 0, locals := 600 } : Room) f_X10_hunger) : ∀ q ∈ L_law_6 xs n f_X11_without f_X10_meet f_X11_meet f_X10_loads f_X11_loads f_X10_which f_X11_which f_X10_settles f_X11_settles f_X10_hunger, ab_ok p l e room_1 s m #[Value.ref bb] below meth c (lw_Z below #[Value.ref bb] s) b D ab_cl cA 7 o (fun i => i) q.1 q.2 := by
  unfold L_law_6
  refine List.forall_mem_cons.mpr ⟨ok_iadd C (show decode cL_law 938 = .ok (.iadd, 1) from dk_at dq53_12 (i := 0) rfl) rfl, ?_⟩
  refine List.forall_mem_cons.mpr ⟨ok_sld C hX hb0 hb1 (show decode cL_law 939 = .ok (.iaload, 1) from dk_at dq53_12 (i := 1) rfl) rfl, ?_⟩
  refine List.forall_mem_cons.mpr ⟨ok_aload_n C (show decode cL_law 940 = .ok (.aload_n 0, 1) from dk_at dq53_12 (i := 2) rfl) rfl rfl, ?_⟩
  refine List.forall_mem_cons.mpr ⟨ok_iload C (show decode cL_law 941 = .ok (.iload 4, 2) from dk_at dq53_12 (i := 3) rfl) rfl, ?_⟩
  refine List.forall_mem_cons.mpr ⟨ok_iconst C (show decode cL_law 943 = .ok (.iconst 4, 1) from dk_at dq53_12 (i := 4) rfl) (by decide) rfl, ?_⟩
  refine List.forall_mem_cons.mpr ⟨ok_iadd C (show decode cL_law 944 = .ok (.iadd, 1) from dk_at dq53_12 (i := 5) rfl) rfl, ?_⟩
  refine List.forall_mem_cons.mpr ⟨ok_sld C hX hb0 hb1 (show decode cL_law 945 = .ok (.iaload, 1) from dk_at dq53_12 (i := 6) rfl) rfl, ?_⟩
  refine List.forall_mem_cons.mpr ⟨ok_callV C h_X11_without ⟨rfl, rfl⟩ rfl kw_1568 kw_1565 kw_1566 kw_1567 kw_11 rfl ds_X11_without ⟨by decide, by decide⟩ (show decode cL_law 946 = .ok (.invokevirtual 114, 3) from dk_at dq53_12 (i := 7) rfl) rfl, ?_⟩
  refine List.forall_mem_cons.mpr ⟨ok_pop C (show decode cL_law 949 = .ok (.pop, 1) from dk_at dq53_12 (i := 8) rfl) rfl, ?_⟩
  refine List.forall_mem_cons.mpr ⟨ok_goto C (show decode cL_law 950 = .ok (.goto 490, 3) from dk_at dq53_12 (i := 9) rfl) (tg := 1440) (by decide) rfl, ?_⟩
  refine List.forall_mem_cons.mpr ⟨ok_aload_n C (show decode cL_law 953 = .ok (.aload_n 1, 1) from dk_at dq53_12 (i := 10) rfl) rfl rfl, ?_⟩
  refine List.forall_mem_cons.mpr ⟨ok_aload_n C (show decode cL_law 954 = .ok (.aload_n 0, 1) from dk_at dq53_12 (i := 11) rfl) rfl rfl, ?_⟩
  refine List.forall_mem_cons.mpr ⟨ok_iload C (show decode cL_law 955 = .ok (.iload 4, 2) from dk_at dq53_12 (i := 12) rfl) rfl, ?_⟩
  refine List.forall_mem_cons.mpr ⟨ok_iconst C (show decode cL_law 957 = .ok (.iconst 1, 1) from dk_at dq53_12 (i := 13) rfl) (by decide) rfl, ?_⟩
  refine List.forall_mem_cons.mpr ⟨ok_iadd C (show decode cL_law 958 = .ok (.iadd, 1) from dk_at dq53_12 (i := 14) rfl) rfl, ?_⟩
  refine List.forall_mem_cons.mpr ⟨ok_sld C hX hb0 hb1 (show decode cL_law 959 = .ok (.iaload, 1) from dk_at dq53_12 (i := 15) rfl) rfl, ?_⟩
  refine List.forall_mem_cons.mpr ⟨ok_aload_n C (show decode cL_law 960 = .ok (.aload_n 0, 1) from dk_at dq53_12 (i := 16) rfl) rfl rfl, ?_⟩
  refine List.forall_mem_cons.mpr ⟨ok_iload C (show decode cL_law 961 = .ok (.iload 4, 2) from dk_at dq53_12 (i := 17) rfl) rfl, ?_⟩
  refine List.forall_mem_cons.mpr ⟨ok_iconst C (show decode cL_law 963 = .ok (.iconst 2, 1) from dk_at dq53_12 (i := 18) rfl) (by decide) rfl, ?_⟩
  refine List.forall_mem_cons.mpr ⟨ok_iadd C (show decode cL_law 964 = .ok (.iadd, 1) from dk_at dq53_12 (i := 19) rfl) rfl, ?_⟩
  refine List.forall_mem_cons.mpr ⟨ok_sld C hX hb0 hb1 (show decode cL_law 965 = .ok (.iaload, 1) from dk_at dq53_12 (i := 20) rfl) rfl, ?_⟩
  refine List.forall_mem_cons.mpr ⟨ok_callV C h_X10_meet ⟨rfl, rfl⟩ rfl kw_837 kw_834 kw_835 kw_836 kw_1 rfl ds_X10_meet ⟨by decide, by decide⟩ (show decode cL_law 966 = .ok (.invokevirtual 115, 3) from dk_at dq53_12 (i := 21) rfl) rfl, ?_⟩
  refine List.forall_mem_cons.mpr ⟨ok_pop C (show decode cL_law 969 = .ok (.pop, 1) from dk_at dq53_12 (i := 22) rfl) rfl, ?_⟩
  refine List.forall_mem_cons.mpr ⟨ok_aload_n C (show decode cL_law 970 = .ok (.aload_n 2, 1) from dk_at dq53_12 (i := 23) rfl) rfl rfl, ?_⟩
  refine List.forall_mem_cons.mpr ⟨ok_aload_n C (show decode cL_law 971 = .ok (.aload_n 0, 1) from dk_at dq53_12 (i := 24) rfl) rfl rfl, ?_⟩
  refine List.forall_mem_cons.mpr ⟨ok_iload C (show decode cL_law 972 = .ok (.iload 4, 2) from dk_at dq53_12 (i := 25) rfl) rfl, ?_⟩
  refine List.forall_mem_cons.mpr ⟨ok_iconst C (show decode cL_law 974 = .ok (.iconst 1, 1) from dk_at dq53_12 (i := 26) rfl) (by decide) rfl, ?_⟩
  refine List.forall_mem_cons.mpr ⟨ok_iadd C (show decode cL_law 975 = .ok (.iadd, 1) from dk_at dq53_12 (i := 27) rfl) rfl, ?_⟩
  refine List.forall_mem_cons.mpr ⟨ok_sld C hX hb0 hb1 (show decode cL_law 976 = .ok (.iaload, 1) from dk_at dq53_12 (i := 28) rfl) rfl, ?_⟩
  refine List.forall_mem_cons.mpr ⟨ok_aload_n C (show decode cL_law 977 = .ok (.aload_n 0, 1) from dk_at dq53_12 (i := 29) rfl) rfl rfl, ?_⟩
  refine List.forall_mem_cons.mpr ⟨ok_iload C (show decode cL_law 978 = .ok (.iload 4, 2) from dk_at dq53_12 (i := 30) rfl) rfl, ?_⟩
  refine List.forall_mem_cons.mpr ⟨ok_iconst C (show decode cL_law 980 = .ok (.iconst 2, 1) from dk_at dq53_12 (i := 31) rfl) (by decide) rfl, ?_⟩
  refine List.forall_mem_cons.mpr ⟨ok_iadd C (show decode cL_law 981 = .ok (.iadd, 1) from dk_at dq53_12 (i := 32) rfl) rfl, ?_⟩
  refine List.forall_mem_cons.mpr ⟨ok_sld C hX hb0 hb1 (show decode cL_law 982 = .ok (.iaload, 1) from dk_at dq53_12 (i := 33) rfl) rfl, ?_⟩
  refine List.forall_mem_cons.mpr ⟨ok_callV C h_X11_meet ⟨rfl, rfl⟩ rfl kw_1572 kw_1569 kw_1570 kw_1571 kw_11 rfl ds_X11_meet ⟨by decide, by decide⟩ (show decode cL_law 983 = .ok (.invokevirtual 118, 3) from dk_at dq53_12 (i := 34) rfl) rfl, ?_⟩
  refine List.forall_mem_cons.mpr ⟨ok_pop C (show decode cL_law 986 = .ok (.pop, 1) from dk_at dq53_12 (i := 35) rfl) rfl, ?_⟩
  refine List.forall_mem_cons.mpr ⟨ok_goto C (show decode cL_law 987 = .ok (.goto 453, 3) from dk_at dq53_12 (i := 36) rfl) (tg := 1440) (by decide) rfl, ?_⟩
  refine List.forall_mem_cons.mpr ⟨ok_aload_n C (show decode cL_law 990 = .ok (.aload_n 1, 1) from dk_at dq53_12 (i := 37) rfl) rfl rfl, ?_⟩
  refine List.forall_mem_cons.mpr ⟨ok_aload_n C (show decode cL_law 991 = .ok (.aload_n 0, 1) from dk_at dq53_12 (i := 38) rfl) rfl rfl, ?_⟩
  refine List.forall_mem_cons.mpr ⟨ok_iload C (show decode cL_law 992 = .ok (.iload 4, 2) from dk_at dq53_12 (i := 39) rfl) rfl, ?_⟩
  refine List.forall_mem_cons.mpr ⟨ok_iconst C (show decode cL_law 994 = .ok (.iconst 1, 1) from dk_at dq53_12 (i := 40) rfl) (by decide) rfl, ?_⟩
  refine List.forall_mem_cons.mpr ⟨ok_iadd C (show decode cL_law 995 = .ok (.iadd, 1) from dk_at dq53_12 (i := 41) rfl) rfl, ?_⟩
  refine List.forall_mem_cons.mpr ⟨ok_sld C hX hb0 hb1 (show decode cL_law 996 = .ok (.iaload, 1) from dk_at dq53_12 (i := 42) rfl) rfl, ?_⟩
  refine List.forall_mem_cons.mpr ⟨ok_callV C h_X10_loads ⟨rfl, rfl⟩ rfl kw_841 kw_838 kw_839 kw_840 kw_1 rfl ds_X10_loads ⟨by decide, by decide⟩ (show decode cL_law 997 = .ok (.invokevirtual 119, 3) from dk_at dq53_12 (i := 43) rfl) rfl, ?_⟩
  refine List.forall_mem_cons.mpr ⟨ok_pop C (show decode cL_law 1000 = .ok (.pop, 1) from dk_at dq53_12 (i := 44) rfl) rfl, ?_⟩
  refine List.forall_mem_cons.mpr ⟨ok_aload_n C (show decode cL_law 1001 = .ok (.aload_n 2, 1) from dk_at dq53_12 (i := 45) rfl) rfl rfl, ?_⟩
  refine List.forall_mem_cons.mpr ⟨ok_aload_n C (show decode cL_law 1002 = .ok (.aload_n 0, 1) from dk_at dq53_12 (i := 46) rfl) rfl rfl, ?_⟩
  refine List.forall_mem_cons.mpr ⟨ok_iload C (show decode cL_law 1003 = .ok (.iload 4, 2) from dk_at dq53_12 (i := 47) rfl) rfl, ?_⟩
  refine List.forall_mem_cons.mpr ⟨ok_iconst C (show decode cL_law 1005 = .ok (.iconst 1, 1) from dk_at dq53_13 (i := 0) rfl) (by decide) rfl, ?_⟩
  refine List.forall_mem_cons.mpr ⟨ok_iadd C (show decode cL_law 1006 = .ok (.iadd, 1) from dk_at dq53_13 (i := 1) rfl) rfl, ?_⟩
  refine List.forall_mem_cons.mpr ⟨ok_sld C hX hb0 hb1 (show decode cL_law 1007 = .ok (.iaload, 1) from dk_at dq53_13 (i := 2) rfl) rfl, ?_⟩
  refine List.forall_mem_cons.mpr ⟨ok_callV C h_X11_loads ⟨rfl, rfl⟩ rfl kw_1576 kw_1573 kw_1574 kw_1575 kw_11 rfl ds_X11_loads ⟨by decide, by decide⟩ (show decode cL_law 1008 = .ok (.invokevirtual 122, 3) from dk_at dq53_13 (i := 3) rfl) rfl, ?_⟩
  refine List.forall_mem_cons.mpr ⟨ok_pop C (show decode cL_law 1011 = .ok (.pop, 1) from dk_at dq53_13 (i := 4) rfl) rfl, ?_⟩
  refine List.forall_mem_cons.mpr ⟨ok_goto C (show decode cL_law 1012 = .ok (.goto 428, 3) from dk_at dq53_13 (i := 5) rfl) (tg := 1440) (by decide) rfl, ?_⟩
  refine List.forall_mem_cons.mpr ⟨ok_aload_n C (show decode cL_law 1015 = .ok (.aload_n 1, 1) from dk_at dq53_13 (i := 6) rfl) rfl rfl, ?_⟩
  refine List.forall_mem_cons.mpr ⟨ok_callV C h_X10_which ⟨rfl, rfl⟩ rfl kw_857 kw_854 kw_855 kw_856 kw_1 rfl ds_X10_which ⟨by decide, by decide⟩ (show decode cL_law 1016 = .ok (.invokevirtual 123, 3) from dk_at dq53_13 (i := 7) rfl) rfl, ?_⟩
  refine List.forall_mem_cons.mpr ⟨ok_pop C (show decode cL_law 1019 = .ok (.pop, 1) from dk_at dq53_13 (i := 8) rfl) rfl, ?_⟩
  refine List.forall_mem_cons.mpr ⟨ok_aload_n C (show decode cL_law 1020 = .ok (.aload_n 2, 1) from dk_at dq53_13 (i := 9) rfl) rfl rfl, ?_⟩
  refine List.forall_mem_cons.mpr ⟨ok_callV C h_X11_which ⟨rfl, rfl⟩ rfl kw_1580 kw_1577 kw_1578 kw_1579 kw_11 rfl ds_X11_which ⟨by decide, by decide⟩ (show decode cL_law 1021 = .ok (.invokevirtual 126, 3) from dk_at dq53_13 (i := 10) rfl) rfl, ?_⟩
  refine List.forall_mem_cons.mpr ⟨ok_pop C (show decode cL_law 1024 = .ok (.pop, 1) from dk_at dq53_13 (i := 11) rfl) rfl, ?_⟩
  refine List.forall_mem_cons.mpr ⟨ok_goto C (show decode cL_law 1025 = .ok (.goto 415, 3) from dk_at dq53_13 (i := 12) rfl) (tg := 1440) (by decide) rfl, ?_⟩
  refine List.forall_mem_cons.mpr ⟨ok_aload_n C (show decode cL_law 1028 = .ok (.aload_n 1, 1) from dk_at dq53_13 (i := 13) rfl) rfl rfl, ?_⟩
  refine List.forall_mem_cons.mpr ⟨ok_callV C h_X10_settles ⟨rfl, rfl⟩ rfl kw_845 kw_842 kw_843 kw_844 kw_1 rfl ds_X10_settles ⟨by decide, by decide⟩ (show decode cL_law 1029 = .ok (.invokevirtual 127, 3) from dk_at dq53_13 (i := 14) rfl) rfl, ?_⟩
  refine List.forall_mem_cons.mpr ⟨ok_pop C (show decode cL_law 1032 = .ok (.pop, 1) from dk_at dq53_13 (i := 15) rfl) rfl, ?_⟩
  refine List.forall_mem_cons.mpr ⟨ok_aload_n C (show decode cL_law 1033 = .ok (.aload_n 2, 1) from dk_at dq53_13 (i := 16) rfl) rfl rfl, ?_⟩
  refine List.forall_mem_cons.mpr ⟨ok_callV C h_X11_settles ⟨rfl, rfl⟩ rfl kw_1588 kw_1585 kw_1586 kw_1587 kw_11 rfl ds_X11_settles ⟨by decide, by decide⟩ (show decode cL_law 1034 = .ok (.invokevirtual 130, 3) from dk_at dq53_13 (i := 17) rfl) rfl, ?_⟩
  refine List.forall_mem_cons.mpr ⟨ok_pop C (show decode cL_law 1037 = .ok (.pop, 1) from dk_at dq53_13 (i := 18) rfl) rfl, ?_⟩
  refine List.forall_mem_cons.mpr ⟨ok_goto C (show decode cL_law 1038 = .ok (.goto 402, 3) from dk_at dq53_13 (i := 19) rfl) (tg := 1440) (by decide) rfl, ?_⟩
  refine List.forall_mem_cons.mpr ⟨ok_aload_n C (show decode cL_law 1041 = .ok (.aload_n 1, 1) from dk_at dq53_13 (i := 20) rfl) rfl rfl, ?_⟩
  refine List.forall_mem_cons.mpr ⟨ok_aload_n C (show decode cL_law 1042 = .ok (.aload_n 0, 1) from dk_at dq53_13 (i := 21) rfl) rfl rfl, ?_⟩
  refine List.forall_mem_cons.mpr ⟨ok_iload C (show decode cL_law 1043 = .ok (.iload 4, 2) from dk_at dq53_13 (i := 22) rfl) rfl, ?_⟩
  refine List.forall_mem_cons.mpr ⟨ok_iconst C (show decode cL_law 1045 = .ok (.iconst 1, 1) from dk_at dq53_13 (i := 23) rfl) (by decide) rfl, ?_⟩
  refine List.forall_mem_cons.mpr ⟨ok_iadd C (show decode cL_law 1046 = .ok (.iadd, 1) from dk_at dq53_13 (i := 24) rfl) rfl, ?_⟩
  refine List.forall_mem_cons.mpr ⟨ok_sld C hX hb0 hb1 (show decode cL_law 1047 = .ok (.iaload, 1) from dk_at dq53_13 (i := 25) rfl) rfl, ?_⟩
  refine List.forall_mem_cons.mpr ⟨ok_aload_n C (show decode cL_law 1048 = .ok (.aload_n 0, 1) from dk_at dq53_13 (i := 26) rfl) rfl rfl, ?_⟩
  refine List.forall_mem_cons.mpr ⟨ok_iload C (show decode cL_law 1049 = .ok (.iload 4, 2) from dk_at dq53_13 (i := 27) rfl) rfl, ?_⟩
  refine List.forall_mem_cons.mpr ⟨ok_iconst C (show decode cL_law 1051 = .ok (.iconst 2, 1) from dk_at dq53_13 (i := 28) rfl) (by decide) rfl, ?_⟩
  refine List.forall_mem_cons.mpr ⟨ok_iadd C (show decode cL_law 1052 = .ok (.iadd, 1) from dk_at dq53_13 (i := 29) rfl) rfl, ?_⟩
  refine List.forall_mem_cons.mpr ⟨ok_sld C hX hb0 hb1 (show decode cL_law 1053 = .ok (.iaload, 1) from dk_at dq53_13 (i := 30) rfl) rfl, ?_⟩
  refine List.forall_mem_cons.mpr ⟨ok_aload_n C (show decode cL_law 1054 = .ok (.aload_n 0, 1) from dk_at dq53_13 (i := 31) rfl) rfl rfl, ?_⟩
  refine List.forall_mem_cons.mpr ⟨ok_iload C (show decode cL_law 1055 = .ok (.iload 4, 2) from dk_at dq53_13 (i := 32) rfl) rfl, ?_⟩
  refine List.forall_mem_cons.mpr ⟨ok_iconst C (show decode cL_law 1057 = .ok (.iconst 3, 1) from dk_at dq53_13 (i := 33) rfl) (by decide) rfl, ?_⟩
  refine List.forall_mem_cons.mpr ⟨ok_iadd C (show decode cL_law 1058 = .ok (.iadd, 1) from dk_at dq53_13 (i := 34) rfl) rfl, ?_⟩
  refine List.forall_mem_cons.mpr ⟨ok_sld C hX hb0 hb1 (show decode cL_law 1059 = .ok (.iaload, 1) from dk_at dq53_13 (i := 35) rfl) rfl, ?_⟩
  refine List.forall_mem_cons.mpr ⟨ok_callV C h_X10_hunger ⟨rfl, rfl⟩ rfl kw_853 kw_850 kw_851 kw_852 kw_1 rfl ds_X10_hunger ⟨by decide, by decide⟩ (show decode cL_law 1060 = .ok (.invokevirtual 131, 3) from dk_at dq53_13 (i := 36) rfl) rfl, ?_⟩
  refine List.forall_mem_cons.mpr ⟨ok_pop C (show decode cL_law 1063 = .ok (.pop, 1) from dk_at dq53_13 (i := 37) rfl) rfl, ?_⟩
  refine List.forall_mem_cons.mpr ⟨ok_aload_n C (show decode cL_law 1064 = .ok (.aload_n 2, 1) from dk_at dq53_13 (i := 38) rfl) rfl rfl, ?_⟩
  refine List.forall_mem_cons.mpr ⟨ok_aload_n C (show decode cL_law 1065 = .ok (.aload_n 0, 1) from dk_at dq53_13 (i := 39) rfl) rfl rfl, ?_⟩
  refine List.forall_mem_cons.mpr ⟨ok_iload C (show decode cL_law 1066 = .ok (.iload 4, 2) from dk_at dq53_13 (i := 40) rfl) rfl, ?_⟩
  refine List.forall_mem_cons.mpr ⟨ok_iconst C (show decode cL_law 1068 = .ok (.iconst 1, 1) from dk_at dq53_13 (i := 41) rfl) (by decide) rfl, ?_⟩
  exact fun _ h => absurd h List.not_mem_nil
def L_law_7 (xs : Nat → Int32) (n : Nat) (f_X11_hunger : List Value → ab_H → Option ab_O) (f_X10_prices : List Value → ab_H → Option ab_O) (f_X11_prices : List Value → ab_H → Option ab_O) (f_X10_price : List Value → ab_H → Option ab_O) (f_X11_price : List Value → ab_H → Option ab_O) (f_X10_dearest : List Value → ab_H → Option ab_O) (f_X11_dearest : List Value → ab_H → Option ab_O) (f_X10_rats : List Value → ab_H → Option ab_O) (f_X11_rats : List Value → ab_H → Option ab_O) (f_X10_hoarded : List Value → ab_H → Option ab_O) (f_X11_hoarded : List Value → ab_H → Option ab_O) : List (Nat × ab_A) := [
  (1069, ab_nx 1070 (ab_bin (fun x y => x + y))),
  (1070, ab_nx 1071 (ab_sld xs n)),
  (1071, ab_nx 1072 (ab_aload 0)),
  (1072, ab_nx 1074 (ab_iload 4)),
  (1074, ab_nx 1075 (ab_lit (.int 2))),
  (1075, ab_nx 1076 (ab_bin (fun x y => x + y))),
  (1076, ab_nx 1077 (ab_sld xs n)),
  (1077, ab_nx 1078 (ab_aload 0)),
  (1078, ab_nx 1080 (ab_iload 4)),
  (1080, ab_nx 1081 (ab_lit (.int 3))),
  (1081, ab_nx 1082 (ab_bin (fun x y => x + y))),
  (1082, ab_nx 1083 (ab_sld xs n)),
  (1083, ab_nx 1086 (ab_callV 4 11 f_X11_hunger 0 0 601024 7293034)),
  (1086, ab_nx 1087 ab_pop),
  (1087, ab_goto 1440),
  (1090, ab_nx 1091 (ab_aload 1)),
  (1091, ab_nx 1094 (ab_callV 1 10 f_X10_prices 0 0 601024 7293034)),
  (1094, ab_nx 1095 ab_pop),
  (1095, ab_nx 1096 (ab_aload 2)),
  (1096, ab_nx 1099 (ab_callV 1 11 f_X11_prices 0 0 601024 7293034)),
  (1099, ab_nx 1100 ab_pop),
  (1100, ab_goto 1440),
  (1103, ab_nx 1104 (ab_aload 1)),
  (1104, ab_nx 1105 (ab_aload 0)),
  (1105, ab_nx 1107 (ab_iload 4)),
  (1107, ab_nx 1108 (ab_lit (.int 1))),
  (1108, ab_nx 1109 (ab_bin (fun x y => x + y))),
  (1109, ab_nx 1110 (ab_sld xs n)),
  (1110, ab_nx 1111 (ab_aload 0)),
  (1111, ab_nx 1113 (ab_iload 4)),
  (1113, ab_nx 1114 (ab_lit (.int 2))),
  (1114, ab_nx 1115 (ab_bin (fun x y => x + y))),
  (1115, ab_nx 1116 (ab_sld xs n)),
  (1116, ab_nx 1119 (ab_callV 3 10 f_X10_price 0 0 601024 7293034)),
  (1119, ab_nx 1120 ab_pop),
  (1120, ab_nx 1121 (ab_aload 2)),
  (1121, ab_nx 1122 (ab_aload 0)),
  (1122, ab_nx 1124 (ab_iload 4)),
  (1124, ab_nx 1125 (ab_lit (.int 1))),
  (1125, ab_nx 1126 (ab_bin (fun x y => x + y))),
  (1126, ab_nx 1127 (ab_sld xs n)),
  (1127, ab_nx 1128 (ab_aload 0)),
  (1128, ab_nx 1130 (ab_iload 4)),
  (1130, ab_nx 1131 (ab_lit (.int 2))),
  (1131, ab_nx 1132 (ab_bin (fun x y => x + y))),
  (1132, ab_nx 1133 (ab_sld xs n)),
  (1133, ab_nx 1136 (ab_callV 3 11 f_X11_price 0 0 601024 7293034)),
  (1136, ab_nx 1137 ab_pop),
  (1137, ab_goto 1440),
  (1140, ab_nx 1141 (ab_aload 1)),
  (1141, ab_nx 1144 (ab_callV 1 10 f_X10_dearest 0 0 601024 7293034)),
  (1144, ab_nx 1145 ab_pop),
  (1145, ab_nx 1146 (ab_aload 2)),
  (1146, ab_nx 1149 (ab_callV 1 11 f_X11_dearest 0 0 601024 7293034)),
  (1149, ab_nx 1150 ab_pop),
  (1150, ab_goto 1440),
  (1153, ab_nx 1154 (ab_aload 1)),
  (1154, ab_nx 1157 (ab_callV 1 10 f_X10_rats 0 0 601024 7293034)),
  (1157, ab_nx 1158 ab_pop),
  (1158, ab_nx 1159 (ab_aload 2)),
  (1159, ab_nx 1162 (ab_callV 1 11 f_X11_rats 0 0 601024 7293034)),
  (1162, ab_nx 1163 ab_pop),
  (1163, ab_goto 1440),
  (1166, ab_nx 1167 (ab_aload 1)),
  (1167, ab_nx 1168 (ab_aload 0)),
  (1168, ab_nx 1170 (ab_iload 4)),
  (1170, ab_nx 1171 (ab_lit (.int 1))),
  (1171, ab_nx 1172 (ab_bin (fun x y => x + y))),
  (1172, ab_nx 1173 (ab_sld xs n)),
  (1173, ab_nx 1176 (ab_callV 2 10 f_X10_hoarded 0 0 601024 7293034)),
  (1176, ab_nx 1177 ab_pop),
  (1177, ab_nx 1178 (ab_aload 2)),
  (1178, ab_nx 1179 (ab_aload 0)),
  (1179, ab_nx 1181 (ab_iload 4)),
  (1181, ab_nx 1182 (ab_lit (.int 1))),
  (1182, ab_nx 1183 (ab_bin (fun x y => x + y))),
  (1183, ab_nx 1184 (ab_sld xs n)),
  (1184, ab_nx 1187 (ab_callV 2 11 f_X11_hoarded 0 0 601024 7293034)),
  (1187, ab_nx 1188 ab_pop),
  (1188, ab_goto 1440),
  (1191, ab_nx 1192 (ab_aload 1)),
  (1192, ab_nx 1193 (ab_aload 0)),
  (1193, ab_nx 1195 (ab_iload 4)),
  (1195, ab_nx 1196 (ab_lit (.int 1))),
  (1196, ab_nx 1197 (ab_bin (fun x y => x + y))),
  (1197, ab_nx 1198 (ab_sld xs n)),
  (1198, ab_nx 1199 (ab_aload 0)),
  (1199, ab_nx 1201 (ab_iload 4)),
  (1201, ab_nx 1202 (ab_lit (.int 2))),
  (1202, ab_nx 1203 (ab_bin (fun x y => x + y)))]
set_option maxRecDepth 100000 in
theorem dq53_14 : ([(1069, .iadd, 1), (1070, .iaload, 1), (1071, .aload_n 0, 1), (1072, .iload 4, 2), (1074, .iconst 2, 1), (1075, .iadd, 1), (1076, .iaload, 1), (1077, .aload_n 0, 1), (1078, .iload 4, 2), (1080, .iconst 3, 1), (1081, .iadd, 1), (1082, .iaload, 1), (1083, .invokevirtual 134, 3), (1086, .pop, 1), (1087, .goto 353, 3), (1090, .aload_n 1, 1), (1091, .invokevirtual 135, 3), (1094, .pop, 1), (1095, .aload_n 2, 1), (1096, .invokevirtual 138, 3), (1099, .pop, 1), (1100, .goto 340, 3), (1103, .aload_n 1, 1), (1104, .aload_n 0, 1), (1105, .iload 4, 2), (1107, .iconst 1, 1), (1108, .iadd, 1), (1109, .iaload, 1), (1110, .aload_n 0, 1), (1111, .iload 4, 2), (1113, .iconst 2, 1), (1114, .iadd, 1), (1115, .iaload, 1), (1116, .invokevirtual 139, 3), (1119, .pop, 1), (1120, .aload_n 2, 1), (1121, .aload_n 0, 1), (1122, .iload 4, 2), (1124, .iconst 1, 1), (1125, .iadd, 1), (1126, .iaload, 1), (1127, .aload_n 0, 1), (1128, .iload 4, 2), (1130, .iconst 2, 1), (1131, .iadd, 1), (1132, .iaload, 1), (1133, .invokevirtual 142, 3), (1136, .pop, 1)] : List (Nat × Instr × Nat)).all (fun q => decide (decode cL_law q.1 = .ok q.2)) = true := by decide +kernel
set_option maxRecDepth 100000 in
theorem dq53_15 : ([(1137, .goto 303, 3), (1140, .aload_n 1, 1), (1141, .invokevirtual 143, 3), (1144, .pop, 1), (1145, .aload_n 2, 1), (1146, .invokevirtual 146, 3), (1149, .pop, 1), (1150, .goto 290, 3), (1153, .aload_n 1, 1), (1154, .invokevirtual 147, 3), (1157, .pop, 1), (1158, .aload_n 2, 1), (1159, .invokevirtual 150, 3), (1162, .pop, 1), (1163, .goto 277, 3), (1166, .aload_n 1, 1), (1167, .aload_n 0, 1), (1168, .iload 4, 2), (1170, .iconst 1, 1), (1171, .iadd, 1), (1172, .iaload, 1), (1173, .invokevirtual 151, 3), (1176, .pop, 1), (1177, .aload_n 2, 1), (1178, .aload_n 0, 1), (1179, .iload 4, 2), (1181, .iconst 1, 1), (1182, .iadd, 1), (1183, .iaload, 1), (1184, .invokevirtual 154, 3), (1187, .pop, 1), (1188, .goto 252, 3), (1191, .aload_n 1, 1), (1192, .aload_n 0, 1), (1193, .iload 4, 2), (1195, .iconst 1, 1), (1196, .iadd, 1), (1197, .iaload, 1), (1198, .aload_n 0, 1), (1199, .iload 4, 2), (1201, .iconst 2, 1), (1202, .iadd, 1)] : List (Nat × Instr × Nat)).all (fun q => decide (decode cL_law q.1 = .ok q.2)) = true := by decide +kernel
set_option maxRecDepth 100000 in
set_option maxHeartbeats 4000000 in
theorem law_7 {p : Program} {l : Launch} {e : Env} {s : State} {m : MethodId} {below : List Frame} {meth : Method} {c : Code} {cd : Cond} {b : ab_B} {D : va_G} {cA : Nat → ClassId} {o : ab_O} {xs : Nat → Int32} {n bb : Nat} {nm : String} (C : ab_cx p l e room_1 s m #[Value.ref bb] below meth c D ab_cl cA (ab_E0 b) (⟨RL, nm, "([I)Z"⟩ : MethodName) cL_law 7 ret (cd :: ab_G) room_1) (hX : va_X bb n xs s s.heap) (hb0 : b.2 0 = bb) (hb1 : b.1 = s.heap.size ∧ bb < s.heap.size) {f_X11_hunger : List Value → ab_H → Option ab_O} (h_X11_hunger : ab_M l b D ab_cl cA (ab_E0 b) yX11_hunger (Cond.code yX11_hunger cX11_hunger 6 (some .int) :: ab_G) ({ frames := 9, cells := 0, slots := 0, locals := 900 } : Room) f_X11_hunger) {f_X10_prices : List Value → ab_H → Option ab_O} (h_X10_prices : ab_M l b D ab_cl cA (ab_E0 b) yX10_prices (Cond.code yX10_prices cX10_prices 2 (some .int) :: ab_G) ({ frames := 6, cells := 0, slots := 0, locals := 600 } : Room) f_X10_prices) {f_X11_prices : List Value → ab_H → Option ab_O} (h_X11_prices : ab_M l b D ab_cl cA (ab_E0 b) yX11_prices (Cond.code yX11_prices cX11_prices 5 (some .int) :: ab_G) ({ frames := 9, cells := 0, slots := 0, locals := 900 } : Room) f_X11_prices) {f_X10_price : List Value → ab_H → Option ab_O} (h_X10_price : ab_M l b D ab_cl cA (ab_E0 b) yX10_price (Cond.code yX10_price cX10_price 4 (some .int) :: ab_G) ({ frames := 2, cells := 0, slots := 0, locals := 200 } : Room) f_X10_price) {f_X11_price : List Value → ab_H → Option ab_O} (h_X11_price : ab_M l b D ab_cl cA (ab_E0 b) yX11_price (Cond.code yX11_price cX11_price 3 (some .int) :: ab_G) ({ frames := 3, cells := 0, slots := 0, locals := 300 } : Room) f_X11_price) {f_X10_dearest : List Value → ab_H → Option ab_O} (h_X10_dearest : ab_M l b D ab_cl cA (ab_E0 b) yX10_dearest (Cond.code yX10_dearest cX10_dearest 5 (some .int) :: ab_G) ({ frames := 4, cells := 0, slots := 0, locals := 400 } : Room) f_X10_dearest) {f_X11_dearest : List Value → ab_H → Option ab_O} (h_X11_dearest : ab_M l b D ab_cl cA (ab_E0 b) yX11_dearest (Cond.code yX11_dearest cX11_dearest 4 (some .int) :: ab_G) ({ frames := 6, cells := 0, slots := 0, locals := 600 } : Room) f_X11_dearest) {f_X10_rats : List Value → ab_H → Option ab_O} (h_X10_rats : ab_M l b D ab_cl cA (ab_E0 b) yX10_rats (Cond.code yX10_rats cX10_rats 3 (some .int) :: ab_G) ({ frames := 3, cells := 0, slots := 0, locals := 300 } : Room) f_X10_rats) {f_X11_rats : List Value → ab_H → Option ab_O} (h_X11_rats : ab_M l b D ab_cl cA (ab_E0 b) yX11_rats (Cond.code yX11_rats cX11_rats 3 (some .int) :: ab_G) ({ frames := 4, cells := 0, slots := 0, locals := 400 } : Room) f_X11_rats) {f_X10_hoarded : List Value → ab_H → Option ab_O} (h_X10_hoarded : ab_M l b D ab_cl cA (ab_E0 b) yX10_hoarded (Cond.code yX10_hoarded cX10_hoarded 6 (some .int) :: ab_G) ({ frames := 2, cells := 0, slots := 0, locals := 200 } : Room) f_X10_hoarded) {f_X11_hoarded : List Value → ab_H → Option ab_O} (h_X11_hoarded : ab_M l b D ab_cl cA (ab_E0 b) yX11_hoarded (Cond.code yX11_hoarded cX11_hoarded 5 (some .int) :: ab_G) ({ frames := 3, cells := 0, slots := 0, locals := 300 } : Room) f_X11_hoarded) : ∀ q ∈ L_law_7 xs n f_X11_hunger f_X10_prices f_X11_prices f_X10_price f_X11_price f_X10_dearest f_X11_dearest f_X10_rats f_X11_rats f_X10_hoarded f_X11_hoarded, ab_ok p l e room_1 s m #[Value.ref bb] below meth c (lw_Z below #[Value.ref bb] s) b D ab_cl cA 7 o (fun i => i) q.1 q.2 := by
  unfold L_law_7
  refine List.forall_mem_cons.mpr ⟨ok_iadd C (show decode cL_law 1069 = .ok (.iadd, 1) from dk_at dq53_14 (i := 0) rfl) rfl, ?_⟩
  refine List.forall_mem_cons.mpr ⟨ok_sld C hX hb0 hb1 (show decode cL_law 1070 = .ok (.iaload, 1) from dk_at dq53_14 (i := 1) rfl) rfl, ?_⟩
  refine List.forall_mem_cons.mpr ⟨ok_aload_n C (show decode cL_law 1071 = .ok (.aload_n 0, 1) from dk_at dq53_14 (i := 2) rfl) rfl rfl, ?_⟩
  refine List.forall_mem_cons.mpr ⟨ok_iload C (show decode cL_law 1072 = .ok (.iload 4, 2) from dk_at dq53_14 (i := 3) rfl) rfl, ?_⟩
  refine List.forall_mem_cons.mpr ⟨ok_iconst C (show decode cL_law 1074 = .ok (.iconst 2, 1) from dk_at dq53_14 (i := 4) rfl) (by decide) rfl, ?_⟩
  refine List.forall_mem_cons.mpr ⟨ok_iadd C (show decode cL_law 1075 = .ok (.iadd, 1) from dk_at dq53_14 (i := 5) rfl) rfl, ?_⟩
  refine List.forall_mem_cons.mpr ⟨ok_sld C hX hb0 hb1 (show decode cL_law 1076 = .ok (.iaload, 1) from dk_at dq53_14 (i := 6) rfl) rfl, ?_⟩
  refine List.forall_mem_cons.mpr ⟨ok_aload_n C (show decode cL_law 1077 = .ok (.aload_n 0, 1) from dk_at dq53_14 (i := 7) rfl) rfl rfl, ?_⟩
  refine List.forall_mem_cons.mpr ⟨ok_iload C (show decode cL_law 1078 = .ok (.iload 4, 2) from dk_at dq53_14 (i := 8) rfl) rfl, ?_⟩
  refine List.forall_mem_cons.mpr ⟨ok_iconst C (show decode cL_law 1080 = .ok (.iconst 3, 1) from dk_at dq53_14 (i := 9) rfl) (by decide) rfl, ?_⟩
  refine List.forall_mem_cons.mpr ⟨ok_iadd C (show decode cL_law 1081 = .ok (.iadd, 1) from dk_at dq53_14 (i := 10) rfl) rfl, ?_⟩
  refine List.forall_mem_cons.mpr ⟨ok_sld C hX hb0 hb1 (show decode cL_law 1082 = .ok (.iaload, 1) from dk_at dq53_14 (i := 11) rfl) rfl, ?_⟩
  refine List.forall_mem_cons.mpr ⟨ok_callV C h_X11_hunger ⟨rfl, rfl⟩ rfl kw_1600 kw_1597 kw_1598 kw_1599 kw_11 rfl ds_X11_hunger ⟨by decide, by decide⟩ (show decode cL_law 1083 = .ok (.invokevirtual 134, 3) from dk_at dq53_14 (i := 12) rfl) rfl, ?_⟩
  refine List.forall_mem_cons.mpr ⟨ok_pop C (show decode cL_law 1086 = .ok (.pop, 1) from dk_at dq53_14 (i := 13) rfl) rfl, ?_⟩
  refine List.forall_mem_cons.mpr ⟨ok_goto C (show decode cL_law 1087 = .ok (.goto 353, 3) from dk_at dq53_14 (i := 14) rfl) (tg := 1440) (by decide) rfl, ?_⟩
  refine List.forall_mem_cons.mpr ⟨ok_aload_n C (show decode cL_law 1090 = .ok (.aload_n 1, 1) from dk_at dq53_14 (i := 15) rfl) rfl rfl, ?_⟩
  refine List.forall_mem_cons.mpr ⟨ok_callV C h_X10_prices ⟨rfl, rfl⟩ rfl kw_866 kw_863 kw_864 kw_865 kw_1 rfl ds_X10_prices ⟨by decide, by decide⟩ (show decode cL_law 1091 = .ok (.invokevirtual 135, 3) from dk_at dq53_14 (i := 16) rfl) rfl, ?_⟩
  refine List.forall_mem_cons.mpr ⟨ok_pop C (show decode cL_law 1094 = .ok (.pop, 1) from dk_at dq53_14 (i := 17) rfl) rfl, ?_⟩
  refine List.forall_mem_cons.mpr ⟨ok_aload_n C (show decode cL_law 1095 = .ok (.aload_n 2, 1) from dk_at dq53_14 (i := 18) rfl) rfl rfl, ?_⟩
  refine List.forall_mem_cons.mpr ⟨ok_callV C h_X11_prices ⟨rfl, rfl⟩ rfl kw_1604 kw_1601 kw_1602 kw_1603 kw_11 rfl ds_X11_prices ⟨by decide, by decide⟩ (show decode cL_law 1096 = .ok (.invokevirtual 138, 3) from dk_at dq53_14 (i := 19) rfl) rfl, ?_⟩
  refine List.forall_mem_cons.mpr ⟨ok_pop C (show decode cL_law 1099 = .ok (.pop, 1) from dk_at dq53_14 (i := 20) rfl) rfl, ?_⟩
  refine List.forall_mem_cons.mpr ⟨ok_goto C (show decode cL_law 1100 = .ok (.goto 340, 3) from dk_at dq53_14 (i := 21) rfl) (tg := 1440) (by decide) rfl, ?_⟩
  refine List.forall_mem_cons.mpr ⟨ok_aload_n C (show decode cL_law 1103 = .ok (.aload_n 1, 1) from dk_at dq53_14 (i := 22) rfl) rfl rfl, ?_⟩
  refine List.forall_mem_cons.mpr ⟨ok_aload_n C (show decode cL_law 1104 = .ok (.aload_n 0, 1) from dk_at dq53_14 (i := 23) rfl) rfl rfl, ?_⟩
  refine List.forall_mem_cons.mpr ⟨ok_iload C (show decode cL_law 1105 = .ok (.iload 4, 2) from dk_at dq53_14 (i := 24) rfl) rfl, ?_⟩
  refine List.forall_mem_cons.mpr ⟨ok_iconst C (show decode cL_law 1107 = .ok (.iconst 1, 1) from dk_at dq53_14 (i := 25) rfl) (by decide) rfl, ?_⟩
  refine List.forall_mem_cons.mpr ⟨ok_iadd C (show decode cL_law 1108 = .ok (.iadd, 1) from dk_at dq53_14 (i := 26) rfl) rfl, ?_⟩
  refine List.forall_mem_cons.mpr ⟨ok_sld C hX hb0 hb1 (show decode cL_law 1109 = .ok (.iaload, 1) from dk_at dq53_14 (i := 27) rfl) rfl, ?_⟩
  refine List.forall_mem_cons.mpr ⟨ok_aload_n C (show decode cL_law 1110 = .ok (.aload_n 0, 1) from dk_at dq53_14 (i := 28) rfl) rfl rfl, ?_⟩
  refine List.forall_mem_cons.mpr ⟨ok_iload C (show decode cL_law 1111 = .ok (.iload 4, 2) from dk_at dq53_14 (i := 29) rfl) rfl, ?_⟩
  refine List.forall_mem_cons.mpr ⟨ok_iconst C (show decode cL_law 1113 = .ok (.iconst 2, 1) from dk_at dq53_14 (i := 30) rfl) (by decide) rfl, ?_⟩
  refine List.forall_mem_cons.mpr ⟨ok_iadd C (show decode cL_law 1114 = .ok (.iadd, 1) from dk_at dq53_14 (i := 31) rfl) rfl, ?_⟩
  refine List.forall_mem_cons.mpr ⟨ok_sld C hX hb0 hb1 (show decode cL_law 1115 = .ok (.iaload, 1) from dk_at dq53_14 (i := 32) rfl) rfl, ?_⟩
  refine List.forall_mem_cons.mpr ⟨ok_callV C h_X10_price ⟨rfl, rfl⟩ rfl kw_874 kw_871 kw_872 kw_873 kw_1 rfl ds_X10_price ⟨by decide, by decide⟩ (show decode cL_law 1116 = .ok (.invokevirtual 139, 3) from dk_at dq53_14 (i := 33) rfl) rfl, ?_⟩
  refine List.forall_mem_cons.mpr ⟨ok_pop C (show decode cL_law 1119 = .ok (.pop, 1) from dk_at dq53_14 (i := 34) rfl) rfl, ?_⟩
  refine List.forall_mem_cons.mpr ⟨ok_aload_n C (show decode cL_law 1120 = .ok (.aload_n 2, 1) from dk_at dq53_14 (i := 35) rfl) rfl rfl, ?_⟩
  refine List.forall_mem_cons.mpr ⟨ok_aload_n C (show decode cL_law 1121 = .ok (.aload_n 0, 1) from dk_at dq53_14 (i := 36) rfl) rfl rfl, ?_⟩
  refine List.forall_mem_cons.mpr ⟨ok_iload C (show decode cL_law 1122 = .ok (.iload 4, 2) from dk_at dq53_14 (i := 37) rfl) rfl, ?_⟩
  refine List.forall_mem_cons.mpr ⟨ok_iconst C (show decode cL_law 1124 = .ok (.iconst 1, 1) from dk_at dq53_14 (i := 38) rfl) (by decide) rfl, ?_⟩
  refine List.forall_mem_cons.mpr ⟨ok_iadd C (show decode cL_law 1125 = .ok (.iadd, 1) from dk_at dq53_14 (i := 39) rfl) rfl, ?_⟩
  refine List.forall_mem_cons.mpr ⟨ok_sld C hX hb0 hb1 (show decode cL_law 1126 = .ok (.iaload, 1) from dk_at dq53_14 (i := 40) rfl) rfl, ?_⟩
  refine List.forall_mem_cons.mpr ⟨ok_aload_n C (show decode cL_law 1127 = .ok (.aload_n 0, 1) from dk_at dq53_14 (i := 41) rfl) rfl rfl, ?_⟩
  refine List.forall_mem_cons.mpr ⟨ok_iload C (show decode cL_law 1128 = .ok (.iload 4, 2) from dk_at dq53_14 (i := 42) rfl) rfl, ?_⟩
  refine List.forall_mem_cons.mpr ⟨ok_iconst C (show decode cL_law 1130 = .ok (.iconst 2, 1) from dk_at dq53_14 (i := 43) rfl) (by decide) rfl, ?_⟩
  refine List.forall_mem_cons.mpr ⟨ok_iadd C (show decode cL_law 1131 = .ok (.iadd, 1) from dk_at dq53_14 (i := 44) rfl) rfl, ?_⟩
  refine List.forall_mem_cons.mpr ⟨ok_sld C hX hb0 hb1 (show decode cL_law 1132 = .ok (.iaload, 1) from dk_at dq53_14 (i := 45) rfl) rfl, ?_⟩
  refine List.forall_mem_cons.mpr ⟨ok_callV C h_X11_price ⟨rfl, rfl⟩ rfl kw_1608 kw_1605 kw_1606 kw_1607 kw_11 rfl ds_X11_price ⟨by decide, by decide⟩ (show decode cL_law 1133 = .ok (.invokevirtual 142, 3) from dk_at dq53_14 (i := 46) rfl) rfl, ?_⟩
  refine List.forall_mem_cons.mpr ⟨ok_pop C (show decode cL_law 1136 = .ok (.pop, 1) from dk_at dq53_14 (i := 47) rfl) rfl, ?_⟩
  refine List.forall_mem_cons.mpr ⟨ok_goto C (show decode cL_law 1137 = .ok (.goto 303, 3) from dk_at dq53_15 (i := 0) rfl) (tg := 1440) (by decide) rfl, ?_⟩
  refine List.forall_mem_cons.mpr ⟨ok_aload_n C (show decode cL_law 1140 = .ok (.aload_n 1, 1) from dk_at dq53_15 (i := 1) rfl) rfl rfl, ?_⟩
  refine List.forall_mem_cons.mpr ⟨ok_callV C h_X10_dearest ⟨rfl, rfl⟩ rfl kw_664 kw_661 kw_662 kw_663 kw_1 rfl ds_X10_dearest ⟨by decide, by decide⟩ (show decode cL_law 1141 = .ok (.invokevirtual 143, 3) from dk_at dq53_15 (i := 2) rfl) rfl, ?_⟩
  refine List.forall_mem_cons.mpr ⟨ok_pop C (show decode cL_law 1144 = .ok (.pop, 1) from dk_at dq53_15 (i := 3) rfl) rfl, ?_⟩
  refine List.forall_mem_cons.mpr ⟨ok_aload_n C (show decode cL_law 1145 = .ok (.aload_n 2, 1) from dk_at dq53_15 (i := 4) rfl) rfl rfl, ?_⟩
  refine List.forall_mem_cons.mpr ⟨ok_callV C h_X11_dearest ⟨rfl, rfl⟩ rfl kw_1612 kw_1609 kw_1610 kw_1611 kw_11 rfl ds_X11_dearest ⟨by decide, by decide⟩ (show decode cL_law 1146 = .ok (.invokevirtual 146, 3) from dk_at dq53_15 (i := 5) rfl) rfl, ?_⟩
  refine List.forall_mem_cons.mpr ⟨ok_pop C (show decode cL_law 1149 = .ok (.pop, 1) from dk_at dq53_15 (i := 6) rfl) rfl, ?_⟩
  refine List.forall_mem_cons.mpr ⟨ok_goto C (show decode cL_law 1150 = .ok (.goto 290, 3) from dk_at dq53_15 (i := 7) rfl) (tg := 1440) (by decide) rfl, ?_⟩
  refine List.forall_mem_cons.mpr ⟨ok_aload_n C (show decode cL_law 1153 = .ok (.aload_n 1, 1) from dk_at dq53_15 (i := 8) rfl) rfl rfl, ?_⟩
  refine List.forall_mem_cons.mpr ⟨ok_callV C h_X10_rats ⟨rfl, rfl⟩ rfl kw_683 kw_680 kw_681 kw_682 kw_1 rfl ds_X10_rats ⟨by decide, by decide⟩ (show decode cL_law 1154 = .ok (.invokevirtual 147, 3) from dk_at dq53_15 (i := 9) rfl) rfl, ?_⟩
  refine List.forall_mem_cons.mpr ⟨ok_pop C (show decode cL_law 1157 = .ok (.pop, 1) from dk_at dq53_15 (i := 10) rfl) rfl, ?_⟩
  refine List.forall_mem_cons.mpr ⟨ok_aload_n C (show decode cL_law 1158 = .ok (.aload_n 2, 1) from dk_at dq53_15 (i := 11) rfl) rfl rfl, ?_⟩
  refine List.forall_mem_cons.mpr ⟨ok_callV C h_X11_rats ⟨rfl, rfl⟩ rfl kw_1619 kw_1616 kw_1617 kw_1618 kw_11 rfl ds_X11_rats ⟨by decide, by decide⟩ (show decode cL_law 1159 = .ok (.invokevirtual 150, 3) from dk_at dq53_15 (i := 12) rfl) rfl, ?_⟩
  refine List.forall_mem_cons.mpr ⟨ok_pop C (show decode cL_law 1162 = .ok (.pop, 1) from dk_at dq53_15 (i := 13) rfl) rfl, ?_⟩
  refine List.forall_mem_cons.mpr ⟨ok_goto C (show decode cL_law 1163 = .ok (.goto 277, 3) from dk_at dq53_15 (i := 14) rfl) (tg := 1440) (by decide) rfl, ?_⟩
  refine List.forall_mem_cons.mpr ⟨ok_aload_n C (show decode cL_law 1166 = .ok (.aload_n 1, 1) from dk_at dq53_15 (i := 15) rfl) rfl rfl, ?_⟩
  refine List.forall_mem_cons.mpr ⟨ok_aload_n C (show decode cL_law 1167 = .ok (.aload_n 0, 1) from dk_at dq53_15 (i := 16) rfl) rfl rfl, ?_⟩
  refine List.forall_mem_cons.mpr ⟨ok_iload C (show decode cL_law 1168 = .ok (.iload 4, 2) from dk_at dq53_15 (i := 17) rfl) rfl, ?_⟩
  refine List.forall_mem_cons.mpr ⟨ok_iconst C (show decode cL_law 1170 = .ok (.iconst 1, 1) from dk_at dq53_15 (i := 18) rfl) (by decide) rfl, ?_⟩
  refine List.forall_mem_cons.mpr ⟨ok_iadd C (show decode cL_law 1171 = .ok (.iadd, 1) from dk_at dq53_15 (i := 19) rfl) rfl, ?_⟩
  refine List.forall_mem_cons.mpr ⟨ok_sld C hX hb0 hb1 (show decode cL_law 1172 = .ok (.iaload, 1) from dk_at dq53_15 (i := 20) rfl) rfl, ?_⟩
  refine List.forall_mem_cons.mpr ⟨ok_callV C h_X10_hoarded ⟨rfl, rfl⟩ rfl kw_692 kw_689 kw_690 kw_691 kw_1 rfl ds_X10_hoarded ⟨by decide, by decide⟩ (show decode cL_law 1173 = .ok (.invokevirtual 151, 3) from dk_at dq53_15 (i := 21) rfl) rfl, ?_⟩
  refine List.forall_mem_cons.mpr ⟨ok_pop C (show decode cL_law 1176 = .ok (.pop, 1) from dk_at dq53_15 (i := 22) rfl) rfl, ?_⟩
  refine List.forall_mem_cons.mpr ⟨ok_aload_n C (show decode cL_law 1177 = .ok (.aload_n 2, 1) from dk_at dq53_15 (i := 23) rfl) rfl rfl, ?_⟩
  refine List.forall_mem_cons.mpr ⟨ok_aload_n C (show decode cL_law 1178 = .ok (.aload_n 0, 1) from dk_at dq53_15 (i := 24) rfl) rfl rfl, ?_⟩
  refine List.forall_mem_cons.mpr ⟨ok_iload C (show decode cL_law 1179 = .ok (.iload 4, 2) from dk_at dq53_15 (i := 25) rfl) rfl, ?_⟩
  refine List.forall_mem_cons.mpr ⟨ok_iconst C (show decode cL_law 1181 = .ok (.iconst 1, 1) from dk_at dq53_15 (i := 26) rfl) (by decide) rfl, ?_⟩
  refine List.forall_mem_cons.mpr ⟨ok_iadd C (show decode cL_law 1182 = .ok (.iadd, 1) from dk_at dq53_15 (i := 27) rfl) rfl, ?_⟩
  refine List.forall_mem_cons.mpr ⟨ok_sld C hX hb0 hb1 (show decode cL_law 1183 = .ok (.iaload, 1) from dk_at dq53_15 (i := 28) rfl) rfl, ?_⟩
  refine List.forall_mem_cons.mpr ⟨ok_callV C h_X11_hoarded ⟨rfl, rfl⟩ rfl kw_1623 kw_1620 kw_1621 kw_1622 kw_11 rfl ds_X11_hoarded ⟨by decide, by decide⟩ (show decode cL_law 1184 = .ok (.invokevirtual 154, 3) from dk_at dq53_15 (i := 29) rfl) rfl, ?_⟩
  refine List.forall_mem_cons.mpr ⟨ok_pop C (show decode cL_law 1187 = .ok (.pop, 1) from dk_at dq53_15 (i := 30) rfl) rfl, ?_⟩
  refine List.forall_mem_cons.mpr ⟨ok_goto C (show decode cL_law 1188 = .ok (.goto 252, 3) from dk_at dq53_15 (i := 31) rfl) (tg := 1440) (by decide) rfl, ?_⟩
  refine List.forall_mem_cons.mpr ⟨ok_aload_n C (show decode cL_law 1191 = .ok (.aload_n 1, 1) from dk_at dq53_15 (i := 32) rfl) rfl rfl, ?_⟩
  refine List.forall_mem_cons.mpr ⟨ok_aload_n C (show decode cL_law 1192 = .ok (.aload_n 0, 1) from dk_at dq53_15 (i := 33) rfl) rfl rfl, ?_⟩
  refine List.forall_mem_cons.mpr ⟨ok_iload C (show decode cL_law 1193 = .ok (.iload 4, 2) from dk_at dq53_15 (i := 34) rfl) rfl, ?_⟩
  refine List.forall_mem_cons.mpr ⟨ok_iconst C (show decode cL_law 1195 = .ok (.iconst 1, 1) from dk_at dq53_15 (i := 35) rfl) (by decide) rfl, ?_⟩
  refine List.forall_mem_cons.mpr ⟨ok_iadd C (show decode cL_law 1196 = .ok (.iadd, 1) from dk_at dq53_15 (i := 36) rfl) rfl, ?_⟩
  refine List.forall_mem_cons.mpr ⟨ok_sld C hX hb0 hb1 (show decode cL_law 1197 = .ok (.iaload, 1) from dk_at dq53_15 (i := 37) rfl) rfl, ?_⟩
  refine List.forall_mem_cons.mpr ⟨ok_aload_n C (show decode cL_law 1198 = .ok (.aload_n 0, 1) from dk_at dq53_15 (i := 38) rfl) rfl rfl, ?_⟩
  refine List.forall_mem_cons.mpr ⟨ok_iload C (show decode cL_law 1199 = .ok (.iload 4, 2) from dk_at dq53_15 (i := 39) rfl) rfl, ?_⟩
  refine List.forall_mem_cons.mpr ⟨ok_iconst C (show decode cL_law 1201 = .ok (.iconst 2, 1) from dk_at dq53_15 (i := 40) rfl) (by decide) rfl, ?_⟩
  refine List.forall_mem_cons.mpr ⟨ok_iadd C (show decode cL_law 1202 = .ok (.iadd, 1) from dk_at dq53_15 (i := 41) rfl) rfl, ?_⟩
  exact fun _ h => absurd h List.not_mem_nil
def L_law_8 (xs : Nat → Int32) (n : Nat) (f_X10_drawn : List Value → ab_H → Option ab_O) (f_X11_drawn : List Value → ab_H → Option ab_O) (f_X10_odds : List Value → ab_H → Option ab_O) (f_X11_odds : List Value → ab_H → Option ab_O) (f_X10_log : List Value → ab_H → Option ab_O) (f_X11_log : List Value → ab_H → Option ab_O) (f_X10_logged : List Value → ab_H → Option ab_O) (f_X11_logged : List Value → ab_H → Option ab_O) (f_X10_sentence : List Value → ab_H → Option ab_O) : List (Nat × ab_A) := [
  (1203, ab_nx 1204 (ab_sld xs n)),
  (1204, ab_nx 1207 (ab_callV 3 10 f_X10_drawn 8 138 601024 7293034)),
  (1207, ab_nx 1208 ab_pop),
  (1208, ab_nx 1209 (ab_aload 2)),
  (1209, ab_nx 1210 (ab_aload 0)),
  (1210, ab_nx 1212 (ab_iload 4)),
  (1212, ab_nx 1213 (ab_lit (.int 1))),
  (1213, ab_nx 1214 (ab_bin (fun x y => x + y))),
  (1214, ab_nx 1215 (ab_sld xs n)),
  (1215, ab_nx 1216 (ab_aload 0)),
  (1216, ab_nx 1218 (ab_iload 4)),
  (1218, ab_nx 1219 (ab_lit (.int 2))),
  (1219, ab_nx 1220 (ab_bin (fun x y => x + y))),
  (1220, ab_nx 1221 (ab_sld xs n)),
  (1221, ab_nx 1224 (ab_callV 3 11 f_X11_drawn 0 0 601024 7293034)),
  (1224, ab_nx 1225 ab_pop),
  (1225, ab_goto 1440),
  (1228, ab_nx 1229 (ab_aload 1)),
  (1229, ab_nx 1230 (ab_aload 0)),
  (1230, ab_nx 1232 (ab_iload 4)),
  (1232, ab_nx 1233 (ab_lit (.int 1))),
  (1233, ab_nx 1234 (ab_bin (fun x y => x + y))),
  (1234, ab_nx 1235 (ab_sld xs n)),
  (1235, ab_nx 1236 (ab_aload 0)),
  (1236, ab_nx 1238 (ab_iload 4)),
  (1238, ab_nx 1239 (ab_lit (.int 2))),
  (1239, ab_nx 1240 (ab_bin (fun x y => x + y))),
  (1240, ab_nx 1241 (ab_sld xs n)),
  (1241, ab_nx 1242 (ab_aload 0)),
  (1242, ab_nx 1244 (ab_iload 4)),
  (1244, ab_nx 1245 (ab_lit (.int 3))),
  (1245, ab_nx 1246 (ab_bin (fun x y => x + y))),
  (1246, ab_nx 1247 (ab_sld xs n)),
  (1247, ab_nx 1250 (ab_callV 4 10 f_X10_odds 0 0 601024 7293034)),
  (1250, ab_nx 1251 ab_pop),
  (1251, ab_nx 1252 (ab_aload 2)),
  (1252, ab_nx 1253 (ab_aload 0)),
  (1253, ab_nx 1255 (ab_iload 4)),
  (1255, ab_nx 1256 (ab_lit (.int 1))),
  (1256, ab_nx 1257 (ab_bin (fun x y => x + y))),
  (1257, ab_nx 1258 (ab_sld xs n)),
  (1258, ab_nx 1259 (ab_aload 0)),
  (1259, ab_nx 1261 (ab_iload 4)),
  (1261, ab_nx 1262 (ab_lit (.int 2))),
  (1262, ab_nx 1263 (ab_bin (fun x y => x + y))),
  (1263, ab_nx 1264 (ab_sld xs n)),
  (1264, ab_nx 1265 (ab_aload 0)),
  (1265, ab_nx 1267 (ab_iload 4)),
  (1267, ab_nx 1268 (ab_lit (.int 3))),
  (1268, ab_nx 1269 (ab_bin (fun x y => x + y))),
  (1269, ab_nx 1270 (ab_sld xs n)),
  (1270, ab_nx 1273 (ab_callV 4 11 f_X11_odds 0 0 601024 7293034)),
  (1273, ab_nx 1274 ab_pop),
  (1274, ab_goto 1440),
  (1277, ab_nx 1278 (ab_aload 1)),
  (1278, ab_nx 1279 (ab_aload 0)),
  (1279, ab_nx 1281 (ab_iload 4)),
  (1281, ab_nx 1282 (ab_lit (.int 1))),
  (1282, ab_nx 1283 (ab_bin (fun x y => x + y))),
  (1283, ab_nx 1284 (ab_sld xs n)),
  (1284, ab_nx 1287 (ab_callV 2 10 f_X10_log 8 138 601024 7293034)),
  (1287, ab_nx 1288 ab_pop),
  (1288, ab_nx 1289 (ab_aload 2)),
  (1289, ab_nx 1290 (ab_aload 0)),
  (1290, ab_nx 1292 (ab_iload 4)),
  (1292, ab_nx 1293 (ab_lit (.int 1))),
  (1293, ab_nx 1294 (ab_bin (fun x y => x + y))),
  (1294, ab_nx 1295 (ab_sld xs n)),
  (1295, ab_nx 1298 (ab_callV 2 11 f_X11_log 0 0 601024 7293034)),
  (1298, ab_nx 1299 ab_pop),
  (1299, ab_goto 1440),
  (1302, ab_nx 1303 (ab_aload 1)),
  (1303, ab_nx 1304 (ab_aload 0)),
  (1304, ab_nx 1306 (ab_iload 4)),
  (1306, ab_nx 1307 (ab_lit (.int 1))),
  (1307, ab_nx 1308 (ab_bin (fun x y => x + y))),
  (1308, ab_nx 1309 (ab_sld xs n)),
  (1309, ab_nx 1312 (ab_callV 2 10 f_X10_logged 0 0 601024 7293034)),
  (1312, ab_nx 1313 ab_pop),
  (1313, ab_nx 1314 (ab_aload 2)),
  (1314, ab_nx 1315 (ab_aload 0)),
  (1315, ab_nx 1317 (ab_iload 4)),
  (1317, ab_nx 1318 (ab_lit (.int 1))),
  (1318, ab_nx 1319 (ab_bin (fun x y => x + y))),
  (1319, ab_nx 1320 (ab_sld xs n)),
  (1320, ab_nx 1323 (ab_callV 2 11 f_X11_logged 0 0 601024 7293034)),
  (1323, ab_nx 1324 ab_pop),
  (1324, ab_goto 1440),
  (1327, ab_nx 1328 (ab_aload 1)),
  (1328, ab_nx 1331 (ab_callV 1 10 f_X10_sentence 0 0 601024 7293034))]
set_option maxRecDepth 100000 in
theorem dq53_16 : ([(1203, .iaload, 1), (1204, .invokevirtual 155, 3), (1207, .pop, 1), (1208, .aload_n 2, 1), (1209, .aload_n 0, 1), (1210, .iload 4, 2), (1212, .iconst 1, 1), (1213, .iadd, 1), (1214, .iaload, 1), (1215, .aload_n 0, 1), (1216, .iload 4, 2), (1218, .iconst 2, 1), (1219, .iadd, 1), (1220, .iaload, 1), (1221, .invokevirtual 158, 3), (1224, .pop, 1), (1225, .goto 215, 3), (1228, .aload_n 1, 1), (1229, .aload_n 0, 1), (1230, .iload 4, 2), (1232, .iconst 1, 1), (1233, .iadd, 1), (1234, .iaload, 1), (1235, .aload_n 0, 1), (1236, .iload 4, 2), (1238, .iconst 2, 1), (1239, .iadd, 1), (1240, .iaload, 1), (1241, .aload_n 0, 1), (1242, .iload 4, 2), (1244, .iconst 3, 1), (1245, .iadd, 1), (1246, .iaload, 1), (1247, .invokevirtual 159, 3), (1250, .pop, 1), (1251, .aload_n 2, 1), (1252, .aload_n 0, 1), (1253, .iload 4, 2), (1255, .iconst 1, 1), (1256, .iadd, 1), (1257, .iaload, 1), (1258, .aload_n 0, 1), (1259, .iload 4, 2), (1261, .iconst 2, 1), (1262, .iadd, 1), (1263, .iaload, 1), (1264, .aload_n 0, 1), (1265, .iload 4, 2)] : List (Nat × Instr × Nat)).all (fun q => decide (decode cL_law q.1 = .ok q.2)) = true := by decide +kernel
set_option maxRecDepth 100000 in
theorem dq53_17 : ([(1267, .iconst 3, 1), (1268, .iadd, 1), (1269, .iaload, 1), (1270, .invokevirtual 162, 3), (1273, .pop, 1), (1274, .goto 166, 3), (1277, .aload_n 1, 1), (1278, .aload_n 0, 1), (1279, .iload 4, 2), (1281, .iconst 1, 1), (1282, .iadd, 1), (1283, .iaload, 1), (1284, .invokevirtual 163, 3), (1287, .pop, 1), (1288, .aload_n 2, 1), (1289, .aload_n 0, 1), (1290, .iload 4, 2), (1292, .iconst 1, 1), (1293, .iadd, 1), (1294, .iaload, 1), (1295, .invokevirtual 166, 3), (1298, .pop, 1), (1299, .goto 141, 3), (1302, .aload_n 1, 1), (1303, .aload_n 0, 1), (1304, .iload 4, 2), (1306, .iconst 1, 1), (1307, .iadd, 1), (1308, .iaload, 1), (1309, .invokevirtual 167, 3), (1312, .pop, 1), (1313, .aload_n 2, 1), (1314, .aload_n 0, 1), (1315, .iload 4, 2), (1317, .iconst 1, 1), (1318, .iadd, 1), (1319, .iaload, 1), (1320, .invokevirtual 170, 3), (1323, .pop, 1), (1324, .goto 116, 3), (1327, .aload_n 1, 1), (1328, .invokevirtual 171, 3)] : List (Nat × Instr × Nat)).all (fun q => decide (decode cL_law q.1 = .ok q.2)) = true := by decide +kernel
set_option maxRecDepth 100000 in
set_option maxHeartbeats 4000000 in
theorem law_8 {p : Program} {l : Launch} {e : Env} {s : State} {m : MethodId} {below : List Frame} {meth : Method} {c : Code} {cd : Cond} {b : ab_B} {D : va_G} {cA : Nat → ClassId} {o : ab_O} {xs : Nat → Int32} {n bb : Nat} {nm : String} (C : ab_cx p l e room_1 s m #[Value.ref bb] below meth c D ab_cl cA (ab_E0 b) (⟨RL, nm, "([I)Z"⟩ : MethodName) cL_law 7 ret (cd :: ab_G) room_1) (hX : va_X bb n xs s s.heap) (hb0 : b.2 0 = bb) (hb1 : b.1 = s.heap.size ∧ bb < s.heap.size) {f_X10_drawn : List Value → ab_H → Option ab_O} (h_X10_drawn : ab_M l b D ab_cl cA (ab_E0 b) yX10_drawn (Cond.code yX10_drawn cX10_drawn 3 (some .int) :: ab_G) ({ frames := 7, cells := 8, slots := 138, locals := 700 } : Room) f_X10_drawn) {f_X11_drawn : List Value → ab_H → Option ab_O} (h_X11_drawn : ab_M l b D ab_cl cA (ab_E0 b) yX11_drawn (Cond.code yX11_drawn cX11_drawn 3 (some .int) :: ab_G) ({ frames := 10, cells := 0, slots := 0, locals := 1000 } : Room) f_X11_drawn) {f_X10_odds : List Value → ab_H → Option ab_O} (h_X10_odds : ab_M l b D ab_cl cA (ab_E0 b) yX10_odds (Cond.code yX10_odds cX10_odds 6 (some .int) :: ab_G) ({ frames := 7, cells := 0, slots := 0, locals := 700 } : Room) f_X10_odds) {f_X11_odds : List Value → ab_H → Option ab_O} (h_X11_odds : ab_M l b D ab_cl cA (ab_E0 b) yX11_odds (Cond.code yX11_odds cX11_odds 7 (some .int) :: ab_G) ({ frames := 10, cells := 0, slots := 0, locals := 1000 } : Room) f_X11_odds) {f_X10_log : List Value → ab_H → Option ab_O} (h_X10_log : ab_M l b D ab_cl cA (ab_E0 b) yX10_log (Cond.code yX10_log cX10_log 3 (some .int) :: ab_G) ({ frames := 10, cells := 8, slots := 138, locals := 1000 } : Room) f_X10_log) {f_X11_log : List Value → ab_H → Option ab_O} (h_X11_log : ab_M l b D ab_cl cA (ab_E0 b) yX11_log (Cond.code yX11_log cX11_log 5 (some .int) :: ab_G) ({ frames := 10, cells := 0, slots := 0, locals := 1000 } : Room) f_X11_log) {f_X10_logged : List Value → ab_H → Option ab_O} (h_X10_logged : ab_M l b D ab_cl cA (ab_E0 b) yX10_logged (Cond.code yX10_logged cX10_logged 2 (some .int) :: ab_G) ({ frames := 1, cells := 0, slots := 0, locals := 100 } : Room) f_X10_logged) {f_X11_logged : List Value → ab_H → Option ab_O} (h_X11_logged : ab_M l b D ab_cl cA (ab_E0 b) yX11_logged (Cond.code yX11_logged cX11_logged 2 (some .int) :: ab_G) ({ frames := 2, cells := 0, slots := 0, locals := 200 } : Room) f_X11_logged) {f_X10_sentence : List Value → ab_H → Option ab_O} (h_X10_sentence : ab_M l b D ab_cl cA (ab_E0 b) yX10_sentence (Cond.code yX10_sentence cX10_sentence 2 (some .int) :: ab_G) ({ frames := 41, cells := 0, slots := 0, locals := 4100 } : Room) f_X10_sentence) : ∀ q ∈ L_law_8 xs n f_X10_drawn f_X11_drawn f_X10_odds f_X11_odds f_X10_log f_X11_log f_X10_logged f_X11_logged f_X10_sentence, ab_ok p l e room_1 s m #[Value.ref bb] below meth c (lw_Z below #[Value.ref bb] s) b D ab_cl cA 7 o (fun i => i) q.1 q.2 := by
  unfold L_law_8
  refine List.forall_mem_cons.mpr ⟨ok_sld C hX hb0 hb1 (show decode cL_law 1203 = .ok (.iaload, 1) from dk_at dq53_16 (i := 0) rfl) rfl, ?_⟩
  refine List.forall_mem_cons.mpr ⟨ok_callV C h_X10_drawn ⟨rfl, rfl⟩ rfl kw_878 kw_875 kw_876 kw_877 kw_1 rfl ds_X10_drawn ⟨by decide, by decide⟩ (show decode cL_law 1204 = .ok (.invokevirtual 155, 3) from dk_at dq53_16 (i := 1) rfl) rfl, ?_⟩
  refine List.forall_mem_cons.mpr ⟨ok_pop C (show decode cL_law 1207 = .ok (.pop, 1) from dk_at dq53_16 (i := 2) rfl) rfl, ?_⟩
  refine List.forall_mem_cons.mpr ⟨ok_aload_n C (show decode cL_law 1208 = .ok (.aload_n 2, 1) from dk_at dq53_16 (i := 3) rfl) rfl rfl, ?_⟩
  refine List.forall_mem_cons.mpr ⟨ok_aload_n C (show decode cL_law 1209 = .ok (.aload_n 0, 1) from dk_at dq53_16 (i := 4) rfl) rfl rfl, ?_⟩
  refine List.forall_mem_cons.mpr ⟨ok_iload C (show decode cL_law 1210 = .ok (.iload 4, 2) from dk_at dq53_16 (i := 5) rfl) rfl, ?_⟩
  refine List.forall_mem_cons.mpr ⟨ok_iconst C (show decode cL_law 1212 = .ok (.iconst 1, 1) from dk_at dq53_16 (i := 6) rfl) (by decide) rfl, ?_⟩
  refine List.forall_mem_cons.mpr ⟨ok_iadd C (show decode cL_law 1213 = .ok (.iadd, 1) from dk_at dq53_16 (i := 7) rfl) rfl, ?_⟩
  refine List.forall_mem_cons.mpr ⟨ok_sld C hX hb0 hb1 (show decode cL_law 1214 = .ok (.iaload, 1) from dk_at dq53_16 (i := 8) rfl) rfl, ?_⟩
  refine List.forall_mem_cons.mpr ⟨ok_aload_n C (show decode cL_law 1215 = .ok (.aload_n 0, 1) from dk_at dq53_16 (i := 9) rfl) rfl rfl, ?_⟩
  refine List.forall_mem_cons.mpr ⟨ok_iload C (show decode cL_law 1216 = .ok (.iload 4, 2) from dk_at dq53_16 (i := 10) rfl) rfl, ?_⟩
  refine List.forall_mem_cons.mpr ⟨ok_iconst C (show decode cL_law 1218 = .ok (.iconst 2, 1) from dk_at dq53_16 (i := 11) rfl) (by decide) rfl, ?_⟩
  refine List.forall_mem_cons.mpr ⟨ok_iadd C (show decode cL_law 1219 = .ok (.iadd, 1) from dk_at dq53_16 (i := 12) rfl) rfl, ?_⟩
  refine List.forall_mem_cons.mpr ⟨ok_sld C hX hb0 hb1 (show decode cL_law 1220 = .ok (.iaload, 1) from dk_at dq53_16 (i := 13) rfl) rfl, ?_⟩
  refine List.forall_mem_cons.mpr ⟨ok_callV C h_X11_drawn ⟨rfl, rfl⟩ rfl kw_1627 kw_1624 kw_1625 kw_1626 kw_11 rfl ds_X11_drawn ⟨by decide, by decide⟩ (show decode cL_law 1221 = .ok (.invokevirtual 158, 3) from dk_at dq53_16 (i := 14) rfl) rfl, ?_⟩
  refine List.forall_mem_cons.mpr ⟨ok_pop C (show decode cL_law 1224 = .ok (.pop, 1) from dk_at dq53_16 (i := 15) rfl) rfl, ?_⟩
  refine List.forall_mem_cons.mpr ⟨ok_goto C (show decode cL_law 1225 = .ok (.goto 215, 3) from dk_at dq53_16 (i := 16) rfl) (tg := 1440) (by decide) rfl, ?_⟩
  refine List.forall_mem_cons.mpr ⟨ok_aload_n C (show decode cL_law 1228 = .ok (.aload_n 1, 1) from dk_at dq53_16 (i := 17) rfl) rfl rfl, ?_⟩
  refine List.forall_mem_cons.mpr ⟨ok_aload_n C (show decode cL_law 1229 = .ok (.aload_n 0, 1) from dk_at dq53_16 (i := 18) rfl) rfl rfl, ?_⟩
  refine List.forall_mem_cons.mpr ⟨ok_iload C (show decode cL_law 1230 = .ok (.iload 4, 2) from dk_at dq53_16 (i := 19) rfl) rfl, ?_⟩
  refine List.forall_mem_cons.mpr ⟨ok_iconst C (show decode cL_law 1232 = .ok (.iconst 1, 1) from dk_at dq53_16 (i := 20) rfl) (by decide) rfl, ?_⟩
  refine List.forall_mem_cons.mpr ⟨ok_iadd C (show decode cL_law 1233 = .ok (.iadd, 1) from dk_at dq53_16 (i := 21) rfl) rfl, ?_⟩
  refine List.forall_mem_cons.mpr ⟨ok_sld C hX hb0 hb1 (show decode cL_law 1234 = .ok (.iaload, 1) from dk_at dq53_16 (i := 22) rfl) rfl, ?_⟩
  refine List.forall_mem_cons.mpr ⟨ok_aload_n C (show decode cL_law 1235 = .ok (.aload_n 0, 1) from dk_at dq53_16 (i := 23) rfl) rfl rfl, ?_⟩
  refine List.forall_mem_cons.mpr ⟨ok_iload C (show decode cL_law 1236 = .ok (.iload 4, 2) from dk_at dq53_16 (i := 24) rfl) rfl, ?_⟩
  refine List.forall_mem_cons.mpr ⟨ok_iconst C (show decode cL_law 1238 = .ok (.iconst 2, 1) from dk_at dq53_16 (i := 25) rfl) (by decide) rfl, ?_⟩
  refine List.forall_mem_cons.mpr ⟨ok_iadd C (show decode cL_law 1239 = .ok (.iadd, 1) from dk_at dq53_16 (i := 26) rfl) rfl, ?_⟩
  refine List.forall_mem_cons.mpr ⟨ok_sld C hX hb0 hb1 (show decode cL_law 1240 = .ok (.iaload, 1) from dk_at dq53_16 (i := 27) rfl) rfl, ?_⟩
  refine List.forall_mem_cons.mpr ⟨ok_aload_n C (show decode cL_law 1241 = .ok (.aload_n 0, 1) from dk_at dq53_16 (i := 28) rfl) rfl rfl, ?_⟩
  refine List.forall_mem_cons.mpr ⟨ok_iload C (show decode cL_law 1242 = .ok (.iload 4, 2) from dk_at dq53_16 (i := 29) rfl) rfl, ?_⟩
  refine List.forall_mem_cons.mpr ⟨ok_iconst C (show decode cL_law 1244 = .ok (.iconst 3, 1) from dk_at dq53_16 (i := 30) rfl) (by decide) rfl, ?_⟩
  refine List.forall_mem_cons.mpr ⟨ok_iadd C (show decode cL_law 1245 = .ok (.iadd, 1) from dk_at dq53_16 (i := 31) rfl) rfl, ?_⟩
  refine List.forall_mem_cons.mpr ⟨ok_sld C hX hb0 hb1 (show decode cL_law 1246 = .ok (.iaload, 1) from dk_at dq53_16 (i := 32) rfl) rfl, ?_⟩
  refine List.forall_mem_cons.mpr ⟨ok_callV C h_X10_odds ⟨rfl, rfl⟩ rfl kw_905 kw_902 kw_903 kw_904 kw_1 rfl ds_X10_odds ⟨by decide, by decide⟩ (show decode cL_law 1247 = .ok (.invokevirtual 159, 3) from dk_at dq53_16 (i := 33) rfl) rfl, ?_⟩
  refine List.forall_mem_cons.mpr ⟨ok_pop C (show decode cL_law 1250 = .ok (.pop, 1) from dk_at dq53_16 (i := 34) rfl) rfl, ?_⟩
  refine List.forall_mem_cons.mpr ⟨ok_aload_n C (show decode cL_law 1251 = .ok (.aload_n 2, 1) from dk_at dq53_16 (i := 35) rfl) rfl rfl, ?_⟩
  refine List.forall_mem_cons.mpr ⟨ok_aload_n C (show decode cL_law 1252 = .ok (.aload_n 0, 1) from dk_at dq53_16 (i := 36) rfl) rfl rfl, ?_⟩
  refine List.forall_mem_cons.mpr ⟨ok_iload C (show decode cL_law 1253 = .ok (.iload 4, 2) from dk_at dq53_16 (i := 37) rfl) rfl, ?_⟩
  refine List.forall_mem_cons.mpr ⟨ok_iconst C (show decode cL_law 1255 = .ok (.iconst 1, 1) from dk_at dq53_16 (i := 38) rfl) (by decide) rfl, ?_⟩
  refine List.forall_mem_cons.mpr ⟨ok_iadd C (show decode cL_law 1256 = .ok (.iadd, 1) from dk_at dq53_16 (i := 39) rfl) rfl, ?_⟩
  refine List.forall_mem_cons.mpr ⟨ok_sld C hX hb0 hb1 (show decode cL_law 1257 = .ok (.iaload, 1) from dk_at dq53_16 (i := 40) rfl) rfl, ?_⟩
  refine List.forall_mem_cons.mpr ⟨ok_aload_n C (show decode cL_law 1258 = .ok (.aload_n 0, 1) from dk_at dq53_16 (i := 41) rfl) rfl rfl, ?_⟩
  refine List.forall_mem_cons.mpr ⟨ok_iload C (show decode cL_law 1259 = .ok (.iload 4, 2) from dk_at dq53_16 (i := 42) rfl) rfl, ?_⟩
  refine List.forall_mem_cons.mpr ⟨ok_iconst C (show decode cL_law 1261 = .ok (.iconst 2, 1) from dk_at dq53_16 (i := 43) rfl) (by decide) rfl, ?_⟩
  refine List.forall_mem_cons.mpr ⟨ok_iadd C (show decode cL_law 1262 = .ok (.iadd, 1) from dk_at dq53_16 (i := 44) rfl) rfl, ?_⟩
  refine List.forall_mem_cons.mpr ⟨ok_sld C hX hb0 hb1 (show decode cL_law 1263 = .ok (.iaload, 1) from dk_at dq53_16 (i := 45) rfl) rfl, ?_⟩
  refine List.forall_mem_cons.mpr ⟨ok_aload_n C (show decode cL_law 1264 = .ok (.aload_n 0, 1) from dk_at dq53_16 (i := 46) rfl) rfl rfl, ?_⟩
  refine List.forall_mem_cons.mpr ⟨ok_iload C (show decode cL_law 1265 = .ok (.iload 4, 2) from dk_at dq53_16 (i := 47) rfl) rfl, ?_⟩
  refine List.forall_mem_cons.mpr ⟨ok_iconst C (show decode cL_law 1267 = .ok (.iconst 3, 1) from dk_at dq53_17 (i := 0) rfl) (by decide) rfl, ?_⟩
  refine List.forall_mem_cons.mpr ⟨ok_iadd C (show decode cL_law 1268 = .ok (.iadd, 1) from dk_at dq53_17 (i := 1) rfl) rfl, ?_⟩
  refine List.forall_mem_cons.mpr ⟨ok_sld C hX hb0 hb1 (show decode cL_law 1269 = .ok (.iaload, 1) from dk_at dq53_17 (i := 2) rfl) rfl, ?_⟩
  refine List.forall_mem_cons.mpr ⟨ok_callV C h_X11_odds ⟨rfl, rfl⟩ rfl kw_1644 kw_1641 kw_1642 kw_1643 kw_11 rfl ds_X11_odds ⟨by decide, by decide⟩ (show decode cL_law 1270 = .ok (.invokevirtual 162, 3) from dk_at dq53_17 (i := 3) rfl) rfl, ?_⟩
  refine List.forall_mem_cons.mpr ⟨ok_pop C (show decode cL_law 1273 = .ok (.pop, 1) from dk_at dq53_17 (i := 4) rfl) rfl, ?_⟩
  refine List.forall_mem_cons.mpr ⟨ok_goto C (show decode cL_law 1274 = .ok (.goto 166, 3) from dk_at dq53_17 (i := 5) rfl) (tg := 1440) (by decide) rfl, ?_⟩
  refine List.forall_mem_cons.mpr ⟨ok_aload_n C (show decode cL_law 1277 = .ok (.aload_n 1, 1) from dk_at dq53_17 (i := 6) rfl) rfl rfl, ?_⟩
  refine List.forall_mem_cons.mpr ⟨ok_aload_n C (show decode cL_law 1278 = .ok (.aload_n 0, 1) from dk_at dq53_17 (i := 7) rfl) rfl rfl, ?_⟩
  refine List.forall_mem_cons.mpr ⟨ok_iload C (show decode cL_law 1279 = .ok (.iload 4, 2) from dk_at dq53_17 (i := 8) rfl) rfl, ?_⟩
  refine List.forall_mem_cons.mpr ⟨ok_iconst C (show decode cL_law 1281 = .ok (.iconst 1, 1) from dk_at dq53_17 (i := 9) rfl) (by decide) rfl, ?_⟩
  refine List.forall_mem_cons.mpr ⟨ok_iadd C (show decode cL_law 1282 = .ok (.iadd, 1) from dk_at dq53_17 (i := 10) rfl) rfl, ?_⟩
  refine List.forall_mem_cons.mpr ⟨ok_sld C hX hb0 hb1 (show decode cL_law 1283 = .ok (.iaload, 1) from dk_at dq53_17 (i := 11) rfl) rfl, ?_⟩
  refine List.forall_mem_cons.mpr ⟨ok_callV C h_X10_log ⟨rfl, rfl⟩ rfl kw_909 kw_906 kw_907 kw_908 kw_1 rfl ds_X10_log ⟨by decide, by decide⟩ (show decode cL_law 1284 = .ok (.invokevirtual 163, 3) from dk_at dq53_17 (i := 12) rfl) rfl, ?_⟩
  refine List.forall_mem_cons.mpr ⟨ok_pop C (show decode cL_law 1287 = .ok (.pop, 1) from dk_at dq53_17 (i := 13) rfl) rfl, ?_⟩
  refine List.forall_mem_cons.mpr ⟨ok_aload_n C (show decode cL_law 1288 = .ok (.aload_n 2, 1) from dk_at dq53_17 (i := 14) rfl) rfl rfl, ?_⟩
  refine List.forall_mem_cons.mpr ⟨ok_aload_n C (show decode cL_law 1289 = .ok (.aload_n 0, 1) from dk_at dq53_17 (i := 15) rfl) rfl rfl, ?_⟩
  refine List.forall_mem_cons.mpr ⟨ok_iload C (show decode cL_law 1290 = .ok (.iload 4, 2) from dk_at dq53_17 (i := 16) rfl) rfl, ?_⟩
  refine List.forall_mem_cons.mpr ⟨ok_iconst C (show decode cL_law 1292 = .ok (.iconst 1, 1) from dk_at dq53_17 (i := 17) rfl) (by decide) rfl, ?_⟩
  refine List.forall_mem_cons.mpr ⟨ok_iadd C (show decode cL_law 1293 = .ok (.iadd, 1) from dk_at dq53_17 (i := 18) rfl) rfl, ?_⟩
  refine List.forall_mem_cons.mpr ⟨ok_sld C hX hb0 hb1 (show decode cL_law 1294 = .ok (.iaload, 1) from dk_at dq53_17 (i := 19) rfl) rfl, ?_⟩
  refine List.forall_mem_cons.mpr ⟨ok_callV C h_X11_log ⟨rfl, rfl⟩ rfl kw_1648 kw_1645 kw_1646 kw_1647 kw_11 rfl ds_X11_log ⟨by decide, by decide⟩ (show decode cL_law 1295 = .ok (.invokevirtual 166, 3) from dk_at dq53_17 (i := 20) rfl) rfl, ?_⟩
  refine List.forall_mem_cons.mpr ⟨ok_pop C (show decode cL_law 1298 = .ok (.pop, 1) from dk_at dq53_17 (i := 21) rfl) rfl, ?_⟩
  refine List.forall_mem_cons.mpr ⟨ok_goto C (show decode cL_law 1299 = .ok (.goto 141, 3) from dk_at dq53_17 (i := 22) rfl) (tg := 1440) (by decide) rfl, ?_⟩
  refine List.forall_mem_cons.mpr ⟨ok_aload_n C (show decode cL_law 1302 = .ok (.aload_n 1, 1) from dk_at dq53_17 (i := 23) rfl) rfl rfl, ?_⟩
  refine List.forall_mem_cons.mpr ⟨ok_aload_n C (show decode cL_law 1303 = .ok (.aload_n 0, 1) from dk_at dq53_17 (i := 24) rfl) rfl rfl, ?_⟩
  refine List.forall_mem_cons.mpr ⟨ok_iload C (show decode cL_law 1304 = .ok (.iload 4, 2) from dk_at dq53_17 (i := 25) rfl) rfl, ?_⟩
  refine List.forall_mem_cons.mpr ⟨ok_iconst C (show decode cL_law 1306 = .ok (.iconst 1, 1) from dk_at dq53_17 (i := 26) rfl) (by decide) rfl, ?_⟩
  refine List.forall_mem_cons.mpr ⟨ok_iadd C (show decode cL_law 1307 = .ok (.iadd, 1) from dk_at dq53_17 (i := 27) rfl) rfl, ?_⟩
  refine List.forall_mem_cons.mpr ⟨ok_sld C hX hb0 hb1 (show decode cL_law 1308 = .ok (.iaload, 1) from dk_at dq53_17 (i := 28) rfl) rfl, ?_⟩
  refine List.forall_mem_cons.mpr ⟨ok_callV C h_X10_logged ⟨rfl, rfl⟩ rfl kw_952 kw_949 kw_950 kw_951 kw_1 rfl ds_X10_logged ⟨by decide, by decide⟩ (show decode cL_law 1309 = .ok (.invokevirtual 167, 3) from dk_at dq53_17 (i := 29) rfl) rfl, ?_⟩
  refine List.forall_mem_cons.mpr ⟨ok_pop C (show decode cL_law 1312 = .ok (.pop, 1) from dk_at dq53_17 (i := 30) rfl) rfl, ?_⟩
  refine List.forall_mem_cons.mpr ⟨ok_aload_n C (show decode cL_law 1313 = .ok (.aload_n 2, 1) from dk_at dq53_17 (i := 31) rfl) rfl rfl, ?_⟩
  refine List.forall_mem_cons.mpr ⟨ok_aload_n C (show decode cL_law 1314 = .ok (.aload_n 0, 1) from dk_at dq53_17 (i := 32) rfl) rfl rfl, ?_⟩
  refine List.forall_mem_cons.mpr ⟨ok_iload C (show decode cL_law 1315 = .ok (.iload 4, 2) from dk_at dq53_17 (i := 33) rfl) rfl, ?_⟩
  refine List.forall_mem_cons.mpr ⟨ok_iconst C (show decode cL_law 1317 = .ok (.iconst 1, 1) from dk_at dq53_17 (i := 34) rfl) (by decide) rfl, ?_⟩
  refine List.forall_mem_cons.mpr ⟨ok_iadd C (show decode cL_law 1318 = .ok (.iadd, 1) from dk_at dq53_17 (i := 35) rfl) rfl, ?_⟩
  refine List.forall_mem_cons.mpr ⟨ok_sld C hX hb0 hb1 (show decode cL_law 1319 = .ok (.iaload, 1) from dk_at dq53_17 (i := 36) rfl) rfl, ?_⟩
  refine List.forall_mem_cons.mpr ⟨ok_callV C h_X11_logged ⟨rfl, rfl⟩ rfl kw_1660 kw_1657 kw_1658 kw_1659 kw_11 rfl ds_X11_logged ⟨by decide, by decide⟩ (show decode cL_law 1320 = .ok (.invokevirtual 170, 3) from dk_at dq53_17 (i := 37) rfl) rfl, ?_⟩
  refine List.forall_mem_cons.mpr ⟨ok_pop C (show decode cL_law 1323 = .ok (.pop, 1) from dk_at dq53_17 (i := 38) rfl) rfl, ?_⟩
  refine List.forall_mem_cons.mpr ⟨ok_goto C (show decode cL_law 1324 = .ok (.goto 116, 3) from dk_at dq53_17 (i := 39) rfl) (tg := 1440) (by decide) rfl, ?_⟩
  refine List.forall_mem_cons.mpr ⟨ok_aload_n C (show decode cL_law 1327 = .ok (.aload_n 1, 1) from dk_at dq53_17 (i := 40) rfl) rfl rfl, ?_⟩
  refine List.forall_mem_cons.mpr ⟨ok_callV C h_X10_sentence ⟨rfl, rfl⟩ rfl kw_956 kw_953 kw_954 kw_955 kw_1 rfl ds_X10_sentence ⟨by decide, by decide⟩ (show decode cL_law 1328 = .ok (.invokevirtual 171, 3) from dk_at dq53_17 (i := 41) rfl) rfl, ?_⟩
  exact fun _ h => absurd h List.not_mem_nil
def L_law_9 (xs : Nat → Int32) (n : Nat) (f_X11_sentence : List Value → ab_H → Option ab_O) (f_X10_said : List Value → ab_H → Option ab_O) (f_X11_said : List Value → ab_H → Option ab_O) (f_X10_image : List Value → ab_H → Option ab_O) (f_X11_image : List Value → ab_H → Option ab_O) (f_X10_restore : List Value → ab_H → Option ab_O) (f_X11_restore : List Value → ab_H → Option ab_O) (f_X10_count : List Value → ab_H → Option ab_O) (f_X11_count : List Value → ab_H → Option ab_O) : List (Nat × ab_A) := [
  (1331, ab_nx 1332 (ab_aload 2)),
  (1332, ab_nx 1335 (ab_callV 1 11 f_X11_sentence 0 0 601024 7293034)),
  (1335, ab_icmp 1338 1440 (fun x y => decide (x = y))),
  (1338, ab_nx 1339 (ab_lit (.int 0))),
  (1339, ab_lret),
  (1340, ab_nx 1341 (ab_aload 1)),
  (1341, ab_nx 1342 (ab_aload 0)),
  (1342, ab_nx 1344 (ab_iload 4)),
  (1344, ab_nx 1345 (ab_lit (.int 1))),
  (1345, ab_nx 1346 (ab_bin (fun x y => x + y))),
  (1346, ab_nx 1347 (ab_sld xs n)),
  (1347, ab_nx 1350 (ab_callV 2 10 f_X10_said 0 0 601024 7293034)),
  (1350, ab_nx 1351 ab_pop),
  (1351, ab_nx 1352 (ab_aload 2)),
  (1352, ab_nx 1353 (ab_aload 0)),
  (1353, ab_nx 1355 (ab_iload 4)),
  (1355, ab_nx 1356 (ab_lit (.int 1))),
  (1356, ab_nx 1357 (ab_bin (fun x y => x + y))),
  (1357, ab_nx 1358 (ab_sld xs n)),
  (1358, ab_nx 1361 (ab_callV 2 11 f_X11_said 0 0 601024 7293034)),
  (1361, ab_nx 1362 ab_pop),
  (1362, ab_goto 1440),
  (1365, ab_nx 1366 (ab_aload 1)),
  (1366, ab_nx 1367 (ab_aload 0)),
  (1367, ab_nx 1369 (ab_iload 4)),
  (1369, ab_nx 1370 (ab_lit (.int 1))),
  (1370, ab_nx 1371 (ab_bin (fun x y => x + y))),
  (1371, ab_nx 1372 (ab_sld xs n)),
  (1372, ab_nx 1375 (ab_callV 2 10 f_X10_image 21 410 601024 7293034)),
  (1375, ab_nx 1376 ab_pop),
  (1376, ab_nx 1377 (ab_aload 2)),
  (1377, ab_nx 1378 (ab_aload 0)),
  (1378, ab_nx 1380 (ab_iload 4)),
  (1380, ab_nx 1381 (ab_lit (.int 1))),
  (1381, ab_nx 1382 (ab_bin (fun x y => x + y))),
  (1382, ab_nx 1383 (ab_sld xs n)),
  (1383, ab_nx 1386 (ab_callV 2 11 f_X11_image 0 0 601024 7293034)),
  (1386, ab_nx 1387 ab_pop),
  (1387, ab_goto 1440),
  (1390, ab_nx 1391 (ab_aload 1)),
  (1391, ab_nx 1392 (ab_aload 0)),
  (1392, ab_nx 1394 (ab_iload 4)),
  (1394, ab_nx 1395 (ab_lit (.int 1))),
  (1395, ab_nx 1396 (ab_bin (fun x y => x + y))),
  (1396, ab_nx 1397 (ab_sld xs n)),
  (1397, ab_nx 1400 (ab_callV 2 10 f_X10_restore 0 0 601024 7293034)),
  (1400, ab_nx 1401 ab_pop),
  (1401, ab_nx 1402 (ab_aload 2)),
  (1402, ab_nx 1403 (ab_aload 0)),
  (1403, ab_nx 1405 (ab_iload 4)),
  (1405, ab_nx 1406 (ab_lit (.int 1))),
  (1406, ab_nx 1407 (ab_bin (fun x y => x + y))),
  (1407, ab_nx 1408 (ab_sld xs n)),
  (1408, ab_nx 1411 (ab_callV 2 11 f_X11_restore 0 0 601024 7293034)),
  (1411, ab_nx 1412 ab_pop),
  (1412, ab_goto 1440),
  (1415, ab_nx 1416 (ab_aload 1)),
  (1416, ab_nx 1417 (ab_aload 0)),
  (1417, ab_nx 1419 (ab_iload 4)),
  (1419, ab_nx 1420 (ab_lit (.int 1))),
  (1420, ab_nx 1421 (ab_bin (fun x y => x + y))),
  (1421, ab_nx 1422 (ab_sld xs n)),
  (1422, ab_nx 1425 (ab_callV 2 10 f_X10_count 0 0 601024 7293034)),
  (1425, ab_nx 1426 ab_pop),
  (1426, ab_nx 1427 (ab_aload 2)),
  (1427, ab_nx 1428 (ab_aload 0)),
  (1428, ab_nx 1430 (ab_iload 4)),
  (1430, ab_nx 1431 (ab_lit (.int 1))),
  (1431, ab_nx 1432 (ab_bin (fun x y => x + y))),
  (1432, ab_nx 1433 (ab_sld xs n)),
  (1433, ab_nx 1436 (ab_callV 2 11 f_X11_count 0 0 601024 7293034)),
  (1436, ab_nx 1437 ab_pop),
  (1437, ab_goto 1440),
  (1440, ab_nx 1443 (ab_iinc 4 6)),
  (1443, ab_goto 23),
  (1446, ab_nx 1447 (ab_lit (.int 1))),
  (1447, ab_lret)]
set_option maxRecDepth 100000 in
theorem dq53_18 : ([(1331, .aload_n 2, 1), (1332, .invokevirtual 174, 3), (1335, .if_icmp .eq 105, 3), (1338, .iconst 0, 1), (1339, .ireturn, 1), (1340, .aload_n 1, 1), (1341, .aload_n 0, 1), (1342, .iload 4, 2), (1344, .iconst 1, 1), (1345, .iadd, 1), (1346, .iaload, 1), (1347, .invokevirtual 175, 3), (1350, .pop, 1), (1351, .aload_n 2, 1), (1352, .aload_n 0, 1), (1353, .iload 4, 2), (1355, .iconst 1, 1), (1356, .iadd, 1), (1357, .iaload, 1), (1358, .invokevirtual 178, 3), (1361, .pop, 1), (1362, .goto 78, 3), (1365, .aload_n 1, 1), (1366, .aload_n 0, 1), (1367, .iload 4, 2), (1369, .iconst 1, 1), (1370, .iadd, 1), (1371, .iaload, 1), (1372, .invokevirtual 179, 3), (1375, .pop, 1), (1376, .aload_n 2, 1), (1377, .aload_n 0, 1), (1378, .iload 4, 2), (1380, .iconst 1, 1), (1381, .iadd, 1), (1382, .iaload, 1), (1383, .invokevirtual 182, 3), (1386, .pop, 1), (1387, .goto 53, 3), (1390, .aload_n 1, 1), (1391, .aload_n 0, 1), (1392, .iload 4, 2), (1394, .iconst 1, 1), (1395, .iadd, 1), (1396, .iaload, 1), (1397, .invokevirtual 183, 3), (1400, .pop, 1), (1401, .aload_n 2, 1)] : List (Nat × Instr × Nat)).all (fun q => decide (decode cL_law q.1 = .ok q.2)) = true := by decide +kernel
set_option maxRecDepth 100000 in
theorem dq53_19 : ([(1402, .aload_n 0, 1), (1403, .iload 4, 2), (1405, .iconst 1, 1), (1406, .iadd, 1), (1407, .iaload, 1), (1408, .invokevirtual 186, 3), (1411, .pop, 1), (1412, .goto 28, 3), (1415, .aload_n 1, 1), (1416, .aload_n 0, 1), (1417, .iload 4, 2), (1419, .iconst 1, 1), (1420, .iadd, 1), (1421, .iaload, 1), (1422, .invokevirtual 187, 3), (1425, .pop, 1), (1426, .aload_n 2, 1), (1427, .aload_n 0, 1), (1428, .iload 4, 2), (1430, .iconst 1, 1), (1431, .iadd, 1), (1432, .iaload, 1), (1433, .invokevirtual 190, 3), (1436, .pop, 1), (1437, .goto 3, 3), (1440, .iinc 4 6, 3), (1443, .goto (-1420), 3), (1446, .iconst 1, 1), (1447, .ireturn, 1)] : List (Nat × Instr × Nat)).all (fun q => decide (decode cL_law q.1 = .ok q.2)) = true := by decide +kernel
set_option maxRecDepth 100000 in
set_option maxHeartbeats 4000000 in
theorem law_9 {p : Program} {l : Launch} {e : Env} {s : State} {m : MethodId} {below : List Frame} {meth : Method} {c : Code} {cd : Cond} {b : ab_B} {D : va_G} {cA : Nat → ClassId} {o : ab_O} {xs : Nat → Int32} {n bb : Nat} {nm : String} (C : ab_cx p l e room_1 s m #[Value.ref bb] below meth c D ab_cl cA (ab_E0 b) (⟨RL, nm, "([I)Z"⟩ : MethodName) cL_law 7 ret (cd :: ab_G) room_1) (hX : va_X bb n xs s s.heap) (hb0 : b.2 0 = bb) (hb1 : b.1 = s.heap.size ∧ bb < s.heap.size) {f_X11_sentence : List Value → ab_H → Option ab_O} (h_X11_sentence : ab_M l b D ab_cl cA (ab_E0 b) yX11_sentence (Cond.code yX11_sentence cX11_sentence 3 (some .int) :: ab_G) ({ frames := 5, cells := 0, slots := 0, locals := 500 } : Room) f_X11_sentence) {f_X10_said : List Value → ab_H → Option ab_O} (h_X10_said : ab_M l b D ab_cl cA (ab_E0 b) yX10_said (Cond.code yX10_said cX10_said 4 (some .int) :: ab_G) ({ frames := 6, cells := 0, slots := 0, locals := 600 } : Room) f_X10_said) {f_X11_said : List Value → ab_H → Option ab_O} (h_X11_said : ab_M l b D ab_cl cA (ab_E0 b) yX11_said (Cond.code yX11_said cX11_said 4 (some .int) :: ab_G) ({ frames := 6, cells := 0, slots := 0, locals := 600 } : Room) f_X11_said) {f_X10_image : List Value → ab_H → Option ab_O} (h_X10_image : ab_M l b D ab_cl cA (ab_E0 b) yX10_image (Cond.code yX10_image cX10_image 3 (some .boolean) :: ab_G) ({ frames := 4, cells := 21, slots := 410, locals := 400 } : Room) f_X10_image) {f_X11_image : List Value → ab_H → Option ab_O} (h_X11_image : ab_M l b D ab_cl cA (ab_E0 b) yX11_image (Cond.code yX11_image cX11_image 3 (some .boolean) :: ab_G) ({ frames := 2, cells := 0, slots := 0, locals := 200 } : Room) f_X11_image) {f_X10_restore : List Value → ab_H → Option ab_O} (h_X10_restore : ab_M l b D ab_cl cA (ab_E0 b) yX10_restore (Cond.code yX10_restore cX10_restore 3 (some .boolean) :: ab_G) ({ frames := 3, cells := 0, slots := 0, locals := 300 } : Room) f_X10_restore) {f_X11_restore : List Value → ab_H → Option ab_O} (h_X11_restore : ab_M l b D ab_cl cA (ab_E0 b) yX11_restore (Cond.code yX11_restore cX11_restore 3 (some .boolean) :: ab_G) ({ frames := 2, cells := 0, slots := 0, locals := 200 } : Room) f_X11_restore) {f_X10_count : List Value → ab_H → Option ab_O} (h_X10_count : ab_M l b D ab_cl cA (ab_E0 b) yX10_count (Cond.code yX10_count cX10_count 2 (some .int) :: ab_G) ({ frames := 1, cells := 0, slots := 0, locals := 100 } : Room) f_X10_count) {f_X11_count : List Value → ab_H → Option ab_O} (h_X11_count : ab_M l b D ab_cl cA (ab_E0 b) yX11_count (Cond.code yX11_count cX11_count 2 (some .int) :: ab_G) ({ frames := 2, cells := 0, slots := 0, locals := 200 } : Room) f_X11_count) : ∀ q ∈ L_law_9 xs n f_X11_sentence f_X10_said f_X11_said f_X10_image f_X11_image f_X10_restore f_X11_restore f_X10_count f_X11_count, ab_ok p l e room_1 s m #[Value.ref bb] below meth c (lw_Z below #[Value.ref bb] s) b D ab_cl cA 7 o (fun i => i) q.1 q.2 := by
  unfold L_law_9
  refine List.forall_mem_cons.mpr ⟨ok_aload_n C (show decode cL_law 1331 = .ok (.aload_n 2, 1) from dk_at dq53_18 (i := 0) rfl) rfl rfl, ?_⟩
  refine List.forall_mem_cons.mpr ⟨ok_callV C h_X11_sentence ⟨rfl, rfl⟩ rfl kw_1664 kw_1661 kw_1662 kw_1663 kw_11 rfl ds_X11_sentence ⟨by decide, by decide⟩ (show decode cL_law 1332 = .ok (.invokevirtual 174, 3) from dk_at dq53_18 (i := 1) rfl) rfl, ?_⟩
  refine List.forall_mem_cons.mpr ⟨ok_icmpeq C (show decode cL_law 1335 = .ok (.if_icmp .eq 105, 3) from dk_at dq53_18 (i := 2) rfl) (tg := 1440) (by decide) rfl rfl, ?_⟩
  refine List.forall_mem_cons.mpr ⟨ok_iconst C (show decode cL_law 1338 = .ok (.iconst 0, 1) from dk_at dq53_18 (i := 3) rfl) (by decide) rfl, ?_⟩
  refine List.forall_mem_cons.mpr ⟨ok_lret C hb1 (show decode cL_law 1339 = .ok (.ireturn, 1) from dk_at dq53_18 (i := 4) rfl), ?_⟩
  refine List.forall_mem_cons.mpr ⟨ok_aload_n C (show decode cL_law 1340 = .ok (.aload_n 1, 1) from dk_at dq53_18 (i := 5) rfl) rfl rfl, ?_⟩
  refine List.forall_mem_cons.mpr ⟨ok_aload_n C (show decode cL_law 1341 = .ok (.aload_n 0, 1) from dk_at dq53_18 (i := 6) rfl) rfl rfl, ?_⟩
  refine List.forall_mem_cons.mpr ⟨ok_iload C (show decode cL_law 1342 = .ok (.iload 4, 2) from dk_at dq53_18 (i := 7) rfl) rfl, ?_⟩
  refine List.forall_mem_cons.mpr ⟨ok_iconst C (show decode cL_law 1344 = .ok (.iconst 1, 1) from dk_at dq53_18 (i := 8) rfl) (by decide) rfl, ?_⟩
  refine List.forall_mem_cons.mpr ⟨ok_iadd C (show decode cL_law 1345 = .ok (.iadd, 1) from dk_at dq53_18 (i := 9) rfl) rfl, ?_⟩
  refine List.forall_mem_cons.mpr ⟨ok_sld C hX hb0 hb1 (show decode cL_law 1346 = .ok (.iaload, 1) from dk_at dq53_18 (i := 10) rfl) rfl, ?_⟩
  refine List.forall_mem_cons.mpr ⟨ok_callV C h_X10_said ⟨rfl, rfl⟩ rfl kw_995 kw_992 kw_993 kw_994 kw_1 rfl ds_X10_said ⟨by decide, by decide⟩ (show decode cL_law 1347 = .ok (.invokevirtual 175, 3) from dk_at dq53_18 (i := 11) rfl) rfl, ?_⟩
  refine List.forall_mem_cons.mpr ⟨ok_pop C (show decode cL_law 1350 = .ok (.pop, 1) from dk_at dq53_18 (i := 12) rfl) rfl, ?_⟩
  refine List.forall_mem_cons.mpr ⟨ok_aload_n C (show decode cL_law 1351 = .ok (.aload_n 2, 1) from dk_at dq53_18 (i := 13) rfl) rfl rfl, ?_⟩
  refine List.forall_mem_cons.mpr ⟨ok_aload_n C (show decode cL_law 1352 = .ok (.aload_n 0, 1) from dk_at dq53_18 (i := 14) rfl) rfl rfl, ?_⟩
  refine List.forall_mem_cons.mpr ⟨ok_iload C (show decode cL_law 1353 = .ok (.iload 4, 2) from dk_at dq53_18 (i := 15) rfl) rfl, ?_⟩
  refine List.forall_mem_cons.mpr ⟨ok_iconst C (show decode cL_law 1355 = .ok (.iconst 1, 1) from dk_at dq53_18 (i := 16) rfl) (by decide) rfl, ?_⟩
  refine List.forall_mem_cons.mpr ⟨ok_iadd C (show decode cL_law 1356 = .ok (.iadd, 1) from dk_at dq53_18 (i := 17) rfl) rfl, ?_⟩
  refine List.forall_mem_cons.mpr ⟨ok_sld C hX hb0 hb1 (show decode cL_law 1357 = .ok (.iaload, 1) from dk_at dq53_18 (i := 18) rfl) rfl, ?_⟩
  refine List.forall_mem_cons.mpr ⟨ok_callV C h_X11_said ⟨rfl, rfl⟩ rfl kw_1692 kw_1689 kw_1690 kw_1691 kw_11 rfl ds_X11_said ⟨by decide, by decide⟩ (show decode cL_law 1358 = .ok (.invokevirtual 178, 3) from dk_at dq53_18 (i := 19) rfl) rfl, ?_⟩
  refine List.forall_mem_cons.mpr ⟨ok_pop C (show decode cL_law 1361 = .ok (.pop, 1) from dk_at dq53_18 (i := 20) rfl) rfl, ?_⟩
  refine List.forall_mem_cons.mpr ⟨ok_goto C (show decode cL_law 1362 = .ok (.goto 78, 3) from dk_at dq53_18 (i := 21) rfl) (tg := 1440) (by decide) rfl, ?_⟩
  refine List.forall_mem_cons.mpr ⟨ok_aload_n C (show decode cL_law 1365 = .ok (.aload_n 1, 1) from dk_at dq53_18 (i := 22) rfl) rfl rfl, ?_⟩
  refine List.forall_mem_cons.mpr ⟨ok_aload_n C (show decode cL_law 1366 = .ok (.aload_n 0, 1) from dk_at dq53_18 (i := 23) rfl) rfl rfl, ?_⟩
  refine List.forall_mem_cons.mpr ⟨ok_iload C (show decode cL_law 1367 = .ok (.iload 4, 2) from dk_at dq53_18 (i := 24) rfl) rfl, ?_⟩
  refine List.forall_mem_cons.mpr ⟨ok_iconst C (show decode cL_law 1369 = .ok (.iconst 1, 1) from dk_at dq53_18 (i := 25) rfl) (by decide) rfl, ?_⟩
  refine List.forall_mem_cons.mpr ⟨ok_iadd C (show decode cL_law 1370 = .ok (.iadd, 1) from dk_at dq53_18 (i := 26) rfl) rfl, ?_⟩
  refine List.forall_mem_cons.mpr ⟨ok_sld C hX hb0 hb1 (show decode cL_law 1371 = .ok (.iaload, 1) from dk_at dq53_18 (i := 27) rfl) rfl, ?_⟩
  refine List.forall_mem_cons.mpr ⟨ok_callV C h_X10_image ⟨rfl, rfl⟩ rfl kw_1020 kw_1017 kw_1018 kw_1019 kw_1 rfl ds_X10_image ⟨by decide, by decide⟩ (show decode cL_law 1372 = .ok (.invokevirtual 179, 3) from dk_at dq53_18 (i := 28) rfl) rfl, ?_⟩
  refine List.forall_mem_cons.mpr ⟨ok_pop C (show decode cL_law 1375 = .ok (.pop, 1) from dk_at dq53_18 (i := 29) rfl) rfl, ?_⟩
  refine List.forall_mem_cons.mpr ⟨ok_aload_n C (show decode cL_law 1376 = .ok (.aload_n 2, 1) from dk_at dq53_18 (i := 30) rfl) rfl rfl, ?_⟩
  refine List.forall_mem_cons.mpr ⟨ok_aload_n C (show decode cL_law 1377 = .ok (.aload_n 0, 1) from dk_at dq53_18 (i := 31) rfl) rfl rfl, ?_⟩
  refine List.forall_mem_cons.mpr ⟨ok_iload C (show decode cL_law 1378 = .ok (.iload 4, 2) from dk_at dq53_18 (i := 32) rfl) rfl, ?_⟩
  refine List.forall_mem_cons.mpr ⟨ok_iconst C (show decode cL_law 1380 = .ok (.iconst 1, 1) from dk_at dq53_18 (i := 33) rfl) (by decide) rfl, ?_⟩
  refine List.forall_mem_cons.mpr ⟨ok_iadd C (show decode cL_law 1381 = .ok (.iadd, 1) from dk_at dq53_18 (i := 34) rfl) rfl, ?_⟩
  refine List.forall_mem_cons.mpr ⟨ok_sld C hX hb0 hb1 (show decode cL_law 1382 = .ok (.iaload, 1) from dk_at dq53_18 (i := 35) rfl) rfl, ?_⟩
  refine List.forall_mem_cons.mpr ⟨ok_callV C h_X11_image ⟨rfl, rfl⟩ rfl kw_1704 kw_1701 kw_1702 kw_1703 kw_11 rfl ds_X11_image ⟨by decide, by decide⟩ (show decode cL_law 1383 = .ok (.invokevirtual 182, 3) from dk_at dq53_18 (i := 36) rfl) rfl, ?_⟩
  refine List.forall_mem_cons.mpr ⟨ok_pop C (show decode cL_law 1386 = .ok (.pop, 1) from dk_at dq53_18 (i := 37) rfl) rfl, ?_⟩
  refine List.forall_mem_cons.mpr ⟨ok_goto C (show decode cL_law 1387 = .ok (.goto 53, 3) from dk_at dq53_18 (i := 38) rfl) (tg := 1440) (by decide) rfl, ?_⟩
  refine List.forall_mem_cons.mpr ⟨ok_aload_n C (show decode cL_law 1390 = .ok (.aload_n 1, 1) from dk_at dq53_18 (i := 39) rfl) rfl rfl, ?_⟩
  refine List.forall_mem_cons.mpr ⟨ok_aload_n C (show decode cL_law 1391 = .ok (.aload_n 0, 1) from dk_at dq53_18 (i := 40) rfl) rfl rfl, ?_⟩
  refine List.forall_mem_cons.mpr ⟨ok_iload C (show decode cL_law 1392 = .ok (.iload 4, 2) from dk_at dq53_18 (i := 41) rfl) rfl, ?_⟩
  refine List.forall_mem_cons.mpr ⟨ok_iconst C (show decode cL_law 1394 = .ok (.iconst 1, 1) from dk_at dq53_18 (i := 42) rfl) (by decide) rfl, ?_⟩
  refine List.forall_mem_cons.mpr ⟨ok_iadd C (show decode cL_law 1395 = .ok (.iadd, 1) from dk_at dq53_18 (i := 43) rfl) rfl, ?_⟩
  refine List.forall_mem_cons.mpr ⟨ok_sld C hX hb0 hb1 (show decode cL_law 1396 = .ok (.iaload, 1) from dk_at dq53_18 (i := 44) rfl) rfl, ?_⟩
  refine List.forall_mem_cons.mpr ⟨ok_callV C h_X10_restore ⟨rfl, rfl⟩ rfl kw_1058 kw_1055 kw_1056 kw_1057 kw_1 rfl ds_X10_restore ⟨by decide, by decide⟩ (show decode cL_law 1397 = .ok (.invokevirtual 183, 3) from dk_at dq53_18 (i := 45) rfl) rfl, ?_⟩
  refine List.forall_mem_cons.mpr ⟨ok_pop C (show decode cL_law 1400 = .ok (.pop, 1) from dk_at dq53_18 (i := 46) rfl) rfl, ?_⟩
  refine List.forall_mem_cons.mpr ⟨ok_aload_n C (show decode cL_law 1401 = .ok (.aload_n 2, 1) from dk_at dq53_18 (i := 47) rfl) rfl rfl, ?_⟩
  refine List.forall_mem_cons.mpr ⟨ok_aload_n C (show decode cL_law 1402 = .ok (.aload_n 0, 1) from dk_at dq53_19 (i := 0) rfl) rfl rfl, ?_⟩
  refine List.forall_mem_cons.mpr ⟨ok_iload C (show decode cL_law 1403 = .ok (.iload 4, 2) from dk_at dq53_19 (i := 1) rfl) rfl, ?_⟩
  refine List.forall_mem_cons.mpr ⟨ok_iconst C (show decode cL_law 1405 = .ok (.iconst 1, 1) from dk_at dq53_19 (i := 2) rfl) (by decide) rfl, ?_⟩
  refine List.forall_mem_cons.mpr ⟨ok_iadd C (show decode cL_law 1406 = .ok (.iadd, 1) from dk_at dq53_19 (i := 3) rfl) rfl, ?_⟩
  refine List.forall_mem_cons.mpr ⟨ok_sld C hX hb0 hb1 (show decode cL_law 1407 = .ok (.iaload, 1) from dk_at dq53_19 (i := 4) rfl) rfl, ?_⟩
  refine List.forall_mem_cons.mpr ⟨ok_callV C h_X11_restore ⟨rfl, rfl⟩ rfl kw_1708 kw_1705 kw_1706 kw_1707 kw_11 rfl ds_X11_restore ⟨by decide, by decide⟩ (show decode cL_law 1408 = .ok (.invokevirtual 186, 3) from dk_at dq53_19 (i := 5) rfl) rfl, ?_⟩
  refine List.forall_mem_cons.mpr ⟨ok_pop C (show decode cL_law 1411 = .ok (.pop, 1) from dk_at dq53_19 (i := 6) rfl) rfl, ?_⟩
  refine List.forall_mem_cons.mpr ⟨ok_goto C (show decode cL_law 1412 = .ok (.goto 28, 3) from dk_at dq53_19 (i := 7) rfl) (tg := 1440) (by decide) rfl, ?_⟩
  refine List.forall_mem_cons.mpr ⟨ok_aload_n C (show decode cL_law 1415 = .ok (.aload_n 1, 1) from dk_at dq53_19 (i := 8) rfl) rfl rfl, ?_⟩
  refine List.forall_mem_cons.mpr ⟨ok_aload_n C (show decode cL_law 1416 = .ok (.aload_n 0, 1) from dk_at dq53_19 (i := 9) rfl) rfl rfl, ?_⟩
  refine List.forall_mem_cons.mpr ⟨ok_iload C (show decode cL_law 1417 = .ok (.iload 4, 2) from dk_at dq53_19 (i := 10) rfl) rfl, ?_⟩
  refine List.forall_mem_cons.mpr ⟨ok_iconst C (show decode cL_law 1419 = .ok (.iconst 1, 1) from dk_at dq53_19 (i := 11) rfl) (by decide) rfl, ?_⟩
  refine List.forall_mem_cons.mpr ⟨ok_iadd C (show decode cL_law 1420 = .ok (.iadd, 1) from dk_at dq53_19 (i := 12) rfl) rfl, ?_⟩
  refine List.forall_mem_cons.mpr ⟨ok_sld C hX hb0 hb1 (show decode cL_law 1421 = .ok (.iaload, 1) from dk_at dq53_19 (i := 13) rfl) rfl, ?_⟩
  refine List.forall_mem_cons.mpr ⟨ok_callV C h_X10_count ⟨rfl, rfl⟩ rfl kw_696 kw_693 kw_694 kw_695 kw_1 rfl ds_X10_count ⟨by decide, by decide⟩ (show decode cL_law 1422 = .ok (.invokevirtual 187, 3) from dk_at dq53_19 (i := 14) rfl) rfl, ?_⟩
  refine List.forall_mem_cons.mpr ⟨ok_pop C (show decode cL_law 1425 = .ok (.pop, 1) from dk_at dq53_19 (i := 15) rfl) rfl, ?_⟩
  refine List.forall_mem_cons.mpr ⟨ok_aload_n C (show decode cL_law 1426 = .ok (.aload_n 2, 1) from dk_at dq53_19 (i := 16) rfl) rfl rfl, ?_⟩
  refine List.forall_mem_cons.mpr ⟨ok_aload_n C (show decode cL_law 1427 = .ok (.aload_n 0, 1) from dk_at dq53_19 (i := 17) rfl) rfl rfl, ?_⟩
  refine List.forall_mem_cons.mpr ⟨ok_iload C (show decode cL_law 1428 = .ok (.iload 4, 2) from dk_at dq53_19 (i := 18) rfl) rfl, ?_⟩
  refine List.forall_mem_cons.mpr ⟨ok_iconst C (show decode cL_law 1430 = .ok (.iconst 1, 1) from dk_at dq53_19 (i := 19) rfl) (by decide) rfl, ?_⟩
  refine List.forall_mem_cons.mpr ⟨ok_iadd C (show decode cL_law 1431 = .ok (.iadd, 1) from dk_at dq53_19 (i := 20) rfl) rfl, ?_⟩
  refine List.forall_mem_cons.mpr ⟨ok_sld C hX hb0 hb1 (show decode cL_law 1432 = .ok (.iaload, 1) from dk_at dq53_19 (i := 21) rfl) rfl, ?_⟩
  refine List.forall_mem_cons.mpr ⟨ok_callV C h_X11_count ⟨rfl, rfl⟩ rfl kw_1712 kw_1709 kw_1710 kw_1711 kw_11 rfl ds_X11_count ⟨by decide, by decide⟩ (show decode cL_law 1433 = .ok (.invokevirtual 190, 3) from dk_at dq53_19 (i := 22) rfl) rfl, ?_⟩
  refine List.forall_mem_cons.mpr ⟨ok_pop C (show decode cL_law 1436 = .ok (.pop, 1) from dk_at dq53_19 (i := 23) rfl) rfl, ?_⟩
  refine List.forall_mem_cons.mpr ⟨ok_goto C (show decode cL_law 1437 = .ok (.goto 3, 3) from dk_at dq53_19 (i := 24) rfl) (tg := 1440) (by decide) rfl, ?_⟩
  refine List.forall_mem_cons.mpr ⟨ok_iinc C (show decode cL_law 1440 = .ok (.iinc 4 6, 3) from dk_at dq53_19 (i := 25) rfl) (by decide) (by decide) rfl, ?_⟩
  refine List.forall_mem_cons.mpr ⟨ok_goto C (show decode cL_law 1443 = .ok (.goto (-1420), 3) from dk_at dq53_19 (i := 26) rfl) (tg := 23) (by decide) rfl, ?_⟩
  refine List.forall_mem_cons.mpr ⟨ok_iconst C (show decode cL_law 1446 = .ok (.iconst 1, 1) from dk_at dq53_19 (i := 27) rfl) (by decide) rfl, ?_⟩
  refine List.forall_mem_cons.mpr ⟨ok_lret C hb1 (show decode cL_law 1447 = .ok (.ireturn, 1) from dk_at dq53_19 (i := 28) rfl), ?_⟩
  exact fun _ h => absurd h List.not_mem_nil
end
