-- 53.law.lean.txt
section
def L_law_0 (xs : Nat → Int32) (n : Nat) (f_X10_init : List Value → ab_H → Option ab_O) (f_X11_init : List Value → ab_H → Option ab_O) (f_X10_feed : List Value → ab_H → Option ab_O) (f_X11_feed : List Value → ab_H → Option ab_O) (f_X10_end : List Value → ab_H → Option ab_O) : List (Nat × ab_A) := [
  (0, ab_nx 3 (ab_new 10 19 [.null, .null, .null, .null, .null, .null, .null, .null, .null, .null, .null, .null, .null, .null, .null, .null, .null, .int 0, .int 0] 709736 6966897)),
  (3, ab_nx 4 ab_dup),
  (4, ab_nx 7 (ab_call 1 f_X10_init 68 4837 709736 6966897)),
  (7, ab_nx 8 (ab_astore 1)),
  (8, ab_nx 11 (ab_new 11 43 [.int 0, .null, .int 0, .int 0, .int 0, .int 0, .null, .null, .null, .null, .null, .int 0, .int 0, .int 0, .int 0, .int 0, .int 0, .long 0, .int 0, .int 0, .int 0, .null, .int 0, .null, .null, .int 0, .null, .null, .int 0, .int 0, .int 0, .null, .int 0, .null, .int 0, .int 0, .int 0, .int 0, .int 0, .null, .null, .null, .null] 709736 6966897)),
  (11, ab_nx 12 ab_dup),
  (12, ab_nx 15 (ab_call 1 f_X11_init 17 3972 709736 6966897)),
  (15, ab_nx 16 (ab_astore 2)),
  (16, ab_nx 17 (ab_lit (.int 1))),
  (17, ab_nx 19 (ab_newa 2 (fun n => (n, .inr (.inl (fun _ => 0)))) 709736 6966897)),
  (19, ab_nx 20 (ab_astore 3)),
  (20, ab_nx 21 (ab_lit (.int 0))),
  (21, ab_nx 23 (ab_istore 4)),
  (23, ab_nx 25 (ab_iload 4)),
  (25, ab_nx 26 (ab_aload 0)),
  (26, ab_nx 27 (ab_slen n)),
  (27, ab_nx 29 (ab_lit (.int 6))),
  (29, ab_nx 30 (ab_bin (fun x y => x - y))),
  (30, ab_icmp 33 1474 (fun x y => decide (y < x))),
  (33, ab_nx 34 (ab_aload 0)),
  (34, ab_nx 36 (ab_iload 4)),
  (36, ab_nx 37 (ab_sld xs n)),
  (37, ab_nx 39 (ab_lit (.int 63))),
  (39, ab_nx 40 (ab_bin (fun x y => x &&& y))),
  (40, ab_tab 0 [220, 293, 318, 331, 344, 393, 430, 498, 535, 560, 609, 658, 707, 732, 757, 770, 795, 820, 833, 858, 883, 920, 981, 1018, 1043, 1056, 1069, 1118, 1131, 1168, 1181, 1194, 1219, 1256, 1305, 1330, 1355, 1368, 1393, 1418, 1443] 1468),
  (220, ab_nx 221 (ab_aload 1)),
  (221, ab_nx 222 (ab_aload 0)),
  (222, ab_nx 224 (ab_iload 4)),
  (224, ab_nx 225 (ab_lit (.int 1))),
  (225, ab_nx 226 (ab_bin (fun x y => x + y))),
  (226, ab_nx 227 (ab_sld xs n)),
  (227, ab_nx 228 (ab_aload 0)),
  (228, ab_nx 230 (ab_iload 4)),
  (230, ab_nx 231 (ab_lit (.int 2))),
  (231, ab_nx 232 (ab_bin (fun x y => x + y))),
  (232, ab_nx 233 (ab_sld xs n)),
  (233, ab_nx 234 (ab_aload 0)),
  (234, ab_nx 236 (ab_iload 4)),
  (236, ab_nx 237 (ab_lit (.int 3))),
  (237, ab_nx 238 (ab_bin (fun x y => x + y))),
  (238, ab_nx 239 (ab_sld xs n)),
  (239, ab_nx 240 (ab_aload 0)),
  (240, ab_nx 242 (ab_iload 4)),
  (242, ab_nx 243 (ab_lit (.int 4))),
  (243, ab_nx 244 (ab_bin (fun x y => x + y))),
  (244, ab_nx 245 (ab_sld xs n)),
  (245, ab_nx 246 (ab_aload 0)),
  (246, ab_nx 248 (ab_iload 4)),
  (248, ab_nx 249 (ab_lit (.int 5))),
  (249, ab_nx 250 (ab_bin (fun x y => x + y))),
  (250, ab_nx 251 (ab_sld xs n)),
  (251, ab_nx 254 (ab_callV 6 10 f_X10_feed 0 0 709736 6966897)),
  (254, ab_nx 255 ab_pop),
  (255, ab_nx 256 (ab_aload 2)),
  (256, ab_nx 257 (ab_aload 0)),
  (257, ab_nx 259 (ab_iload 4)),
  (259, ab_nx 260 (ab_lit (.int 1))),
  (260, ab_nx 261 (ab_bin (fun x y => x + y))),
  (261, ab_nx 262 (ab_sld xs n)),
  (262, ab_nx 263 (ab_aload 0)),
  (263, ab_nx 265 (ab_iload 4)),
  (265, ab_nx 266 (ab_lit (.int 2))),
  (266, ab_nx 267 (ab_bin (fun x y => x + y))),
  (267, ab_nx 268 (ab_sld xs n)),
  (268, ab_nx 269 (ab_aload 0)),
  (269, ab_nx 271 (ab_iload 4)),
  (271, ab_nx 272 (ab_lit (.int 3))),
  (272, ab_nx 273 (ab_bin (fun x y => x + y))),
  (273, ab_nx 274 (ab_sld xs n)),
  (274, ab_nx 275 (ab_aload 0)),
  (275, ab_nx 277 (ab_iload 4)),
  (277, ab_nx 278 (ab_lit (.int 4))),
  (278, ab_nx 279 (ab_bin (fun x y => x + y))),
  (279, ab_nx 280 (ab_sld xs n)),
  (280, ab_nx 281 (ab_aload 0)),
  (281, ab_nx 283 (ab_iload 4)),
  (283, ab_nx 284 (ab_lit (.int 5))),
  (284, ab_nx 285 (ab_bin (fun x y => x + y))),
  (285, ab_nx 286 (ab_sld xs n)),
  (286, ab_nx 289 (ab_callV 6 11 f_X11_feed 0 0 709736 6966897)),
  (289, ab_nx 290 ab_pop),
  (290, ab_goto 1468),
  (293, ab_nx 294 (ab_aload 1)),
  (294, ab_nx 295 (ab_aload 0)),
  (295, ab_nx 297 (ab_iload 4)),
  (297, ab_nx 298 (ab_lit (.int 1))),
  (298, ab_nx 299 (ab_bin (fun x y => x + y))),
  (299, ab_nx 300 (ab_sld xs n)),
  (300, ab_nx 303 (ab_callV 2 10 f_X10_end 0 0 709736 6966897)),
  (303, ab_nx 304 ab_pop)]
set_option maxRecDepth 100000 in
theorem dq53_0 : ([(0, .new 8, 3), (3, .dup, 1), (4, .invokespecial 15, 3), (7, .astore_n 1, 1), (8, .new 16, 3), (11, .dup, 1), (12, .invokespecial 18, 3), (15, .astore_n 2, 1), (16, .iconst 1, 1), (17, .newarray .long, 2), (19, .astore_n 3, 1), (20, .iconst 0, 1), (21, .istore 4, 2), (23, .iload 4, 2), (25, .aload_n 0, 1), (26, .arraylength, 1), (27, .bipush 6, 2), (29, .isub, 1), (30, .if_icmp .gt 1444, 3), (33, .aload_n 0, 1), (34, .iload 4, 2), (36, .iaload, 1), (37, .bipush 63, 2), (39, .iand, 1), (40, .tableswitch 1428 0 40 #[180, 253, 278, 291, 304, 353, 390, 458, 495, 520, 569, 618, 667, 692, 717, 730, 755, 780, 793, 818, 843, 880, 941, 978, 1003, 1016, 1029, 1078, 1091, 1128, 1141, 1154, 1179, 1216, 1265, 1290, 1315, 1328, 1353, 1378, 1403], 180), (220, .aload_n 1, 1), (221, .aload_n 0, 1), (222, .iload 4, 2), (224, .iconst 1, 1), (225, .iadd, 1), (226, .iaload, 1), (227, .aload_n 0, 1), (228, .iload 4, 2), (230, .iconst 2, 1), (231, .iadd, 1), (232, .iaload, 1), (233, .aload_n 0, 1), (234, .iload 4, 2), (236, .iconst 3, 1), (237, .iadd, 1), (238, .iaload, 1), (239, .aload_n 0, 1), (240, .iload 4, 2), (242, .iconst 4, 1), (243, .iadd, 1), (244, .iaload, 1), (245, .aload_n 0, 1), (246, .iload 4, 2)] : List (Nat × Instr × Nat)).all (fun q => decide (decode cL_law q.1 = .ok q.2)) = true := by decide +kernel
set_option maxRecDepth 100000 in
theorem dq53_1 : ([(248, .iconst 5, 1), (249, .iadd, 1), (250, .iaload, 1), (251, .invokevirtual 19, 3), (254, .pop, 1), (255, .aload_n 2, 1), (256, .aload_n 0, 1), (257, .iload 4, 2), (259, .iconst 1, 1), (260, .iadd, 1), (261, .iaload, 1), (262, .aload_n 0, 1), (263, .iload 4, 2), (265, .iconst 2, 1), (266, .iadd, 1), (267, .iaload, 1), (268, .aload_n 0, 1), (269, .iload 4, 2), (271, .iconst 3, 1), (272, .iadd, 1), (273, .iaload, 1), (274, .aload_n 0, 1), (275, .iload 4, 2), (277, .iconst 4, 1), (278, .iadd, 1), (279, .iaload, 1), (280, .aload_n 0, 1), (281, .iload 4, 2), (283, .iconst 5, 1), (284, .iadd, 1), (285, .iaload, 1), (286, .invokevirtual 23, 3), (289, .pop, 1), (290, .goto 1178, 3), (293, .aload_n 1, 1), (294, .aload_n 0, 1), (295, .iload 4, 2), (297, .iconst 1, 1), (298, .iadd, 1), (299, .iaload, 1), (300, .invokevirtual 24, 3), (303, .pop, 1)] : List (Nat × Instr × Nat)).all (fun q => decide (decode cL_law q.1 = .ok q.2)) = true := by decide +kernel
set_option maxRecDepth 100000 in
set_option maxHeartbeats 4000000 in
theorem law_0 {p : Program} {l : Launch} {e : Env} {s : State} {m : MethodId} {below : List Frame} {meth : Method} {c : Code} {cd : Cond} {b : ab_B} {D : va_G} {cA : Nat → ClassId} {o : ab_O} {xs : Nat → Int32} {n bb : Nat} {nm : String} (C : ab_cx p l e room_1 s m #[Value.ref bb] below meth c D ab_cl cA (ab_E0 b) (⟨RL, nm, "([I)Z"⟩ : MethodName) cL_law 7 ret (cd :: ab_G) room_1) (hX : va_X bb n xs s s.heap) (hb0 : b.2 0 = bb) (hb1 : b.1 = s.heap.size ∧ bb < s.heap.size) {f_X10_init : List Value → ab_H → Option ab_O} (h_X10_init : ab_M l b D ab_cl cA (ab_E0 b) yX10_init (Cond.code yX10_init cX10_init 1 none :: ab_G) ({ frames := 3, cells := 68, slots := 4837, locals := 300 } : Room) f_X10_init) (i_X10_init : ∀ v hp o2, f_X10_init [v] hp = some o2 → ∃ a, v = .ref a) {f_X11_init : List Value → ab_H → Option ab_O} (h_X11_init : ab_M l b D ab_cl cA (ab_E0 b) yX11_init (Cond.code yX11_init cX11_init 1 none :: ab_G) ({ frames := 2, cells := 17, slots := 3972, locals := 200 } : Room) f_X11_init) (i_X11_init : ∀ v hp o2, f_X11_init [v] hp = some o2 → ∃ a, v = .ref a) {f_X10_feed : List Value → ab_H → Option ab_O} (h_X10_feed : ab_M l b D ab_cl cA (ab_E0 b) yX10_feed (Cond.code yX10_feed cX10_feed 6 (some .int) :: ab_G) ({ frames := 2, cells := 0, slots := 0, locals := 200 } : Room) f_X10_feed) {f_X11_feed : List Value → ab_H → Option ab_O} (h_X11_feed : ab_M l b D ab_cl cA (ab_E0 b) yX11_feed (Cond.code yX11_feed cX11_feed 6 (some .int) :: ab_G) ({ frames := 2, cells := 0, slots := 0, locals := 200 } : Room) f_X11_feed) {f_X10_end : List Value → ab_H → Option ab_O} (h_X10_end : ab_M l b D ab_cl cA (ab_E0 b) yX10_end (Cond.code yX10_end cX10_end 2 (some .boolean) :: ab_G) ({ frames := 1, cells := 0, slots := 0, locals := 100 } : Room) f_X10_end) : ∀ q ∈ L_law_0 xs n f_X10_init f_X11_init f_X10_feed f_X11_feed f_X10_end, ab_ok p l e room_1 s m #[Value.ref bb] below meth c (lw_Z below #[Value.ref bb] s) b D ab_cl cA 7 o (fun i => i) q.1 q.2 := by
  unfold L_law_0
  refine List.forall_mem_cons.mpr ⟨ok_new C (wi_X10) tyX10 tyX10_ok rfl kw_24 kw_25 kw_1 (df_X10 _) (show decode cL_law 0 = .ok (.new 8, 3) from dk_at dq53_0 (i := 0) rfl) rfl, ?_⟩
  refine List.forall_mem_cons.mpr ⟨ok_dup C (show decode cL_law 3 = .ok (.dup, 1) from dk_at dq53_0 (i := 1) rfl) rfl, ?_⟩
  refine List.forall_mem_cons.mpr ⟨ok_callI C h_X10_init ⟨rfl, rfl⟩ i_X10_init kw_28 kw_26 kw_27 kw_1 rfl ds_X10_init ⟨by decide, by decide⟩ (show decode cL_law 4 = .ok (.invokespecial 15, 3) from dk_at dq53_0 (i := 2) rfl) rfl, ?_⟩
  refine List.forall_mem_cons.mpr ⟨ok_astore_n C (show decode cL_law 7 = .ok (.astore_n 1, 1) from dk_at dq53_0 (i := 3) rfl) rfl (by decide) rfl, ?_⟩
  refine List.forall_mem_cons.mpr ⟨ok_new C (wi_X11) tyX11 tyX11_ok rfl kw_1154 kw_1148 kw_11 (df_X11 _) (show decode cL_law 8 = .ok (.new 16, 3) from dk_at dq53_0 (i := 4) rfl) rfl, ?_⟩
  refine List.forall_mem_cons.mpr ⟨ok_dup C (show decode cL_law 11 = .ok (.dup, 1) from dk_at dq53_0 (i := 5) rfl) rfl, ?_⟩
  refine List.forall_mem_cons.mpr ⟨ok_callI C h_X11_init ⟨rfl, rfl⟩ i_X11_init kw_1157 kw_1155 kw_1156 kw_11 rfl ds_X11_init ⟨by decide, by decide⟩ (show decode cL_law 12 = .ok (.invokespecial 18, 3) from dk_at dq53_0 (i := 6) rfl) rfl, ?_⟩
  refine List.forall_mem_cons.mpr ⟨ok_astore_n C (show decode cL_law 15 = .ok (.astore_n 2, 1) from dk_at dq53_0 (i := 7) rfl) rfl (by decide) rfl, ?_⟩
  refine List.forall_mem_cons.mpr ⟨ok_iconst C (show decode cL_law 16 = .ok (.iconst 1, 1) from dk_at dq53_0 (i := 8) rfl) (by decide) rfl, ?_⟩
  refine List.forall_mem_cons.mpr ⟨ok_newa_long C kw_98 (show decode cL_law 17 = .ok (.newarray .long, 2) from dk_at dq53_0 (i := 9) rfl) rfl, ?_⟩
  refine List.forall_mem_cons.mpr ⟨ok_astore_n C (show decode cL_law 19 = .ok (.astore_n 3, 1) from dk_at dq53_0 (i := 10) rfl) rfl (by decide) rfl, ?_⟩
  refine List.forall_mem_cons.mpr ⟨ok_iconst C (show decode cL_law 20 = .ok (.iconst 0, 1) from dk_at dq53_0 (i := 11) rfl) (by decide) rfl, ?_⟩
  refine List.forall_mem_cons.mpr ⟨ok_istore C (show decode cL_law 21 = .ok (.istore 4, 2) from dk_at dq53_0 (i := 12) rfl) (by decide) rfl, ?_⟩
  refine List.forall_mem_cons.mpr ⟨ok_iload C (show decode cL_law 23 = .ok (.iload 4, 2) from dk_at dq53_0 (i := 13) rfl) rfl, ?_⟩
  refine List.forall_mem_cons.mpr ⟨ok_aload_n C (show decode cL_law 25 = .ok (.aload_n 0, 1) from dk_at dq53_0 (i := 14) rfl) rfl rfl, ?_⟩
  refine List.forall_mem_cons.mpr ⟨ok_slen C hX hb0 hb1 (show decode cL_law 26 = .ok (.arraylength, 1) from dk_at dq53_0 (i := 15) rfl) rfl, ?_⟩
  refine List.forall_mem_cons.mpr ⟨ok_bipush C (show decode cL_law 27 = .ok (.bipush 6, 2) from dk_at dq53_0 (i := 16) rfl) (by decide) rfl, ?_⟩
  refine List.forall_mem_cons.mpr ⟨ok_isub C (show decode cL_law 29 = .ok (.isub, 1) from dk_at dq53_0 (i := 17) rfl) rfl, ?_⟩
  refine List.forall_mem_cons.mpr ⟨ok_icmpgt C (show decode cL_law 30 = .ok (.if_icmp .gt 1444, 3) from dk_at dq53_0 (i := 18) rfl) (tg := 1474) (by decide) rfl rfl, ?_⟩
  refine List.forall_mem_cons.mpr ⟨ok_aload_n C (show decode cL_law 33 = .ok (.aload_n 0, 1) from dk_at dq53_0 (i := 19) rfl) rfl rfl, ?_⟩
  refine List.forall_mem_cons.mpr ⟨ok_iload C (show decode cL_law 34 = .ok (.iload 4, 2) from dk_at dq53_0 (i := 20) rfl) rfl, ?_⟩
  refine List.forall_mem_cons.mpr ⟨ok_sld C hX hb0 hb1 (show decode cL_law 36 = .ok (.iaload, 1) from dk_at dq53_0 (i := 21) rfl) rfl, ?_⟩
  refine List.forall_mem_cons.mpr ⟨ok_bipush C (show decode cL_law 37 = .ok (.bipush 63, 2) from dk_at dq53_0 (i := 22) rfl) (by decide) rfl, ?_⟩
  refine List.forall_mem_cons.mpr ⟨ok_iand C (show decode cL_law 39 = .ok (.iand, 1) from dk_at dq53_0 (i := 23) rfl) rfl, ?_⟩
  refine List.forall_mem_cons.mpr ⟨ok_tab C (show decode cL_law 40 = .ok (.tableswitch 1428 0 40 #[180, 253, 278, 291, 304, 353, 390, 458, 495, 520, 569, 618, 667, 692, 717, 730, 755, 780, 793, 818, 843, 880, 941, 978, 1003, 1016, 1029, 1078, 1091, 1128, 1141, 1154, 1179, 1216, 1265, 1290, 1315, 1328, 1353, 1378, 1403], 180) from dk_at dq53_0 (i := 24) rfl) (by decide) (by decide) (by decide), ?_⟩
  refine List.forall_mem_cons.mpr ⟨ok_aload_n C (show decode cL_law 220 = .ok (.aload_n 1, 1) from dk_at dq53_0 (i := 25) rfl) rfl rfl, ?_⟩
  refine List.forall_mem_cons.mpr ⟨ok_aload_n C (show decode cL_law 221 = .ok (.aload_n 0, 1) from dk_at dq53_0 (i := 26) rfl) rfl rfl, ?_⟩
  refine List.forall_mem_cons.mpr ⟨ok_iload C (show decode cL_law 222 = .ok (.iload 4, 2) from dk_at dq53_0 (i := 27) rfl) rfl, ?_⟩
  refine List.forall_mem_cons.mpr ⟨ok_iconst C (show decode cL_law 224 = .ok (.iconst 1, 1) from dk_at dq53_0 (i := 28) rfl) (by decide) rfl, ?_⟩
  refine List.forall_mem_cons.mpr ⟨ok_iadd C (show decode cL_law 225 = .ok (.iadd, 1) from dk_at dq53_0 (i := 29) rfl) rfl, ?_⟩
  refine List.forall_mem_cons.mpr ⟨ok_sld C hX hb0 hb1 (show decode cL_law 226 = .ok (.iaload, 1) from dk_at dq53_0 (i := 30) rfl) rfl, ?_⟩
  refine List.forall_mem_cons.mpr ⟨ok_aload_n C (show decode cL_law 227 = .ok (.aload_n 0, 1) from dk_at dq53_0 (i := 31) rfl) rfl rfl, ?_⟩
  refine List.forall_mem_cons.mpr ⟨ok_iload C (show decode cL_law 228 = .ok (.iload 4, 2) from dk_at dq53_0 (i := 32) rfl) rfl, ?_⟩
  refine List.forall_mem_cons.mpr ⟨ok_iconst C (show decode cL_law 230 = .ok (.iconst 2, 1) from dk_at dq53_0 (i := 33) rfl) (by decide) rfl, ?_⟩
  refine List.forall_mem_cons.mpr ⟨ok_iadd C (show decode cL_law 231 = .ok (.iadd, 1) from dk_at dq53_0 (i := 34) rfl) rfl, ?_⟩
  refine List.forall_mem_cons.mpr ⟨ok_sld C hX hb0 hb1 (show decode cL_law 232 = .ok (.iaload, 1) from dk_at dq53_0 (i := 35) rfl) rfl, ?_⟩
  refine List.forall_mem_cons.mpr ⟨ok_aload_n C (show decode cL_law 233 = .ok (.aload_n 0, 1) from dk_at dq53_0 (i := 36) rfl) rfl rfl, ?_⟩
  refine List.forall_mem_cons.mpr ⟨ok_iload C (show decode cL_law 234 = .ok (.iload 4, 2) from dk_at dq53_0 (i := 37) rfl) rfl, ?_⟩
  refine List.forall_mem_cons.mpr ⟨ok_iconst C (show decode cL_law 236 = .ok (.iconst 3, 1) from dk_at dq53_0 (i := 38) rfl) (by decide) rfl, ?_⟩
  refine List.forall_mem_cons.mpr ⟨ok_iadd C (show decode cL_law 237 = .ok (.iadd, 1) from dk_at dq53_0 (i := 39) rfl) rfl, ?_⟩
  refine List.forall_mem_cons.mpr ⟨ok_sld C hX hb0 hb1 (show decode cL_law 238 = .ok (.iaload, 1) from dk_at dq53_0 (i := 40) rfl) rfl, ?_⟩
  refine List.forall_mem_cons.mpr ⟨ok_aload_n C (show decode cL_law 239 = .ok (.aload_n 0, 1) from dk_at dq53_0 (i := 41) rfl) rfl rfl, ?_⟩
  refine List.forall_mem_cons.mpr ⟨ok_iload C (show decode cL_law 240 = .ok (.iload 4, 2) from dk_at dq53_0 (i := 42) rfl) rfl, ?_⟩
  refine List.forall_mem_cons.mpr ⟨ok_iconst C (show decode cL_law 242 = .ok (.iconst 4, 1) from dk_at dq53_0 (i := 43) rfl) (by decide) rfl, ?_⟩
  refine List.forall_mem_cons.mpr ⟨ok_iadd C (show decode cL_law 243 = .ok (.iadd, 1) from dk_at dq53_0 (i := 44) rfl) rfl, ?_⟩
  refine List.forall_mem_cons.mpr ⟨ok_sld C hX hb0 hb1 (show decode cL_law 244 = .ok (.iaload, 1) from dk_at dq53_0 (i := 45) rfl) rfl, ?_⟩
  refine List.forall_mem_cons.mpr ⟨ok_aload_n C (show decode cL_law 245 = .ok (.aload_n 0, 1) from dk_at dq53_0 (i := 46) rfl) rfl rfl, ?_⟩
  refine List.forall_mem_cons.mpr ⟨ok_iload C (show decode cL_law 246 = .ok (.iload 4, 2) from dk_at dq53_0 (i := 47) rfl) rfl, ?_⟩
  refine List.forall_mem_cons.mpr ⟨ok_iconst C (show decode cL_law 248 = .ok (.iconst 5, 1) from dk_at dq53_1 (i := 0) rfl) (by decide) rfl, ?_⟩
  refine List.forall_mem_cons.mpr ⟨ok_iadd C (show decode cL_law 249 = .ok (.iadd, 1) from dk_at dq53_1 (i := 1) rfl) rfl, ?_⟩
  refine List.forall_mem_cons.mpr ⟨ok_sld C hX hb0 hb1 (show decode cL_law 250 = .ok (.iaload, 1) from dk_at dq53_1 (i := 2) rfl) rfl, ?_⟩
  refine List.forall_mem_cons.mpr ⟨ok_callV C h_X10_feed ⟨rfl, rfl⟩ rfl kw_376 kw_373 kw_374 kw_375 kw_1 rfl ds_X10_feed ⟨by decide, by decide⟩ (show decode cL_law 251 = .ok (.invokevirtual 19, 3) from dk_at dq53_1 (i := 3) rfl) rfl, ?_⟩
  refine List.forall_mem_cons.mpr ⟨ok_pop C (show decode cL_law 254 = .ok (.pop, 1) from dk_at dq53_1 (i := 4) rfl) rfl, ?_⟩
  refine List.forall_mem_cons.mpr ⟨ok_aload_n C (show decode cL_law 255 = .ok (.aload_n 2, 1) from dk_at dq53_1 (i := 5) rfl) rfl rfl, ?_⟩
  refine List.forall_mem_cons.mpr ⟨ok_aload_n C (show decode cL_law 256 = .ok (.aload_n 0, 1) from dk_at dq53_1 (i := 6) rfl) rfl rfl, ?_⟩
  refine List.forall_mem_cons.mpr ⟨ok_iload C (show decode cL_law 257 = .ok (.iload 4, 2) from dk_at dq53_1 (i := 7) rfl) rfl, ?_⟩
  refine List.forall_mem_cons.mpr ⟨ok_iconst C (show decode cL_law 259 = .ok (.iconst 1, 1) from dk_at dq53_1 (i := 8) rfl) (by decide) rfl, ?_⟩
  refine List.forall_mem_cons.mpr ⟨ok_iadd C (show decode cL_law 260 = .ok (.iadd, 1) from dk_at dq53_1 (i := 9) rfl) rfl, ?_⟩
  refine List.forall_mem_cons.mpr ⟨ok_sld C hX hb0 hb1 (show decode cL_law 261 = .ok (.iaload, 1) from dk_at dq53_1 (i := 10) rfl) rfl, ?_⟩
  refine List.forall_mem_cons.mpr ⟨ok_aload_n C (show decode cL_law 262 = .ok (.aload_n 0, 1) from dk_at dq53_1 (i := 11) rfl) rfl rfl, ?_⟩
  refine List.forall_mem_cons.mpr ⟨ok_iload C (show decode cL_law 263 = .ok (.iload 4, 2) from dk_at dq53_1 (i := 12) rfl) rfl, ?_⟩
  refine List.forall_mem_cons.mpr ⟨ok_iconst C (show decode cL_law 265 = .ok (.iconst 2, 1) from dk_at dq53_1 (i := 13) rfl) (by decide) rfl, ?_⟩
  refine List.forall_mem_cons.mpr ⟨ok_iadd C (show decode cL_law 266 = .ok (.iadd, 1) from dk_at dq53_1 (i := 14) rfl) rfl, ?_⟩
  refine List.forall_mem_cons.mpr ⟨ok_sld C hX hb0 hb1 (show decode cL_law 267 = .ok (.iaload, 1) from dk_at dq53_1 (i := 15) rfl) rfl, ?_⟩
  refine List.forall_mem_cons.mpr ⟨ok_aload_n C (show decode cL_law 268 = .ok (.aload_n 0, 1) from dk_at dq53_1 (i := 16) rfl) rfl rfl, ?_⟩
  refine List.forall_mem_cons.mpr ⟨ok_iload C (show decode cL_law 269 = .ok (.iload 4, 2) from dk_at dq53_1 (i := 17) rfl) rfl, ?_⟩
  refine List.forall_mem_cons.mpr ⟨ok_iconst C (show decode cL_law 271 = .ok (.iconst 3, 1) from dk_at dq53_1 (i := 18) rfl) (by decide) rfl, ?_⟩
  refine List.forall_mem_cons.mpr ⟨ok_iadd C (show decode cL_law 272 = .ok (.iadd, 1) from dk_at dq53_1 (i := 19) rfl) rfl, ?_⟩
  refine List.forall_mem_cons.mpr ⟨ok_sld C hX hb0 hb1 (show decode cL_law 273 = .ok (.iaload, 1) from dk_at dq53_1 (i := 20) rfl) rfl, ?_⟩
  refine List.forall_mem_cons.mpr ⟨ok_aload_n C (show decode cL_law 274 = .ok (.aload_n 0, 1) from dk_at dq53_1 (i := 21) rfl) rfl rfl, ?_⟩
  refine List.forall_mem_cons.mpr ⟨ok_iload C (show decode cL_law 275 = .ok (.iload 4, 2) from dk_at dq53_1 (i := 22) rfl) rfl, ?_⟩
  refine List.forall_mem_cons.mpr ⟨ok_iconst C (show decode cL_law 277 = .ok (.iconst 4, 1) from dk_at dq53_1 (i := 23) rfl) (by decide) rfl, ?_⟩
  refine List.forall_mem_cons.mpr ⟨ok_iadd C (show decode cL_law 278 = .ok (.iadd, 1) from dk_at dq53_1 (i := 24) rfl) rfl, ?_⟩
  refine List.forall_mem_cons.mpr ⟨ok_sld C hX hb0 hb1 (show decode cL_law 279 = .ok (.iaload, 1) from dk_at dq53_1 (i := 25) rfl) rfl, ?_⟩
  refine List.forall_mem_cons.mpr ⟨ok_aload_n C (show decode cL_law 280 = .ok (.aload_n 0, 1) from dk_at dq53_1 (i := 26) rfl) rfl rfl, ?_⟩
  refine List.forall_mem_cons.mpr ⟨ok_iload C (show decode cL_law 281 = .ok (.iload 4, 2) from dk_at dq53_1 (i := 27) rfl) rfl, ?_⟩
  refine List.forall_mem_cons.mpr ⟨ok_iconst C (show decode cL_law 283 = .ok (.iconst 5, 1) from dk_at dq53_1 (i := 28) rfl) (by decide) rfl, ?_⟩
  refine List.forall_mem_cons.mpr ⟨ok_iadd C (show decode cL_law 284 = .ok (.iadd, 1) from dk_at dq53_1 (i := 29) rfl) rfl, ?_⟩
  refine List.forall_mem_cons.mpr ⟨ok_sld C hX hb0 hb1 (show decode cL_law 285 = .ok (.iaload, 1) from dk_at dq53_1 (i := 30) rfl) rfl, ?_⟩
  refine List.forall_mem_cons.mpr ⟨ok_callV C h_X11_feed ⟨rfl, rfl⟩ rfl kw_1144 kw_1141 kw_1142 kw_1143 kw_11 rfl ds_X11_feed ⟨by decide, by decide⟩ (show decode cL_law 286 = .ok (.invokevirtual 23, 3) from dk_at dq53_1 (i := 31) rfl) rfl, ?_⟩
  refine List.forall_mem_cons.mpr ⟨ok_pop C (show decode cL_law 289 = .ok (.pop, 1) from dk_at dq53_1 (i := 32) rfl) rfl, ?_⟩
  refine List.forall_mem_cons.mpr ⟨ok_goto C (show decode cL_law 290 = .ok (.goto 1178, 3) from dk_at dq53_1 (i := 33) rfl) (tg := 1468) (by decide) rfl, ?_⟩
  refine List.forall_mem_cons.mpr ⟨ok_aload_n C (show decode cL_law 293 = .ok (.aload_n 1, 1) from dk_at dq53_1 (i := 34) rfl) rfl rfl, ?_⟩
  refine List.forall_mem_cons.mpr ⟨ok_aload_n C (show decode cL_law 294 = .ok (.aload_n 0, 1) from dk_at dq53_1 (i := 35) rfl) rfl rfl, ?_⟩
  refine List.forall_mem_cons.mpr ⟨ok_iload C (show decode cL_law 295 = .ok (.iload 4, 2) from dk_at dq53_1 (i := 36) rfl) rfl, ?_⟩
  refine List.forall_mem_cons.mpr ⟨ok_iconst C (show decode cL_law 297 = .ok (.iconst 1, 1) from dk_at dq53_1 (i := 37) rfl) (by decide) rfl, ?_⟩
  refine List.forall_mem_cons.mpr ⟨ok_iadd C (show decode cL_law 298 = .ok (.iadd, 1) from dk_at dq53_1 (i := 38) rfl) rfl, ?_⟩
  refine List.forall_mem_cons.mpr ⟨ok_sld C hX hb0 hb1 (show decode cL_law 299 = .ok (.iaload, 1) from dk_at dq53_1 (i := 39) rfl) rfl, ?_⟩
  refine List.forall_mem_cons.mpr ⟨ok_callV C h_X10_end ⟨rfl, rfl⟩ rfl kw_384 kw_381 kw_382 kw_383 kw_1 rfl ds_X10_end ⟨by decide, by decide⟩ (show decode cL_law 300 = .ok (.invokevirtual 24, 3) from dk_at dq53_1 (i := 40) rfl) rfl, ?_⟩
  refine List.forall_mem_cons.mpr ⟨ok_pop C (show decode cL_law 303 = .ok (.pop, 1) from dk_at dq53_1 (i := 41) rfl) rfl, ?_⟩
  exact fun _ h => absurd h List.not_mem_nil
def L_law_1 (xs : Nat → Int32) (n : Nat) (f_X11_end : List Value → ab_H → Option ab_O) (f_X10_strait : List Value → ab_H → Option ab_O) (f_X11_strait : List Value → ab_H → Option ab_O) (f_X10_fault : List Value → ab_H → Option ab_O) (f_X11_fault : List Value → ab_H → Option ab_O) (f_X10_good : List Value → ab_H → Option ab_O) (f_X11_good : List Value → ab_H → Option ab_O) (f_X10_crossed : List Value → ab_H → Option ab_O) (f_X11_crossed : List Value → ab_H → Option ab_O) : List (Nat × ab_A) := [
  (304, ab_nx 305 (ab_aload 2)),
  (305, ab_nx 306 (ab_aload 0)),
  (306, ab_nx 308 (ab_iload 4)),
  (308, ab_nx 309 (ab_lit (.int 1))),
  (309, ab_nx 310 (ab_bin (fun x y => x + y))),
  (310, ab_nx 311 (ab_sld xs n)),
  (311, ab_nx 314 (ab_callV 2 11 f_X11_end 0 0 709736 6966897)),
  (314, ab_nx 315 ab_pop),
  (315, ab_goto 1468),
  (318, ab_nx 319 (ab_aload 1)),
  (319, ab_nx 322 (ab_callV 1 10 f_X10_strait 0 0 709736 6966897)),
  (322, ab_nx 323 ab_pop),
  (323, ab_nx 324 (ab_aload 2)),
  (324, ab_nx 327 (ab_callV 1 11 f_X11_strait 0 0 709736 6966897)),
  (327, ab_nx 328 ab_pop),
  (328, ab_goto 1468),
  (331, ab_nx 332 (ab_aload 1)),
  (332, ab_nx 335 (ab_callV 1 10 f_X10_fault 0 0 709736 6966897)),
  (335, ab_nx 336 ab_pop),
  (336, ab_nx 337 (ab_aload 2)),
  (337, ab_nx 340 (ab_callV 1 11 f_X11_fault 0 0 709736 6966897)),
  (340, ab_nx 341 ab_pop),
  (341, ab_goto 1468),
  (344, ab_nx 345 (ab_aload 1)),
  (345, ab_nx 346 (ab_aload 0)),
  (346, ab_nx 348 (ab_iload 4)),
  (348, ab_nx 349 (ab_lit (.int 1))),
  (349, ab_nx 350 (ab_bin (fun x y => x + y))),
  (350, ab_nx 351 (ab_sld xs n)),
  (351, ab_nx 352 (ab_aload 0)),
  (352, ab_nx 354 (ab_iload 4)),
  (354, ab_nx 355 (ab_lit (.int 2))),
  (355, ab_nx 356 (ab_bin (fun x y => x + y))),
  (356, ab_nx 357 (ab_sld xs n)),
  (357, ab_nx 358 (ab_aload 0)),
  (358, ab_nx 360 (ab_iload 4)),
  (360, ab_nx 361 (ab_lit (.int 3))),
  (361, ab_nx 362 (ab_bin (fun x y => x + y))),
  (362, ab_nx 363 (ab_sld xs n)),
  (363, ab_nx 366 (ab_callV 4 10 f_X10_good 0 0 709736 6966897)),
  (366, ab_nx 367 ab_pop),
  (367, ab_nx 368 (ab_aload 2)),
  (368, ab_nx 369 (ab_aload 0)),
  (369, ab_nx 371 (ab_iload 4)),
  (371, ab_nx 372 (ab_lit (.int 1))),
  (372, ab_nx 373 (ab_bin (fun x y => x + y))),
  (373, ab_nx 374 (ab_sld xs n)),
  (374, ab_nx 375 (ab_aload 0)),
  (375, ab_nx 377 (ab_iload 4)),
  (377, ab_nx 378 (ab_lit (.int 2))),
  (378, ab_nx 379 (ab_bin (fun x y => x + y))),
  (379, ab_nx 380 (ab_sld xs n)),
  (380, ab_nx 381 (ab_aload 0)),
  (381, ab_nx 383 (ab_iload 4)),
  (383, ab_nx 384 (ab_lit (.int 3))),
  (384, ab_nx 385 (ab_bin (fun x y => x + y))),
  (385, ab_nx 386 (ab_sld xs n)),
  (386, ab_nx 389 (ab_callV 4 11 f_X11_good 0 0 709736 6966897)),
  (389, ab_nx 390 ab_pop),
  (390, ab_goto 1468),
  (393, ab_nx 394 (ab_aload 1)),
  (394, ab_nx 395 (ab_aload 0)),
  (395, ab_nx 397 (ab_iload 4)),
  (397, ab_nx 398 (ab_lit (.int 1))),
  (398, ab_nx 399 (ab_bin (fun x y => x + y))),
  (399, ab_nx 400 (ab_sld xs n)),
  (400, ab_nx 401 (ab_aload 0)),
  (401, ab_nx 403 (ab_iload 4)),
  (403, ab_nx 404 (ab_lit (.int 2))),
  (404, ab_nx 405 (ab_bin (fun x y => x + y))),
  (405, ab_nx 406 (ab_sld xs n)),
  (406, ab_nx 409 (ab_callV 3 10 f_X10_crossed 0 0 709736 6966897)),
  (409, ab_nx 410 ab_pop),
  (410, ab_nx 411 (ab_aload 2)),
  (411, ab_nx 412 (ab_aload 0)),
  (412, ab_nx 414 (ab_iload 4)),
  (414, ab_nx 415 (ab_lit (.int 1))),
  (415, ab_nx 416 (ab_bin (fun x y => x + y))),
  (416, ab_nx 417 (ab_sld xs n)),
  (417, ab_nx 418 (ab_aload 0)),
  (418, ab_nx 420 (ab_iload 4)),
  (420, ab_nx 421 (ab_lit (.int 2))),
  (421, ab_nx 422 (ab_bin (fun x y => x + y))),
  (422, ab_nx 423 (ab_sld xs n)),
  (423, ab_nx 426 (ab_callV 3 11 f_X11_crossed 0 0 709736 6966897)),
  (426, ab_nx 427 ab_pop),
  (427, ab_goto 1468),
  (430, ab_nx 431 (ab_aload 1)),
  (431, ab_nx 432 (ab_aload 0)),
  (432, ab_nx 434 (ab_iload 4))]
set_option maxRecDepth 100000 in
theorem dq53_2 : ([(304, .aload_n 2, 1), (305, .aload_n 0, 1), (306, .iload 4, 2), (308, .iconst 1, 1), (309, .iadd, 1), (310, .iaload, 1), (311, .invokevirtual 28, 3), (314, .pop, 1), (315, .goto 1153, 3), (318, .aload_n 1, 1), (319, .invokevirtual 29, 3), (322, .pop, 1), (323, .aload_n 2, 1), (324, .invokevirtual 33, 3), (327, .pop, 1), (328, .goto 1140, 3), (331, .aload_n 1, 1), (332, .invokevirtual 34, 3), (335, .pop, 1), (336, .aload_n 2, 1), (337, .invokevirtual 37, 3), (340, .pop, 1), (341, .goto 1127, 3), (344, .aload_n 1, 1), (345, .aload_n 0, 1), (346, .iload 4, 2), (348, .iconst 1, 1), (349, .iadd, 1), (350, .iaload, 1), (351, .aload_n 0, 1), (352, .iload 4, 2), (354, .iconst 2, 1), (355, .iadd, 1), (356, .iaload, 1), (357, .aload_n 0, 1), (358, .iload 4, 2), (360, .iconst 3, 1), (361, .iadd, 1), (362, .iaload, 1), (363, .invokevirtual 38, 3), (366, .pop, 1), (367, .aload_n 2, 1), (368, .aload_n 0, 1), (369, .iload 4, 2), (371, .iconst 1, 1), (372, .iadd, 1), (373, .iaload, 1), (374, .aload_n 0, 1)] : List (Nat × Instr × Nat)).all (fun q => decide (decode cL_law q.1 = .ok q.2)) = true := by decide +kernel
set_option maxRecDepth 100000 in
theorem dq53_3 : ([(375, .iload 4, 2), (377, .iconst 2, 1), (378, .iadd, 1), (379, .iaload, 1), (380, .aload_n 0, 1), (381, .iload 4, 2), (383, .iconst 3, 1), (384, .iadd, 1), (385, .iaload, 1), (386, .invokevirtual 42, 3), (389, .pop, 1), (390, .goto 1078, 3), (393, .aload_n 1, 1), (394, .aload_n 0, 1), (395, .iload 4, 2), (397, .iconst 1, 1), (398, .iadd, 1), (399, .iaload, 1), (400, .aload_n 0, 1), (401, .iload 4, 2), (403, .iconst 2, 1), (404, .iadd, 1), (405, .iaload, 1), (406, .invokevirtual 43, 3), (409, .pop, 1), (410, .aload_n 2, 1), (411, .aload_n 0, 1), (412, .iload 4, 2), (414, .iconst 1, 1), (415, .iadd, 1), (416, .iaload, 1), (417, .aload_n 0, 1), (418, .iload 4, 2), (420, .iconst 2, 1), (421, .iadd, 1), (422, .iaload, 1), (423, .invokevirtual 46, 3), (426, .pop, 1), (427, .goto 1041, 3), (430, .aload_n 1, 1), (431, .aload_n 0, 1), (432, .iload 4, 2)] : List (Nat × Instr × Nat)).all (fun q => decide (decode cL_law q.1 = .ok q.2)) = true := by decide +kernel
set_option maxRecDepth 100000 in
set_option maxHeartbeats 4000000 in
theorem law_1 {p : Program} {l : Launch} {e : Env} {s : State} {m : MethodId} {below : List Frame} {meth : Method} {c : Code} {cd : Cond} {b : ab_B} {D : va_G} {cA : Nat → ClassId} {o : ab_O} {xs : Nat → Int32} {n bb : Nat} {nm : String} (C : ab_cx p l e room_1 s m #[Value.ref bb] below meth c D ab_cl cA (ab_E0 b) (⟨RL, nm, "([I)Z"⟩ : MethodName) cL_law 7 ret (cd :: ab_G) room_1) (hX : va_X bb n xs s s.heap) (hb0 : b.2 0 = bb) (hb1 : b.1 = s.heap.size ∧ bb < s.heap.size) {f_X11_end : List Value → ab_H → Option ab_O} (h_X11_end : ab_M l b D ab_cl cA (ab_E0 b) yX11_end (Cond.code yX11_end cX11_end 2 (some .boolean) :: ab_G) ({ frames := 1, cells := 0, slots := 0, locals := 100 } : Room) f_X11_end) {f_X10_strait : List Value → ab_H → Option ab_O} (h_X10_strait : ab_M l b D ab_cl cA (ab_E0 b) yX10_strait (Cond.code yX10_strait cX10_strait 3 (some .int) :: ab_G) ({ frames := 10, cells := 0, slots := 0, locals := 1000 } : Room) f_X10_strait) {f_X11_strait : List Value → ab_H → Option ab_O} (h_X11_strait : ab_M l b D ab_cl cA (ab_E0 b) yX11_strait (Cond.code yX11_strait cX11_strait 2 (some .int) :: ab_G) ({ frames := 7, cells := 0, slots := 0, locals := 700 } : Room) f_X11_strait) {f_X10_fault : List Value → ab_H → Option ab_O} (h_X10_fault : ab_M l b D ab_cl cA (ab_E0 b) yX10_fault (Cond.code yX10_fault cX10_fault 1 (some .int) :: ab_G) ({ frames := 1, cells := 0, slots := 0, locals := 100 } : Room) f_X10_fault) {f_X11_fault : List Value → ab_H → Option ab_O} (h_X11_fault : ab_M l b D ab_cl cA (ab_E0 b) yX11_fault (Cond.code yX11_fault cX11_fault 1 (some .int) :: ab_G) ({ frames := 1, cells := 0, slots := 0, locals := 100 } : Room) f_X11_fault) {f_X10_good : List Value → ab_H → Option ab_O} (h_X10_good : ab_M l b D ab_cl cA (ab_E0 b) yX10_good (Cond.code yX10_good cX10_good 5 (some .int) :: ab_G) ({ frames := 3, cells := 0, slots := 0, locals := 300 } : Room) f_X10_good) {f_X11_good : List Value → ab_H → Option ab_O} (h_X11_good : ab_M l b D ab_cl cA (ab_E0 b) yX11_good (Cond.code yX11_good cX11_good 5 (some .int) :: ab_G) ({ frames := 4, cells := 0, slots := 0, locals := 400 } : Room) f_X11_good) {f_X10_crossed : List Value → ab_H → Option ab_O} (h_X10_crossed : ab_M l b D ab_cl cA (ab_E0 b) yX10_crossed (Cond.code yX10_crossed cX10_crossed 3 (some .int) :: ab_G) ({ frames := 3, cells := 0, slots := 0, locals := 300 } : Room) f_X10_crossed) {f_X11_crossed : List Value → ab_H → Option ab_O} (h_X11_crossed : ab_M l b D ab_cl cA (ab_E0 b) yX11_crossed (Cond.code yX11_crossed cX11_crossed 3 (some .int) :: ab_G) ({ frames := 4, cells := 0, slots := 0, locals := 400 } : Room) f_X11_crossed) : ∀ q ∈ L_law_1 xs n f_X11_end f_X10_strait f_X11_strait f_X10_fault f_X11_fault f_X10_good f_X11_good f_X10_crossed f_X11_crossed, ab_ok p l e room_1 s m #[Value.ref bb] below meth c (lw_Z below #[Value.ref bb] s) b D ab_cl cA 7 o (fun i => i) q.1 q.2 := by
  unfold L_law_1
  refine List.forall_mem_cons.mpr ⟨ok_aload_n C (show decode cL_law 304 = .ok (.aload_n 2, 1) from dk_at dq53_2 (i := 0) rfl) rfl rfl, ?_⟩
  refine List.forall_mem_cons.mpr ⟨ok_aload_n C (show decode cL_law 305 = .ok (.aload_n 0, 1) from dk_at dq53_2 (i := 1) rfl) rfl rfl, ?_⟩
  refine List.forall_mem_cons.mpr ⟨ok_iload C (show decode cL_law 306 = .ok (.iload 4, 2) from dk_at dq53_2 (i := 2) rfl) rfl, ?_⟩
  refine List.forall_mem_cons.mpr ⟨ok_iconst C (show decode cL_law 308 = .ok (.iconst 1, 1) from dk_at dq53_2 (i := 3) rfl) (by decide) rfl, ?_⟩
  refine List.forall_mem_cons.mpr ⟨ok_iadd C (show decode cL_law 309 = .ok (.iadd, 1) from dk_at dq53_2 (i := 4) rfl) rfl, ?_⟩
  refine List.forall_mem_cons.mpr ⟨ok_sld C hX hb0 hb1 (show decode cL_law 310 = .ok (.iaload, 1) from dk_at dq53_2 (i := 5) rfl) rfl, ?_⟩
  refine List.forall_mem_cons.mpr ⟨ok_callV C h_X11_end ⟨rfl, rfl⟩ rfl kw_1153 kw_1150 kw_1151 kw_1152 kw_11 rfl ds_X11_end ⟨by decide, by decide⟩ (show decode cL_law 311 = .ok (.invokevirtual 28, 3) from dk_at dq53_2 (i := 6) rfl) rfl, ?_⟩
  refine List.forall_mem_cons.mpr ⟨ok_pop C (show decode cL_law 314 = .ok (.pop, 1) from dk_at dq53_2 (i := 7) rfl) rfl, ?_⟩
  refine List.forall_mem_cons.mpr ⟨ok_goto C (show decode cL_law 315 = .ok (.goto 1153, 3) from dk_at dq53_2 (i := 8) rfl) (tg := 1468) (by decide) rfl, ?_⟩
  refine List.forall_mem_cons.mpr ⟨ok_aload_n C (show decode cL_law 318 = .ok (.aload_n 1, 1) from dk_at dq53_2 (i := 9) rfl) rfl rfl, ?_⟩
  refine List.forall_mem_cons.mpr ⟨ok_callV C h_X10_strait ⟨rfl, rfl⟩ rfl kw_388 kw_385 kw_386 kw_387 kw_1 rfl ds_X10_strait ⟨by decide, by decide⟩ (show decode cL_law 319 = .ok (.invokevirtual 29, 3) from dk_at dq53_2 (i := 10) rfl) rfl, ?_⟩
  refine List.forall_mem_cons.mpr ⟨ok_pop C (show decode cL_law 322 = .ok (.pop, 1) from dk_at dq53_2 (i := 11) rfl) rfl, ?_⟩
  refine List.forall_mem_cons.mpr ⟨ok_aload_n C (show decode cL_law 323 = .ok (.aload_n 2, 1) from dk_at dq53_2 (i := 12) rfl) rfl rfl, ?_⟩
  refine List.forall_mem_cons.mpr ⟨ok_callV C h_X11_strait ⟨rfl, rfl⟩ rfl kw_1318 kw_1315 kw_1316 kw_1317 kw_11 rfl ds_X11_strait ⟨by decide, by decide⟩ (show decode cL_law 324 = .ok (.invokevirtual 33, 3) from dk_at dq53_2 (i := 13) rfl) rfl, ?_⟩
  refine List.forall_mem_cons.mpr ⟨ok_pop C (show decode cL_law 327 = .ok (.pop, 1) from dk_at dq53_2 (i := 14) rfl) rfl, ?_⟩
  refine List.forall_mem_cons.mpr ⟨ok_goto C (show decode cL_law 328 = .ok (.goto 1140, 3) from dk_at dq53_2 (i := 15) rfl) (tg := 1468) (by decide) rfl, ?_⟩
  refine List.forall_mem_cons.mpr ⟨ok_aload_n C (show decode cL_law 331 = .ok (.aload_n 1, 1) from dk_at dq53_2 (i := 16) rfl) rfl rfl, ?_⟩
  refine List.forall_mem_cons.mpr ⟨ok_callV C h_X10_fault ⟨rfl, rfl⟩ rfl kw_584 kw_581 kw_582 kw_583 kw_1 rfl ds_X10_fault ⟨by decide, by decide⟩ (show decode cL_law 332 = .ok (.invokevirtual 34, 3) from dk_at dq53_2 (i := 17) rfl) rfl, ?_⟩
  refine List.forall_mem_cons.mpr ⟨ok_pop C (show decode cL_law 335 = .ok (.pop, 1) from dk_at dq53_2 (i := 18) rfl) rfl, ?_⟩
  refine List.forall_mem_cons.mpr ⟨ok_aload_n C (show decode cL_law 336 = .ok (.aload_n 2, 1) from dk_at dq53_2 (i := 19) rfl) rfl rfl, ?_⟩
  refine List.forall_mem_cons.mpr ⟨ok_callV C h_X11_fault ⟨rfl, rfl⟩ rfl kw_1398 kw_1395 kw_1396 kw_1397 kw_11 rfl ds_X11_fault ⟨by decide, by decide⟩ (show decode cL_law 337 = .ok (.invokevirtual 37, 3) from dk_at dq53_2 (i := 20) rfl) rfl, ?_⟩
  refine List.forall_mem_cons.mpr ⟨ok_pop C (show decode cL_law 340 = .ok (.pop, 1) from dk_at dq53_2 (i := 21) rfl) rfl, ?_⟩
  refine List.forall_mem_cons.mpr ⟨ok_goto C (show decode cL_law 341 = .ok (.goto 1127, 3) from dk_at dq53_2 (i := 22) rfl) (tg := 1468) (by decide) rfl, ?_⟩
  refine List.forall_mem_cons.mpr ⟨ok_aload_n C (show decode cL_law 344 = .ok (.aload_n 1, 1) from dk_at dq53_2 (i := 23) rfl) rfl rfl, ?_⟩
  refine List.forall_mem_cons.mpr ⟨ok_aload_n C (show decode cL_law 345 = .ok (.aload_n 0, 1) from dk_at dq53_2 (i := 24) rfl) rfl rfl, ?_⟩
  refine List.forall_mem_cons.mpr ⟨ok_iload C (show decode cL_law 346 = .ok (.iload 4, 2) from dk_at dq53_2 (i := 25) rfl) rfl, ?_⟩
  refine List.forall_mem_cons.mpr ⟨ok_iconst C (show decode cL_law 348 = .ok (.iconst 1, 1) from dk_at dq53_2 (i := 26) rfl) (by decide) rfl, ?_⟩
  refine List.forall_mem_cons.mpr ⟨ok_iadd C (show decode cL_law 349 = .ok (.iadd, 1) from dk_at dq53_2 (i := 27) rfl) rfl, ?_⟩
  refine List.forall_mem_cons.mpr ⟨ok_sld C hX hb0 hb1 (show decode cL_law 350 = .ok (.iaload, 1) from dk_at dq53_2 (i := 28) rfl) rfl, ?_⟩
  refine List.forall_mem_cons.mpr ⟨ok_aload_n C (show decode cL_law 351 = .ok (.aload_n 0, 1) from dk_at dq53_2 (i := 29) rfl) rfl rfl, ?_⟩
  refine List.forall_mem_cons.mpr ⟨ok_iload C (show decode cL_law 352 = .ok (.iload 4, 2) from dk_at dq53_2 (i := 30) rfl) rfl, ?_⟩
  refine List.forall_mem_cons.mpr ⟨ok_iconst C (show decode cL_law 354 = .ok (.iconst 2, 1) from dk_at dq53_2 (i := 31) rfl) (by decide) rfl, ?_⟩
  refine List.forall_mem_cons.mpr ⟨ok_iadd C (show decode cL_law 355 = .ok (.iadd, 1) from dk_at dq53_2 (i := 32) rfl) rfl, ?_⟩
  refine List.forall_mem_cons.mpr ⟨ok_sld C hX hb0 hb1 (show decode cL_law 356 = .ok (.iaload, 1) from dk_at dq53_2 (i := 33) rfl) rfl, ?_⟩
  refine List.forall_mem_cons.mpr ⟨ok_aload_n C (show decode cL_law 357 = .ok (.aload_n 0, 1) from dk_at dq53_2 (i := 34) rfl) rfl rfl, ?_⟩
  refine List.forall_mem_cons.mpr ⟨ok_iload C (show decode cL_law 358 = .ok (.iload 4, 2) from dk_at dq53_2 (i := 35) rfl) rfl, ?_⟩
  refine List.forall_mem_cons.mpr ⟨ok_iconst C (show decode cL_law 360 = .ok (.iconst 3, 1) from dk_at dq53_2 (i := 36) rfl) (by decide) rfl, ?_⟩
  refine List.forall_mem_cons.mpr ⟨ok_iadd C (show decode cL_law 361 = .ok (.iadd, 1) from dk_at dq53_2 (i := 37) rfl) rfl, ?_⟩
  refine List.forall_mem_cons.mpr ⟨ok_sld C hX hb0 hb1 (show decode cL_law 362 = .ok (.iaload, 1) from dk_at dq53_2 (i := 38) rfl) rfl, ?_⟩
  refine List.forall_mem_cons.mpr ⟨ok_callV C h_X10_good ⟨rfl, rfl⟩ rfl kw_588 kw_585 kw_586 kw_587 kw_1 rfl ds_X10_good ⟨by decide, by decide⟩ (show decode cL_law 363 = .ok (.invokevirtual 38, 3) from dk_at dq53_2 (i := 39) rfl) rfl, ?_⟩
  refine List.forall_mem_cons.mpr ⟨ok_pop C (show decode cL_law 366 = .ok (.pop, 1) from dk_at dq53_2 (i := 40) rfl) rfl, ?_⟩
  refine List.forall_mem_cons.mpr ⟨ok_aload_n C (show decode cL_law 367 = .ok (.aload_n 2, 1) from dk_at dq53_2 (i := 41) rfl) rfl rfl, ?_⟩
  refine List.forall_mem_cons.mpr ⟨ok_aload_n C (show decode cL_law 368 = .ok (.aload_n 0, 1) from dk_at dq53_2 (i := 42) rfl) rfl rfl, ?_⟩
  refine List.forall_mem_cons.mpr ⟨ok_iload C (show decode cL_law 369 = .ok (.iload 4, 2) from dk_at dq53_2 (i := 43) rfl) rfl, ?_⟩
  refine List.forall_mem_cons.mpr ⟨ok_iconst C (show decode cL_law 371 = .ok (.iconst 1, 1) from dk_at dq53_2 (i := 44) rfl) (by decide) rfl, ?_⟩
  refine List.forall_mem_cons.mpr ⟨ok_iadd C (show decode cL_law 372 = .ok (.iadd, 1) from dk_at dq53_2 (i := 45) rfl) rfl, ?_⟩
  refine List.forall_mem_cons.mpr ⟨ok_sld C hX hb0 hb1 (show decode cL_law 373 = .ok (.iaload, 1) from dk_at dq53_2 (i := 46) rfl) rfl, ?_⟩
  refine List.forall_mem_cons.mpr ⟨ok_aload_n C (show decode cL_law 374 = .ok (.aload_n 0, 1) from dk_at dq53_2 (i := 47) rfl) rfl rfl, ?_⟩
  refine List.forall_mem_cons.mpr ⟨ok_iload C (show decode cL_law 375 = .ok (.iload 4, 2) from dk_at dq53_3 (i := 0) rfl) rfl, ?_⟩
  refine List.forall_mem_cons.mpr ⟨ok_iconst C (show decode cL_law 377 = .ok (.iconst 2, 1) from dk_at dq53_3 (i := 1) rfl) (by decide) rfl, ?_⟩
  refine List.forall_mem_cons.mpr ⟨ok_iadd C (show decode cL_law 378 = .ok (.iadd, 1) from dk_at dq53_3 (i := 2) rfl) rfl, ?_⟩
  refine List.forall_mem_cons.mpr ⟨ok_sld C hX hb0 hb1 (show decode cL_law 379 = .ok (.iaload, 1) from dk_at dq53_3 (i := 3) rfl) rfl, ?_⟩
  refine List.forall_mem_cons.mpr ⟨ok_aload_n C (show decode cL_law 380 = .ok (.aload_n 0, 1) from dk_at dq53_3 (i := 4) rfl) rfl rfl, ?_⟩
  refine List.forall_mem_cons.mpr ⟨ok_iload C (show decode cL_law 381 = .ok (.iload 4, 2) from dk_at dq53_3 (i := 5) rfl) rfl, ?_⟩
  refine List.forall_mem_cons.mpr ⟨ok_iconst C (show decode cL_law 383 = .ok (.iconst 3, 1) from dk_at dq53_3 (i := 6) rfl) (by decide) rfl, ?_⟩
  refine List.forall_mem_cons.mpr ⟨ok_iadd C (show decode cL_law 384 = .ok (.iadd, 1) from dk_at dq53_3 (i := 7) rfl) rfl, ?_⟩
  refine List.forall_mem_cons.mpr ⟨ok_sld C hX hb0 hb1 (show decode cL_law 385 = .ok (.iaload, 1) from dk_at dq53_3 (i := 8) rfl) rfl, ?_⟩
  refine List.forall_mem_cons.mpr ⟨ok_callV C h_X11_good ⟨rfl, rfl⟩ rfl kw_1402 kw_1399 kw_1400 kw_1401 kw_11 rfl ds_X11_good ⟨by decide, by decide⟩ (show decode cL_law 386 = .ok (.invokevirtual 42, 3) from dk_at dq53_3 (i := 9) rfl) rfl, ?_⟩
  refine List.forall_mem_cons.mpr ⟨ok_pop C (show decode cL_law 389 = .ok (.pop, 1) from dk_at dq53_3 (i := 10) rfl) rfl, ?_⟩
  refine List.forall_mem_cons.mpr ⟨ok_goto C (show decode cL_law 390 = .ok (.goto 1078, 3) from dk_at dq53_3 (i := 11) rfl) (tg := 1468) (by decide) rfl, ?_⟩
  refine List.forall_mem_cons.mpr ⟨ok_aload_n C (show decode cL_law 393 = .ok (.aload_n 1, 1) from dk_at dq53_3 (i := 12) rfl) rfl rfl, ?_⟩
  refine List.forall_mem_cons.mpr ⟨ok_aload_n C (show decode cL_law 394 = .ok (.aload_n 0, 1) from dk_at dq53_3 (i := 13) rfl) rfl rfl, ?_⟩
  refine List.forall_mem_cons.mpr ⟨ok_iload C (show decode cL_law 395 = .ok (.iload 4, 2) from dk_at dq53_3 (i := 14) rfl) rfl, ?_⟩
  refine List.forall_mem_cons.mpr ⟨ok_iconst C (show decode cL_law 397 = .ok (.iconst 1, 1) from dk_at dq53_3 (i := 15) rfl) (by decide) rfl, ?_⟩
  refine List.forall_mem_cons.mpr ⟨ok_iadd C (show decode cL_law 398 = .ok (.iadd, 1) from dk_at dq53_3 (i := 16) rfl) rfl, ?_⟩
  refine List.forall_mem_cons.mpr ⟨ok_sld C hX hb0 hb1 (show decode cL_law 399 = .ok (.iaload, 1) from dk_at dq53_3 (i := 17) rfl) rfl, ?_⟩
  refine List.forall_mem_cons.mpr ⟨ok_aload_n C (show decode cL_law 400 = .ok (.aload_n 0, 1) from dk_at dq53_3 (i := 18) rfl) rfl rfl, ?_⟩
  refine List.forall_mem_cons.mpr ⟨ok_iload C (show decode cL_law 401 = .ok (.iload 4, 2) from dk_at dq53_3 (i := 19) rfl) rfl, ?_⟩
  refine List.forall_mem_cons.mpr ⟨ok_iconst C (show decode cL_law 403 = .ok (.iconst 2, 1) from dk_at dq53_3 (i := 20) rfl) (by decide) rfl, ?_⟩
  refine List.forall_mem_cons.mpr ⟨ok_iadd C (show decode cL_law 404 = .ok (.iadd, 1) from dk_at dq53_3 (i := 21) rfl) rfl, ?_⟩
  refine List.forall_mem_cons.mpr ⟨ok_sld C hX hb0 hb1 (show decode cL_law 405 = .ok (.iaload, 1) from dk_at dq53_3 (i := 22) rfl) rfl, ?_⟩
  refine List.forall_mem_cons.mpr ⟨ok_callV C h_X10_crossed ⟨rfl, rfl⟩ rfl kw_616 kw_613 kw_614 kw_615 kw_1 rfl ds_X10_crossed ⟨by decide, by decide⟩ (show decode cL_law 406 = .ok (.invokevirtual 43, 3) from dk_at dq53_3 (i := 23) rfl) rfl, ?_⟩
  refine List.forall_mem_cons.mpr ⟨ok_pop C (show decode cL_law 409 = .ok (.pop, 1) from dk_at dq53_3 (i := 24) rfl) rfl, ?_⟩
  refine List.forall_mem_cons.mpr ⟨ok_aload_n C (show decode cL_law 410 = .ok (.aload_n 2, 1) from dk_at dq53_3 (i := 25) rfl) rfl rfl, ?_⟩
  refine List.forall_mem_cons.mpr ⟨ok_aload_n C (show decode cL_law 411 = .ok (.aload_n 0, 1) from dk_at dq53_3 (i := 26) rfl) rfl rfl, ?_⟩
  refine List.forall_mem_cons.mpr ⟨ok_iload C (show decode cL_law 412 = .ok (.iload 4, 2) from dk_at dq53_3 (i := 27) rfl) rfl, ?_⟩
  refine List.forall_mem_cons.mpr ⟨ok_iconst C (show decode cL_law 414 = .ok (.iconst 1, 1) from dk_at dq53_3 (i := 28) rfl) (by decide) rfl, ?_⟩
  refine List.forall_mem_cons.mpr ⟨ok_iadd C (show decode cL_law 415 = .ok (.iadd, 1) from dk_at dq53_3 (i := 29) rfl) rfl, ?_⟩
  refine List.forall_mem_cons.mpr ⟨ok_sld C hX hb0 hb1 (show decode cL_law 416 = .ok (.iaload, 1) from dk_at dq53_3 (i := 30) rfl) rfl, ?_⟩
  refine List.forall_mem_cons.mpr ⟨ok_aload_n C (show decode cL_law 417 = .ok (.aload_n 0, 1) from dk_at dq53_3 (i := 31) rfl) rfl rfl, ?_⟩
  refine List.forall_mem_cons.mpr ⟨ok_iload C (show decode cL_law 418 = .ok (.iload 4, 2) from dk_at dq53_3 (i := 32) rfl) rfl, ?_⟩
  refine List.forall_mem_cons.mpr ⟨ok_iconst C (show decode cL_law 420 = .ok (.iconst 2, 1) from dk_at dq53_3 (i := 33) rfl) (by decide) rfl, ?_⟩
  refine List.forall_mem_cons.mpr ⟨ok_iadd C (show decode cL_law 421 = .ok (.iadd, 1) from dk_at dq53_3 (i := 34) rfl) rfl, ?_⟩
  refine List.forall_mem_cons.mpr ⟨ok_sld C hX hb0 hb1 (show decode cL_law 422 = .ok (.iaload, 1) from dk_at dq53_3 (i := 35) rfl) rfl, ?_⟩
  refine List.forall_mem_cons.mpr ⟨ok_callV C h_X11_crossed ⟨rfl, rfl⟩ rfl kw_1429 kw_1426 kw_1427 kw_1428 kw_11 rfl ds_X11_crossed ⟨by decide, by decide⟩ (show decode cL_law 423 = .ok (.invokevirtual 46, 3) from dk_at dq53_3 (i := 36) rfl) rfl, ?_⟩
  refine List.forall_mem_cons.mpr ⟨ok_pop C (show decode cL_law 426 = .ok (.pop, 1) from dk_at dq53_3 (i := 37) rfl) rfl, ?_⟩
  refine List.forall_mem_cons.mpr ⟨ok_goto C (show decode cL_law 427 = .ok (.goto 1041, 3) from dk_at dq53_3 (i := 38) rfl) (tg := 1468) (by decide) rfl, ?_⟩
  refine List.forall_mem_cons.mpr ⟨ok_aload_n C (show decode cL_law 430 = .ok (.aload_n 1, 1) from dk_at dq53_3 (i := 39) rfl) rfl rfl, ?_⟩
  refine List.forall_mem_cons.mpr ⟨ok_aload_n C (show decode cL_law 431 = .ok (.aload_n 0, 1) from dk_at dq53_3 (i := 40) rfl) rfl rfl, ?_⟩
  refine List.forall_mem_cons.mpr ⟨ok_iload C (show decode cL_law 432 = .ok (.iload 4, 2) from dk_at dq53_3 (i := 41) rfl) rfl, ?_⟩
  exact fun _ h => absurd h List.not_mem_nil
def L_law_2 (xs : Nat → Int32) (n : Nat) (f_L_man : List Value → ab_H → Option ab_O) (f_X11_man : List Value → ab_H → Option ab_O) (f_X11_thrown : List Value → ab_H → Option ab_O) (f_X10_apart : List Value → ab_H → Option ab_O) (f_X11_apart : List Value → ab_H → Option ab_O) (f_X10_now : List Value → ab_H → Option ab_O) (f_X11_now : List Value → ab_H → Option ab_O) : List (Nat × ab_A) := [
  (434, ab_nx 435 (ab_lit (.int 1))),
  (435, ab_nx 436 (ab_bin (fun x y => x + y))),
  (436, ab_nx 437 (ab_sld xs n)),
  (437, ab_nx 438 (ab_aload 0)),
  (438, ab_nx 440 (ab_iload 4)),
  (440, ab_nx 441 (ab_lit (.int 2))),
  (441, ab_nx 442 (ab_bin (fun x y => x + y))),
  (442, ab_nx 443 (ab_sld xs n)),
  (443, ab_nx 444 (ab_aload 3)),
  (444, ab_nx 447 (ab_call 4 f_L_man 1 6 709736 6966897)),
  (447, ab_nx 449 (ab_istore 5)),
  (449, ab_nx 450 (ab_aload 2)),
  (450, ab_nx 451 (ab_aload 0)),
  (451, ab_nx 453 (ab_iload 4)),
  (453, ab_nx 454 (ab_lit (.int 1))),
  (454, ab_nx 455 (ab_bin (fun x y => x + y))),
  (455, ab_nx 456 (ab_sld xs n)),
  (456, ab_nx 457 (ab_aload 0)),
  (457, ab_nx 459 (ab_iload 4)),
  (459, ab_nx 460 (ab_lit (.int 2))),
  (460, ab_nx 461 (ab_bin (fun x y => x + y))),
  (461, ab_nx 462 (ab_sld xs n)),
  (462, ab_nx 465 (ab_callV 3 11 f_X11_man 0 0 709736 6966897)),
  (465, ab_nx 467 (ab_istore 6)),
  (467, ab_nx 468 (ab_aload 2)),
  (468, ab_nx 471 (ab_callV 1 11 f_X11_thrown 0 0 709736 6966897)),
  (471, ab_nx 473 (ab_iload 5)),
  (473, ab_icmp 476 478 (fun x y => decide (x = y))),
  (476, ab_nx 477 (ab_lit (.int 0))),
  (477, ab_lret),
  (478, ab_nx 480 (ab_iload 5)),
  (480, ab_if 483 495 (fun x => !decide (x = 0))),
  (483, ab_nx 484 (ab_aload 3)),
  (484, ab_nx 485 (ab_lit (.int 0))),
  (485, ab_nx 486 ab_lald),
  (486, ab_nx 488 (ab_iload 6)),
  (488, ab_nx 489 ab_i2l),
  (489, ab_nx 490 ab_lcmp),
  (490, ab_if 493 495 (fun x => decide (x = 0))),
  (493, ab_nx 494 (ab_lit (.int 0))),
  (494, ab_lret),
  (495, ab_goto 1468),
  (498, ab_nx 499 (ab_aload 1)),
  (499, ab_nx 500 (ab_aload 0)),
  (500, ab_nx 502 (ab_iload 4)),
  (502, ab_nx 503 (ab_lit (.int 1))),
  (503, ab_nx 504 (ab_bin (fun x y => x + y))),
  (504, ab_nx 505 (ab_sld xs n)),
  (505, ab_nx 506 (ab_aload 0)),
  (506, ab_nx 508 (ab_iload 4)),
  (508, ab_nx 509 (ab_lit (.int 2))),
  (509, ab_nx 510 (ab_bin (fun x y => x + y))),
  (510, ab_nx 511 (ab_sld xs n)),
  (511, ab_nx 514 (ab_callV 3 10 f_X10_apart 0 0 709736 6966897)),
  (514, ab_nx 515 ab_pop),
  (515, ab_nx 516 (ab_aload 2)),
  (516, ab_nx 517 (ab_aload 0)),
  (517, ab_nx 519 (ab_iload 4)),
  (519, ab_nx 520 (ab_lit (.int 1))),
  (520, ab_nx 521 (ab_bin (fun x y => x + y))),
  (521, ab_nx 522 (ab_sld xs n)),
  (522, ab_nx 523 (ab_aload 0)),
  (523, ab_nx 525 (ab_iload 4)),
  (525, ab_nx 526 (ab_lit (.int 2))),
  (526, ab_nx 527 (ab_bin (fun x y => x + y))),
  (527, ab_nx 528 (ab_sld xs n)),
  (528, ab_nx 531 (ab_callV 3 11 f_X11_apart 0 0 709736 6966897)),
  (531, ab_nx 532 ab_pop),
  (532, ab_goto 1468),
  (535, ab_nx 536 (ab_aload 1)),
  (536, ab_nx 537 (ab_aload 0)),
  (537, ab_nx 539 (ab_iload 4)),
  (539, ab_nx 540 (ab_lit (.int 1))),
  (540, ab_nx 541 (ab_bin (fun x y => x + y))),
  (541, ab_nx 542 (ab_sld xs n)),
  (542, ab_nx 545 (ab_callV 2 10 f_X10_now 0 0 709736 6966897)),
  (545, ab_nx 546 ab_pop),
  (546, ab_nx 547 (ab_aload 2)),
  (547, ab_nx 548 (ab_aload 0)),
  (548, ab_nx 550 (ab_iload 4)),
  (550, ab_nx 551 (ab_lit (.int 1))),
  (551, ab_nx 552 (ab_bin (fun x y => x + y))),
  (552, ab_nx 553 (ab_sld xs n)),
  (553, ab_nx 556 (ab_callV 2 11 f_X11_now 0 0 709736 6966897)),
  (556, ab_nx 557 ab_pop),
  (557, ab_goto 1468),
  (560, ab_nx 561 (ab_aload 1)),
  (561, ab_nx 562 (ab_aload 0)),
  (562, ab_nx 564 (ab_iload 4)),
  (564, ab_nx 565 (ab_lit (.int 1)))]
set_option maxRecDepth 100000 in
theorem dq53_4 : ([(434, .iconst 1, 1), (435, .iadd, 1), (436, .iaload, 1), (437, .aload_n 0, 1), (438, .iload 4, 2), (440, .iconst 2, 1), (441, .iadd, 1), (442, .iaload, 1), (443, .aload_n 3, 1), (444, .invokestatic 47, 3), (447, .istore 5, 2), (449, .aload_n 2, 1), (450, .aload_n 0, 1), (451, .iload 4, 2), (453, .iconst 1, 1), (454, .iadd, 1), (455, .iaload, 1), (456, .aload_n 0, 1), (457, .iload 4, 2), (459, .iconst 2, 1), (460, .iadd, 1), (461, .iaload, 1), (462, .invokevirtual 52, 3), (465, .istore 6, 2), (467, .aload_n 2, 1), (468, .invokevirtual 53, 3), (471, .iload 5, 2), (473, .if_icmp .eq 5, 3), (476, .iconst 0, 1), (477, .ireturn, 1), (478, .iload 5, 2), (480, .ifCond .ne 15, 3), (483, .aload_n 3, 1), (484, .iconst 0, 1), (485, .laload, 1), (486, .iload 6, 2), (488, .i2l, 1), (489, .lcmp, 1), (490, .ifCond .eq 5, 3), (493, .iconst 0, 1), (494, .ireturn, 1), (495, .goto 973, 3), (498, .aload_n 1, 1), (499, .aload_n 0, 1), (500, .iload 4, 2), (502, .iconst 1, 1), (503, .iadd, 1), (504, .iaload, 1)] : List (Nat × Instr × Nat)).all (fun q => decide (decode cL_law q.1 = .ok q.2)) = true := by decide +kernel
set_option maxRecDepth 100000 in
theorem dq53_5 : ([(505, .aload_n 0, 1), (506, .iload 4, 2), (508, .iconst 2, 1), (509, .iadd, 1), (510, .iaload, 1), (511, .invokevirtual 56, 3), (514, .pop, 1), (515, .aload_n 2, 1), (516, .aload_n 0, 1), (517, .iload 4, 2), (519, .iconst 1, 1), (520, .iadd, 1), (521, .iaload, 1), (522, .aload_n 0, 1), (523, .iload 4, 2), (525, .iconst 2, 1), (526, .iadd, 1), (527, .iaload, 1), (528, .invokevirtual 59, 3), (531, .pop, 1), (532, .goto 936, 3), (535, .aload_n 1, 1), (536, .aload_n 0, 1), (537, .iload 4, 2), (539, .iconst 1, 1), (540, .iadd, 1), (541, .iaload, 1), (542, .invokevirtual 60, 3), (545, .pop, 1), (546, .aload_n 2, 1), (547, .aload_n 0, 1), (548, .iload 4, 2), (550, .iconst 1, 1), (551, .iadd, 1), (552, .iaload, 1), (553, .invokevirtual 64, 3), (556, .pop, 1), (557, .goto 911, 3), (560, .aload_n 1, 1), (561, .aload_n 0, 1), (562, .iload 4, 2), (564, .iconst 1, 1)] : List (Nat × Instr × Nat)).all (fun q => decide (decode cL_law q.1 = .ok q.2)) = true := by decide +kernel
set_option maxRecDepth 100000 in
set_option maxHeartbeats 4000000 in
theorem law_2 {p : Program} {l : Launch} {e : Env} {s : State} {m : MethodId} {below : List Frame} {meth : Method} {c : Code} {cd : Cond} {b : ab_B} {D : va_G} {cA : Nat → ClassId} {o : ab_O} {xs : Nat → Int32} {n bb : Nat} {nm : String} (C : ab_cx p l e room_1 s m #[Value.ref bb] below meth c D ab_cl cA (ab_E0 b) (⟨RL, nm, "([I)Z"⟩ : MethodName) cL_law 7 ret (cd :: ab_G) room_1) (hX : va_X bb n xs s s.heap) (hb0 : b.2 0 = bb) (hb1 : b.1 = s.heap.size ∧ bb < s.heap.size) {f_L_man : List Value → ab_H → Option ab_O} (h_L_man : ab_M l b D ab_cl cA (ab_E0 b) yL_man (Cond.codeWith yL_man cL_man 5 (some .int) [(0, 10, 13, 13)] :: ab_G) ({ frames := 9, cells := 1, slots := 6, locals := 900 } : Room) f_L_man) {f_X11_man : List Value → ab_H → Option ab_O} (h_X11_man : ab_M l b D ab_cl cA (ab_E0 b) yX11_man (Cond.code yX11_man cX11_man 3 (some .int) :: ab_G) ({ frames := 6, cells := 0, slots := 0, locals := 600 } : Room) f_X11_man) {f_X11_thrown : List Value → ab_H → Option ab_O} (h_X11_thrown : ab_M l b D ab_cl cA (ab_E0 b) yX11_thrown (Cond.code yX11_thrown cX11_thrown 1 (some .int) :: ab_G) ({ frames := 1, cells := 0, slots := 0, locals := 100 } : Room) f_X11_thrown) {f_X10_apart : List Value → ab_H → Option ab_O} (h_X10_apart : ab_M l b D ab_cl cA (ab_E0 b) yX10_apart (Cond.code yX10_apart cX10_apart 3 (some .int) :: ab_G) ({ frames := 3, cells := 0, slots := 0, locals := 300 } : Room) f_X10_apart) {f_X11_apart : List Value → ab_H → Option ab_O} (h_X11_apart : ab_M l b D ab_cl cA (ab_E0 b) yX11_apart (Cond.code yX11_apart cX11_apart 3 (some .int) :: ab_G) ({ frames := 3, cells := 0, slots := 0, locals := 300 } : Room) f_X11_apart) {f_X10_now : List Value → ab_H → Option ab_O} (h_X10_now : ab_M l b D ab_cl cA (ab_E0 b) yX10_now (Cond.code yX10_now cX10_now 2 (some .int) :: ab_G) ({ frames := 2, cells := 0, slots := 0, locals := 200 } : Room) f_X10_now) {f_X11_now : List Value → ab_H → Option ab_O} (h_X11_now : ab_M l b D ab_cl cA (ab_E0 b) yX11_now (Cond.code yX11_now cX11_now 2 (some .int) :: ab_G) ({ frames := 4, cells := 0, slots := 0, locals := 400 } : Room) f_X11_now) : ∀ q ∈ L_law_2 xs n f_L_man f_X11_man f_X11_thrown f_X10_apart f_X11_apart f_X10_now f_X11_now, ab_ok p l e room_1 s m #[Value.ref bb] below meth c (lw_Z below #[Value.ref bb] s) b D ab_cl cA 7 o (fun i => i) q.1 q.2 := by
  unfold L_law_2
  refine List.forall_mem_cons.mpr ⟨ok_iconst C (show decode cL_law 434 = .ok (.iconst 1, 1) from dk_at dq53_4 (i := 0) rfl) (by decide) rfl, ?_⟩
  refine List.forall_mem_cons.mpr ⟨ok_iadd C (show decode cL_law 435 = .ok (.iadd, 1) from dk_at dq53_4 (i := 1) rfl) rfl, ?_⟩
  refine List.forall_mem_cons.mpr ⟨ok_sld C hX hb0 hb1 (show decode cL_law 436 = .ok (.iaload, 1) from dk_at dq53_4 (i := 2) rfl) rfl, ?_⟩
  refine List.forall_mem_cons.mpr ⟨ok_aload_n C (show decode cL_law 437 = .ok (.aload_n 0, 1) from dk_at dq53_4 (i := 3) rfl) rfl rfl, ?_⟩
  refine List.forall_mem_cons.mpr ⟨ok_iload C (show decode cL_law 438 = .ok (.iload 4, 2) from dk_at dq53_4 (i := 4) rfl) rfl, ?_⟩
  refine List.forall_mem_cons.mpr ⟨ok_iconst C (show decode cL_law 440 = .ok (.iconst 2, 1) from dk_at dq53_4 (i := 5) rfl) (by decide) rfl, ?_⟩
  refine List.forall_mem_cons.mpr ⟨ok_iadd C (show decode cL_law 441 = .ok (.iadd, 1) from dk_at dq53_4 (i := 6) rfl) rfl, ?_⟩
  refine List.forall_mem_cons.mpr ⟨ok_sld C hX hb0 hb1 (show decode cL_law 442 = .ok (.iaload, 1) from dk_at dq53_4 (i := 7) rfl) rfl, ?_⟩
  refine List.forall_mem_cons.mpr ⟨ok_aload_n C (show decode cL_law 443 = .ok (.aload_n 3, 1) from dk_at dq53_4 (i := 8) rfl) rfl rfl, ?_⟩
  refine List.forall_mem_cons.mpr ⟨ok_callSW C h_L_man ⟨rfl, rfl⟩ kw_1061 kw_1059 kw_1060 kw_0 ds_L_man ⟨by decide, by decide⟩ (show decode cL_law 444 = .ok (.invokestatic 47, 3) from dk_at dq53_4 (i := 9) rfl) rfl, ?_⟩
  refine List.forall_mem_cons.mpr ⟨ok_istore C (show decode cL_law 447 = .ok (.istore 5, 2) from dk_at dq53_4 (i := 10) rfl) (by decide) rfl, ?_⟩
  refine List.forall_mem_cons.mpr ⟨ok_aload_n C (show decode cL_law 449 = .ok (.aload_n 2, 1) from dk_at dq53_4 (i := 11) rfl) rfl rfl, ?_⟩
  refine List.forall_mem_cons.mpr ⟨ok_aload_n C (show decode cL_law 450 = .ok (.aload_n 0, 1) from dk_at dq53_4 (i := 12) rfl) rfl rfl, ?_⟩
  refine List.forall_mem_cons.mpr ⟨ok_iload C (show decode cL_law 451 = .ok (.iload 4, 2) from dk_at dq53_4 (i := 13) rfl) rfl, ?_⟩
  refine List.forall_mem_cons.mpr ⟨ok_iconst C (show decode cL_law 453 = .ok (.iconst 1, 1) from dk_at dq53_4 (i := 14) rfl) (by decide) rfl, ?_⟩
  refine List.forall_mem_cons.mpr ⟨ok_iadd C (show decode cL_law 454 = .ok (.iadd, 1) from dk_at dq53_4 (i := 15) rfl) rfl, ?_⟩
  refine List.forall_mem_cons.mpr ⟨ok_sld C hX hb0 hb1 (show decode cL_law 455 = .ok (.iaload, 1) from dk_at dq53_4 (i := 16) rfl) rfl, ?_⟩
  refine List.forall_mem_cons.mpr ⟨ok_aload_n C (show decode cL_law 456 = .ok (.aload_n 0, 1) from dk_at dq53_4 (i := 17) rfl) rfl rfl, ?_⟩
  refine List.forall_mem_cons.mpr ⟨ok_iload C (show decode cL_law 457 = .ok (.iload 4, 2) from dk_at dq53_4 (i := 18) rfl) rfl, ?_⟩
  refine List.forall_mem_cons.mpr ⟨ok_iconst C (show decode cL_law 459 = .ok (.iconst 2, 1) from dk_at dq53_4 (i := 19) rfl) (by decide) rfl, ?_⟩
  refine List.forall_mem_cons.mpr ⟨ok_iadd C (show decode cL_law 460 = .ok (.iadd, 1) from dk_at dq53_4 (i := 20) rfl) rfl, ?_⟩
  refine List.forall_mem_cons.mpr ⟨ok_sld C hX hb0 hb1 (show decode cL_law 461 = .ok (.iaload, 1) from dk_at dq53_4 (i := 21) rfl) rfl, ?_⟩
  refine List.forall_mem_cons.mpr ⟨ok_callV C h_X11_man ⟨rfl, rfl⟩ rfl kw_1433 kw_1430 kw_1431 kw_1432 kw_11 rfl ds_X11_man ⟨by decide, by decide⟩ (show decode cL_law 462 = .ok (.invokevirtual 52, 3) from dk_at dq53_4 (i := 22) rfl) rfl, ?_⟩
  refine List.forall_mem_cons.mpr ⟨ok_istore C (show decode cL_law 465 = .ok (.istore 6, 2) from dk_at dq53_4 (i := 23) rfl) (by decide) rfl, ?_⟩
  refine List.forall_mem_cons.mpr ⟨ok_aload_n C (show decode cL_law 467 = .ok (.aload_n 2, 1) from dk_at dq53_4 (i := 24) rfl) rfl rfl, ?_⟩
  refine List.forall_mem_cons.mpr ⟨ok_callV C h_X11_thrown ⟨rfl, rfl⟩ rfl kw_1140 kw_1137 kw_1138 kw_1139 kw_11 rfl ds_X11_thrown ⟨by decide, by decide⟩ (show decode cL_law 468 = .ok (.invokevirtual 53, 3) from dk_at dq53_4 (i := 25) rfl) rfl, ?_⟩
  refine List.forall_mem_cons.mpr ⟨ok_iload C (show decode cL_law 471 = .ok (.iload 5, 2) from dk_at dq53_4 (i := 26) rfl) rfl, ?_⟩
  refine List.forall_mem_cons.mpr ⟨ok_icmpeq C (show decode cL_law 473 = .ok (.if_icmp .eq 5, 3) from dk_at dq53_4 (i := 27) rfl) (tg := 478) (by decide) rfl rfl, ?_⟩
  refine List.forall_mem_cons.mpr ⟨ok_iconst C (show decode cL_law 476 = .ok (.iconst 0, 1) from dk_at dq53_4 (i := 28) rfl) (by decide) rfl, ?_⟩
  refine List.forall_mem_cons.mpr ⟨ok_lret C hb1 (show decode cL_law 477 = .ok (.ireturn, 1) from dk_at dq53_4 (i := 29) rfl), ?_⟩
  refine List.forall_mem_cons.mpr ⟨ok_iload C (show decode cL_law 478 = .ok (.iload 5, 2) from dk_at dq53_4 (i := 30) rfl) rfl, ?_⟩
  refine List.forall_mem_cons.mpr ⟨ok_ifne C (show decode cL_law 480 = .ok (.ifCond .ne 15, 3) from dk_at dq53_4 (i := 31) rfl) (tg := 495) (by decide) rfl rfl, ?_⟩
  refine List.forall_mem_cons.mpr ⟨ok_aload_n C (show decode cL_law 483 = .ok (.aload_n 3, 1) from dk_at dq53_4 (i := 32) rfl) rfl rfl, ?_⟩
  refine List.forall_mem_cons.mpr ⟨ok_iconst C (show decode cL_law 484 = .ok (.iconst 0, 1) from dk_at dq53_4 (i := 33) rfl) (by decide) rfl, ?_⟩
  refine List.forall_mem_cons.mpr ⟨ok_laload C (show decode cL_law 485 = .ok (.laload, 1) from dk_at dq53_4 (i := 34) rfl) rfl, ?_⟩
  refine List.forall_mem_cons.mpr ⟨ok_iload C (show decode cL_law 486 = .ok (.iload 6, 2) from dk_at dq53_4 (i := 35) rfl) rfl, ?_⟩
  refine List.forall_mem_cons.mpr ⟨ok_i2l C (show decode cL_law 488 = .ok (.i2l, 1) from dk_at dq53_4 (i := 36) rfl) rfl, ?_⟩
  refine List.forall_mem_cons.mpr ⟨ok_lcmp C (show decode cL_law 489 = .ok (.lcmp, 1) from dk_at dq53_4 (i := 37) rfl) rfl, ?_⟩
  refine List.forall_mem_cons.mpr ⟨ok_ifeq C (show decode cL_law 490 = .ok (.ifCond .eq 5, 3) from dk_at dq53_4 (i := 38) rfl) (tg := 495) (by decide) rfl rfl, ?_⟩
  refine List.forall_mem_cons.mpr ⟨ok_iconst C (show decode cL_law 493 = .ok (.iconst 0, 1) from dk_at dq53_4 (i := 39) rfl) (by decide) rfl, ?_⟩
  refine List.forall_mem_cons.mpr ⟨ok_lret C hb1 (show decode cL_law 494 = .ok (.ireturn, 1) from dk_at dq53_4 (i := 40) rfl), ?_⟩
  refine List.forall_mem_cons.mpr ⟨ok_goto C (show decode cL_law 495 = .ok (.goto 973, 3) from dk_at dq53_4 (i := 41) rfl) (tg := 1468) (by decide) rfl, ?_⟩
  refine List.forall_mem_cons.mpr ⟨ok_aload_n C (show decode cL_law 498 = .ok (.aload_n 1, 1) from dk_at dq53_4 (i := 42) rfl) rfl rfl, ?_⟩
  refine List.forall_mem_cons.mpr ⟨ok_aload_n C (show decode cL_law 499 = .ok (.aload_n 0, 1) from dk_at dq53_4 (i := 43) rfl) rfl rfl, ?_⟩
  refine List.forall_mem_cons.mpr ⟨ok_iload C (show decode cL_law 500 = .ok (.iload 4, 2) from dk_at dq53_4 (i := 44) rfl) rfl, ?_⟩
  refine List.forall_mem_cons.mpr ⟨ok_iconst C (show decode cL_law 502 = .ok (.iconst 1, 1) from dk_at dq53_4 (i := 45) rfl) (by decide) rfl, ?_⟩
  refine List.forall_mem_cons.mpr ⟨ok_iadd C (show decode cL_law 503 = .ok (.iadd, 1) from dk_at dq53_4 (i := 46) rfl) rfl, ?_⟩
  refine List.forall_mem_cons.mpr ⟨ok_sld C hX hb0 hb1 (show decode cL_law 504 = .ok (.iaload, 1) from dk_at dq53_4 (i := 47) rfl) rfl, ?_⟩
  refine List.forall_mem_cons.mpr ⟨ok_aload_n C (show decode cL_law 505 = .ok (.aload_n 0, 1) from dk_at dq53_5 (i := 0) rfl) rfl rfl, ?_⟩
  refine List.forall_mem_cons.mpr ⟨ok_iload C (show decode cL_law 506 = .ok (.iload 4, 2) from dk_at dq53_5 (i := 1) rfl) rfl, ?_⟩
  refine List.forall_mem_cons.mpr ⟨ok_iconst C (show decode cL_law 508 = .ok (.iconst 2, 1) from dk_at dq53_5 (i := 2) rfl) (by decide) rfl, ?_⟩
  refine List.forall_mem_cons.mpr ⟨ok_iadd C (show decode cL_law 509 = .ok (.iadd, 1) from dk_at dq53_5 (i := 3) rfl) rfl, ?_⟩
  refine List.forall_mem_cons.mpr ⟨ok_sld C hX hb0 hb1 (show decode cL_law 510 = .ok (.iaload, 1) from dk_at dq53_5 (i := 4) rfl) rfl, ?_⟩
  refine List.forall_mem_cons.mpr ⟨ok_callV C h_X10_apart ⟨rfl, rfl⟩ rfl kw_620 kw_617 kw_618 kw_619 kw_1 rfl ds_X10_apart ⟨by decide, by decide⟩ (show decode cL_law 511 = .ok (.invokevirtual 56, 3) from dk_at dq53_5 (i := 5) rfl) rfl, ?_⟩
  refine List.forall_mem_cons.mpr ⟨ok_pop C (show decode cL_law 514 = .ok (.pop, 1) from dk_at dq53_5 (i := 6) rfl) rfl, ?_⟩
  refine List.forall_mem_cons.mpr ⟨ok_aload_n C (show decode cL_law 515 = .ok (.aload_n 2, 1) from dk_at dq53_5 (i := 7) rfl) rfl rfl, ?_⟩
  refine List.forall_mem_cons.mpr ⟨ok_aload_n C (show decode cL_law 516 = .ok (.aload_n 0, 1) from dk_at dq53_5 (i := 8) rfl) rfl rfl, ?_⟩
  refine List.forall_mem_cons.mpr ⟨ok_iload C (show decode cL_law 517 = .ok (.iload 4, 2) from dk_at dq53_5 (i := 9) rfl) rfl, ?_⟩
  refine List.forall_mem_cons.mpr ⟨ok_iconst C (show decode cL_law 519 = .ok (.iconst 1, 1) from dk_at dq53_5 (i := 10) rfl) (by decide) rfl, ?_⟩
  refine List.forall_mem_cons.mpr ⟨ok_iadd C (show decode cL_law 520 = .ok (.iadd, 1) from dk_at dq53_5 (i := 11) rfl) rfl, ?_⟩
  refine List.forall_mem_cons.mpr ⟨ok_sld C hX hb0 hb1 (show decode cL_law 521 = .ok (.iaload, 1) from dk_at dq53_5 (i := 12) rfl) rfl, ?_⟩
  refine List.forall_mem_cons.mpr ⟨ok_aload_n C (show decode cL_law 522 = .ok (.aload_n 0, 1) from dk_at dq53_5 (i := 13) rfl) rfl rfl, ?_⟩
  refine List.forall_mem_cons.mpr ⟨ok_iload C (show decode cL_law 523 = .ok (.iload 4, 2) from dk_at dq53_5 (i := 14) rfl) rfl, ?_⟩
  refine List.forall_mem_cons.mpr ⟨ok_iconst C (show decode cL_law 525 = .ok (.iconst 2, 1) from dk_at dq53_5 (i := 15) rfl) (by decide) rfl, ?_⟩
  refine List.forall_mem_cons.mpr ⟨ok_iadd C (show decode cL_law 526 = .ok (.iadd, 1) from dk_at dq53_5 (i := 16) rfl) rfl, ?_⟩
  refine List.forall_mem_cons.mpr ⟨ok_sld C hX hb0 hb1 (show decode cL_law 527 = .ok (.iaload, 1) from dk_at dq53_5 (i := 17) rfl) rfl, ?_⟩
  refine List.forall_mem_cons.mpr ⟨ok_callV C h_X11_apart ⟨rfl, rfl⟩ rfl kw_1465 kw_1462 kw_1463 kw_1464 kw_11 rfl ds_X11_apart ⟨by decide, by decide⟩ (show decode cL_law 528 = .ok (.invokevirtual 59, 3) from dk_at dq53_5 (i := 18) rfl) rfl, ?_⟩
  refine List.forall_mem_cons.mpr ⟨ok_pop C (show decode cL_law 531 = .ok (.pop, 1) from dk_at dq53_5 (i := 19) rfl) rfl, ?_⟩
  refine List.forall_mem_cons.mpr ⟨ok_goto C (show decode cL_law 532 = .ok (.goto 936, 3) from dk_at dq53_5 (i := 20) rfl) (tg := 1468) (by decide) rfl, ?_⟩
  refine List.forall_mem_cons.mpr ⟨ok_aload_n C (show decode cL_law 535 = .ok (.aload_n 1, 1) from dk_at dq53_5 (i := 21) rfl) rfl rfl, ?_⟩
  refine List.forall_mem_cons.mpr ⟨ok_aload_n C (show decode cL_law 536 = .ok (.aload_n 0, 1) from dk_at dq53_5 (i := 22) rfl) rfl rfl, ?_⟩
  refine List.forall_mem_cons.mpr ⟨ok_iload C (show decode cL_law 537 = .ok (.iload 4, 2) from dk_at dq53_5 (i := 23) rfl) rfl, ?_⟩
  refine List.forall_mem_cons.mpr ⟨ok_iconst C (show decode cL_law 539 = .ok (.iconst 1, 1) from dk_at dq53_5 (i := 24) rfl) (by decide) rfl, ?_⟩
  refine List.forall_mem_cons.mpr ⟨ok_iadd C (show decode cL_law 540 = .ok (.iadd, 1) from dk_at dq53_5 (i := 25) rfl) rfl, ?_⟩
  refine List.forall_mem_cons.mpr ⟨ok_sld C hX hb0 hb1 (show decode cL_law 541 = .ok (.iaload, 1) from dk_at dq53_5 (i := 26) rfl) rfl, ?_⟩
  refine List.forall_mem_cons.mpr ⟨ok_callV C h_X10_now ⟨rfl, rfl⟩ rfl kw_640 kw_637 kw_638 kw_639 kw_1 rfl ds_X10_now ⟨by decide, by decide⟩ (show decode cL_law 542 = .ok (.invokevirtual 60, 3) from dk_at dq53_5 (i := 27) rfl) rfl, ?_⟩
  refine List.forall_mem_cons.mpr ⟨ok_pop C (show decode cL_law 545 = .ok (.pop, 1) from dk_at dq53_5 (i := 28) rfl) rfl, ?_⟩
  refine List.forall_mem_cons.mpr ⟨ok_aload_n C (show decode cL_law 546 = .ok (.aload_n 2, 1) from dk_at dq53_5 (i := 29) rfl) rfl rfl, ?_⟩
  refine List.forall_mem_cons.mpr ⟨ok_aload_n C (show decode cL_law 547 = .ok (.aload_n 0, 1) from dk_at dq53_5 (i := 30) rfl) rfl rfl, ?_⟩
  refine List.forall_mem_cons.mpr ⟨ok_iload C (show decode cL_law 548 = .ok (.iload 4, 2) from dk_at dq53_5 (i := 31) rfl) rfl, ?_⟩
  refine List.forall_mem_cons.mpr ⟨ok_iconst C (show decode cL_law 550 = .ok (.iconst 1, 1) from dk_at dq53_5 (i := 32) rfl) (by decide) rfl, ?_⟩
  refine List.forall_mem_cons.mpr ⟨ok_iadd C (show decode cL_law 551 = .ok (.iadd, 1) from dk_at dq53_5 (i := 33) rfl) rfl, ?_⟩
  refine List.forall_mem_cons.mpr ⟨ok_sld C hX hb0 hb1 (show decode cL_law 552 = .ok (.iaload, 1) from dk_at dq53_5 (i := 34) rfl) rfl, ?_⟩
  refine List.forall_mem_cons.mpr ⟨ok_callV C h_X11_now ⟨rfl, rfl⟩ rfl kw_1469 kw_1466 kw_1467 kw_1468 kw_11 rfl ds_X11_now ⟨by decide, by decide⟩ (show decode cL_law 553 = .ok (.invokevirtual 64, 3) from dk_at dq53_5 (i := 35) rfl) rfl, ?_⟩
  refine List.forall_mem_cons.mpr ⟨ok_pop C (show decode cL_law 556 = .ok (.pop, 1) from dk_at dq53_5 (i := 36) rfl) rfl, ?_⟩
  refine List.forall_mem_cons.mpr ⟨ok_goto C (show decode cL_law 557 = .ok (.goto 911, 3) from dk_at dq53_5 (i := 37) rfl) (tg := 1468) (by decide) rfl, ?_⟩
  refine List.forall_mem_cons.mpr ⟨ok_aload_n C (show decode cL_law 560 = .ok (.aload_n 1, 1) from dk_at dq53_5 (i := 38) rfl) rfl rfl, ?_⟩
  refine List.forall_mem_cons.mpr ⟨ok_aload_n C (show decode cL_law 561 = .ok (.aload_n 0, 1) from dk_at dq53_5 (i := 39) rfl) rfl rfl, ?_⟩
  refine List.forall_mem_cons.mpr ⟨ok_iload C (show decode cL_law 562 = .ok (.iload 4, 2) from dk_at dq53_5 (i := 40) rfl) rfl, ?_⟩
  refine List.forall_mem_cons.mpr ⟨ok_iconst C (show decode cL_law 564 = .ok (.iconst 1, 1) from dk_at dq53_5 (i := 41) rfl) (by decide) rfl, ?_⟩
  exact fun _ h => absurd h List.not_mem_nil
def L_law_3 (xs : Nat → Int32) (n : Nat) (f_X10_hoard : List Value → ab_H → Option ab_O) (f_X11_hoard : List Value → ab_H → Option ab_O) (f_X10_bare : List Value → ab_H → Option ab_O) (f_X11_bare : List Value → ab_H → Option ab_O) (f_X10_waste : List Value → ab_H → Option ab_O) : List (Nat × ab_A) := [
  (565, ab_nx 566 (ab_bin (fun x y => x + y))),
  (566, ab_nx 567 (ab_sld xs n)),
  (567, ab_nx 568 (ab_aload 0)),
  (568, ab_nx 570 (ab_iload 4)),
  (570, ab_nx 571 (ab_lit (.int 2))),
  (571, ab_nx 572 (ab_bin (fun x y => x + y))),
  (572, ab_nx 573 (ab_sld xs n)),
  (573, ab_nx 574 (ab_aload 0)),
  (574, ab_nx 576 (ab_iload 4)),
  (576, ab_nx 577 (ab_lit (.int 3))),
  (577, ab_nx 578 (ab_bin (fun x y => x + y))),
  (578, ab_nx 579 (ab_sld xs n)),
  (579, ab_nx 582 (ab_callV 4 10 f_X10_hoard 8 138 709736 6966897)),
  (582, ab_nx 583 ab_pop),
  (583, ab_nx 584 (ab_aload 2)),
  (584, ab_nx 585 (ab_aload 0)),
  (585, ab_nx 587 (ab_iload 4)),
  (587, ab_nx 588 (ab_lit (.int 1))),
  (588, ab_nx 589 (ab_bin (fun x y => x + y))),
  (589, ab_nx 590 (ab_sld xs n)),
  (590, ab_nx 591 (ab_aload 0)),
  (591, ab_nx 593 (ab_iload 4)),
  (593, ab_nx 594 (ab_lit (.int 2))),
  (594, ab_nx 595 (ab_bin (fun x y => x + y))),
  (595, ab_nx 596 (ab_sld xs n)),
  (596, ab_nx 597 (ab_aload 0)),
  (597, ab_nx 599 (ab_iload 4)),
  (599, ab_nx 600 (ab_lit (.int 3))),
  (600, ab_nx 601 (ab_bin (fun x y => x + y))),
  (601, ab_nx 602 (ab_sld xs n)),
  (602, ab_nx 605 (ab_callV 4 11 f_X11_hoard 0 0 709736 6966897)),
  (605, ab_nx 606 ab_pop),
  (606, ab_goto 1468),
  (609, ab_nx 610 (ab_aload 1)),
  (610, ab_nx 611 (ab_aload 0)),
  (611, ab_nx 613 (ab_iload 4)),
  (613, ab_nx 614 (ab_lit (.int 1))),
  (614, ab_nx 615 (ab_bin (fun x y => x + y))),
  (615, ab_nx 616 (ab_sld xs n)),
  (616, ab_nx 617 (ab_aload 0)),
  (617, ab_nx 619 (ab_iload 4)),
  (619, ab_nx 620 (ab_lit (.int 2))),
  (620, ab_nx 621 (ab_bin (fun x y => x + y))),
  (621, ab_nx 622 (ab_sld xs n)),
  (622, ab_nx 623 (ab_aload 0)),
  (623, ab_nx 625 (ab_iload 4)),
  (625, ab_nx 626 (ab_lit (.int 3))),
  (626, ab_nx 627 (ab_bin (fun x y => x + y))),
  (627, ab_nx 628 (ab_sld xs n)),
  (628, ab_nx 631 (ab_callV 4 10 f_X10_bare 8 138 709736 6966897)),
  (631, ab_nx 632 ab_pop),
  (632, ab_nx 633 (ab_aload 2)),
  (633, ab_nx 634 (ab_aload 0)),
  (634, ab_nx 636 (ab_iload 4)),
  (636, ab_nx 637 (ab_lit (.int 1))),
  (637, ab_nx 638 (ab_bin (fun x y => x + y))),
  (638, ab_nx 639 (ab_sld xs n)),
  (639, ab_nx 640 (ab_aload 0)),
  (640, ab_nx 642 (ab_iload 4)),
  (642, ab_nx 643 (ab_lit (.int 2))),
  (643, ab_nx 644 (ab_bin (fun x y => x + y))),
  (644, ab_nx 645 (ab_sld xs n)),
  (645, ab_nx 646 (ab_aload 0)),
  (646, ab_nx 648 (ab_iload 4)),
  (648, ab_nx 649 (ab_lit (.int 3))),
  (649, ab_nx 650 (ab_bin (fun x y => x + y))),
  (650, ab_nx 651 (ab_sld xs n)),
  (651, ab_nx 654 (ab_callV 4 11 f_X11_bare 0 0 709736 6966897)),
  (654, ab_nx 655 ab_pop),
  (655, ab_goto 1468),
  (658, ab_nx 659 (ab_aload 1)),
  (659, ab_nx 660 (ab_aload 0)),
  (660, ab_nx 662 (ab_iload 4)),
  (662, ab_nx 663 (ab_lit (.int 1))),
  (663, ab_nx 664 (ab_bin (fun x y => x + y))),
  (664, ab_nx 665 (ab_sld xs n)),
  (665, ab_nx 666 (ab_aload 0)),
  (666, ab_nx 668 (ab_iload 4)),
  (668, ab_nx 669 (ab_lit (.int 2))),
  (669, ab_nx 670 (ab_bin (fun x y => x + y))),
  (670, ab_nx 671 (ab_sld xs n)),
  (671, ab_nx 672 (ab_aload 0)),
  (672, ab_nx 674 (ab_iload 4)),
  (674, ab_nx 675 (ab_lit (.int 3))),
  (675, ab_nx 676 (ab_bin (fun x y => x + y))),
  (676, ab_nx 677 (ab_sld xs n)),
  (677, ab_nx 680 (ab_callV 4 10 f_X10_waste 8 138 709736 6966897)),
  (680, ab_nx 681 ab_pop),
  (681, ab_nx 682 (ab_aload 2)),
  (682, ab_nx 683 (ab_aload 0))]
set_option maxRecDepth 100000 in
theorem dq53_6 : ([(565, .iadd, 1), (566, .iaload, 1), (567, .aload_n 0, 1), (568, .iload 4, 2), (570, .iconst 2, 1), (571, .iadd, 1), (572, .iaload, 1), (573, .aload_n 0, 1), (574, .iload 4, 2), (576, .iconst 3, 1), (577, .iadd, 1), (578, .iaload, 1), (579, .invokevirtual 65, 3), (582, .pop, 1), (583, .aload_n 2, 1), (584, .aload_n 0, 1), (585, .iload 4, 2), (587, .iconst 1, 1), (588, .iadd, 1), (589, .iaload, 1), (590, .aload_n 0, 1), (591, .iload 4, 2), (593, .iconst 2, 1), (594, .iadd, 1), (595, .iaload, 1), (596, .aload_n 0, 1), (597, .iload 4, 2), (599, .iconst 3, 1), (600, .iadd, 1), (601, .iaload, 1), (602, .invokevirtual 68, 3), (605, .pop, 1), (606, .goto 862, 3), (609, .aload_n 1, 1), (610, .aload_n 0, 1), (611, .iload 4, 2), (613, .iconst 1, 1), (614, .iadd, 1), (615, .iaload, 1), (616, .aload_n 0, 1), (617, .iload 4, 2), (619, .iconst 2, 1), (620, .iadd, 1), (621, .iaload, 1), (622, .aload_n 0, 1), (623, .iload 4, 2), (625, .iconst 3, 1), (626, .iadd, 1)] : List (Nat × Instr × Nat)).all (fun q => decide (decode cL_law q.1 = .ok q.2)) = true := by decide +kernel
set_option maxRecDepth 100000 in
theorem dq53_7 : ([(627, .iaload, 1), (628, .invokevirtual 69, 3), (631, .pop, 1), (632, .aload_n 2, 1), (633, .aload_n 0, 1), (634, .iload 4, 2), (636, .iconst 1, 1), (637, .iadd, 1), (638, .iaload, 1), (639, .aload_n 0, 1), (640, .iload 4, 2), (642, .iconst 2, 1), (643, .iadd, 1), (644, .iaload, 1), (645, .aload_n 0, 1), (646, .iload 4, 2), (648, .iconst 3, 1), (649, .iadd, 1), (650, .iaload, 1), (651, .invokevirtual 72, 3), (654, .pop, 1), (655, .goto 813, 3), (658, .aload_n 1, 1), (659, .aload_n 0, 1), (660, .iload 4, 2), (662, .iconst 1, 1), (663, .iadd, 1), (664, .iaload, 1), (665, .aload_n 0, 1), (666, .iload 4, 2), (668, .iconst 2, 1), (669, .iadd, 1), (670, .iaload, 1), (671, .aload_n 0, 1), (672, .iload 4, 2), (674, .iconst 3, 1), (675, .iadd, 1), (676, .iaload, 1), (677, .invokevirtual 73, 3), (680, .pop, 1), (681, .aload_n 2, 1), (682, .aload_n 0, 1)] : List (Nat × Instr × Nat)).all (fun q => decide (decode cL_law q.1 = .ok q.2)) = true := by decide +kernel
set_option maxRecDepth 100000 in
set_option maxHeartbeats 4000000 in
theorem law_3 {p : Program} {l : Launch} {e : Env} {s : State} {m : MethodId} {below : List Frame} {meth : Method} {c : Code} {cd : Cond} {b : ab_B} {D : va_G} {cA : Nat → ClassId} {o : ab_O} {xs : Nat → Int32} {n bb : Nat} {nm : String} (C : ab_cx p l e room_1 s m #[Value.ref bb] below meth c D ab_cl cA (ab_E0 b) (⟨RL, nm, "([I)Z"⟩ : MethodName) cL_law 7 ret (cd :: ab_G) room_1) (hX : va_X bb n xs s s.heap) (hb0 : b.2 0 = bb) (hb1 : b.1 = s.heap.size ∧ bb < s.heap.size) {f_X10_hoard : List Value → ab_H → Option ab_O} (h_X10_hoard : ab_M l b D ab_cl cA (ab_E0 b) yX10_hoard (Cond.code yX10_hoard cX10_hoard 4 (some .int) :: ab_G) ({ frames := 5, cells := 8, slots := 138, locals := 500 } : Room) f_X10_hoard) {f_X11_hoard : List Value → ab_H → Option ab_O} (h_X11_hoard : ab_M l b D ab_cl cA (ab_E0 b) yX11_hoard (Cond.code yX11_hoard cX11_hoard 4 (some .int) :: ab_G) ({ frames := 4, cells := 0, slots := 0, locals := 400 } : Room) f_X11_hoard) {f_X10_bare : List Value → ab_H → Option ab_O} (h_X10_bare : ab_M l b D ab_cl cA (ab_E0 b) yX10_bare (Cond.code yX10_bare cX10_bare 4 (some .int) :: ab_G) ({ frames := 5, cells := 8, slots := 138, locals := 500 } : Room) f_X10_bare) {f_X11_bare : List Value → ab_H → Option ab_O} (h_X11_bare : ab_M l b D ab_cl cA (ab_E0 b) yX11_bare (Cond.code yX11_bare cX11_bare 5 (some .int) :: ab_G) ({ frames := 4, cells := 0, slots := 0, locals := 400 } : Room) f_X11_bare) {f_X10_waste : List Value → ab_H → Option ab_O} (h_X10_waste : ab_M l b D ab_cl cA (ab_E0 b) yX10_waste (Cond.code yX10_waste cX10_waste 4 (some .int) :: ab_G) ({ frames := 5, cells := 8, slots := 138, locals := 500 } : Room) f_X10_waste) : ∀ q ∈ L_law_3 xs n f_X10_hoard f_X11_hoard f_X10_bare f_X11_bare f_X10_waste, ab_ok p l e room_1 s m #[Value.ref bb] below meth c (lw_Z below #[Value.ref bb] s) b D ab_cl cA 7 o (fun i => i) q.1 q.2 := by
  unfold L_law_3
  refine List.forall_mem_cons.mpr ⟨ok_iadd C (show decode cL_law 565 = .ok (.iadd, 1) from dk_at dq53_6 (i := 0) rfl) rfl, ?_⟩
  refine List.forall_mem_cons.mpr ⟨ok_sld C hX hb0 hb1 (show decode cL_law 566 = .ok (.iaload, 1) from dk_at dq53_6 (i := 1) rfl) rfl, ?_⟩
  refine List.forall_mem_cons.mpr ⟨ok_aload_n C (show decode cL_law 567 = .ok (.aload_n 0, 1) from dk_at dq53_6 (i := 2) rfl) rfl rfl, ?_⟩
  refine List.forall_mem_cons.mpr ⟨ok_iload C (show decode cL_law 568 = .ok (.iload 4, 2) from dk_at dq53_6 (i := 3) rfl) rfl, ?_⟩
  refine List.forall_mem_cons.mpr ⟨ok_iconst C (show decode cL_law 570 = .ok (.iconst 2, 1) from dk_at dq53_6 (i := 4) rfl) (by decide) rfl, ?_⟩
  refine List.forall_mem_cons.mpr ⟨ok_iadd C (show decode cL_law 571 = .ok (.iadd, 1) from dk_at dq53_6 (i := 5) rfl) rfl, ?_⟩
  refine List.forall_mem_cons.mpr ⟨ok_sld C hX hb0 hb1 (show decode cL_law 572 = .ok (.iaload, 1) from dk_at dq53_6 (i := 6) rfl) rfl, ?_⟩
  refine List.forall_mem_cons.mpr ⟨ok_aload_n C (show decode cL_law 573 = .ok (.aload_n 0, 1) from dk_at dq53_6 (i := 7) rfl) rfl rfl, ?_⟩
  refine List.forall_mem_cons.mpr ⟨ok_iload C (show decode cL_law 574 = .ok (.iload 4, 2) from dk_at dq53_6 (i := 8) rfl) rfl, ?_⟩
  refine List.forall_mem_cons.mpr ⟨ok_iconst C (show decode cL_law 576 = .ok (.iconst 3, 1) from dk_at dq53_6 (i := 9) rfl) (by decide) rfl, ?_⟩
  refine List.forall_mem_cons.mpr ⟨ok_iadd C (show decode cL_law 577 = .ok (.iadd, 1) from dk_at dq53_6 (i := 10) rfl) rfl, ?_⟩
  refine List.forall_mem_cons.mpr ⟨ok_sld C hX hb0 hb1 (show decode cL_law 578 = .ok (.iaload, 1) from dk_at dq53_6 (i := 11) rfl) rfl, ?_⟩
  refine List.forall_mem_cons.mpr ⟨ok_callV C h_X10_hoard ⟨rfl, rfl⟩ rfl kw_700 kw_697 kw_698 kw_699 kw_1 rfl ds_X10_hoard ⟨by decide, by decide⟩ (show decode cL_law 579 = .ok (.invokevirtual 65, 3) from dk_at dq53_6 (i := 12) rfl) rfl, ?_⟩
  refine List.forall_mem_cons.mpr ⟨ok_pop C (show decode cL_law 582 = .ok (.pop, 1) from dk_at dq53_6 (i := 13) rfl) rfl, ?_⟩
  refine List.forall_mem_cons.mpr ⟨ok_aload_n C (show decode cL_law 583 = .ok (.aload_n 2, 1) from dk_at dq53_6 (i := 14) rfl) rfl rfl, ?_⟩
  refine List.forall_mem_cons.mpr ⟨ok_aload_n C (show decode cL_law 584 = .ok (.aload_n 0, 1) from dk_at dq53_6 (i := 15) rfl) rfl rfl, ?_⟩
  refine List.forall_mem_cons.mpr ⟨ok_iload C (show decode cL_law 585 = .ok (.iload 4, 2) from dk_at dq53_6 (i := 16) rfl) rfl, ?_⟩
  refine List.forall_mem_cons.mpr ⟨ok_iconst C (show decode cL_law 587 = .ok (.iconst 1, 1) from dk_at dq53_6 (i := 17) rfl) (by decide) rfl, ?_⟩
  refine List.forall_mem_cons.mpr ⟨ok_iadd C (show decode cL_law 588 = .ok (.iadd, 1) from dk_at dq53_6 (i := 18) rfl) rfl, ?_⟩
  refine List.forall_mem_cons.mpr ⟨ok_sld C hX hb0 hb1 (show decode cL_law 589 = .ok (.iaload, 1) from dk_at dq53_6 (i := 19) rfl) rfl, ?_⟩
  refine List.forall_mem_cons.mpr ⟨ok_aload_n C (show decode cL_law 590 = .ok (.aload_n 0, 1) from dk_at dq53_6 (i := 20) rfl) rfl rfl, ?_⟩
  refine List.forall_mem_cons.mpr ⟨ok_iload C (show decode cL_law 591 = .ok (.iload 4, 2) from dk_at dq53_6 (i := 21) rfl) rfl, ?_⟩
  refine List.forall_mem_cons.mpr ⟨ok_iconst C (show decode cL_law 593 = .ok (.iconst 2, 1) from dk_at dq53_6 (i := 22) rfl) (by decide) rfl, ?_⟩
  refine List.forall_mem_cons.mpr ⟨ok_iadd C (show decode cL_law 594 = .ok (.iadd, 1) from dk_at dq53_6 (i := 23) rfl) rfl, ?_⟩
  refine List.forall_mem_cons.mpr ⟨ok_sld C hX hb0 hb1 (show decode cL_law 595 = .ok (.iaload, 1) from dk_at dq53_6 (i := 24) rfl) rfl, ?_⟩
  refine List.forall_mem_cons.mpr ⟨ok_aload_n C (show decode cL_law 596 = .ok (.aload_n 0, 1) from dk_at dq53_6 (i := 25) rfl) rfl rfl, ?_⟩
  refine List.forall_mem_cons.mpr ⟨ok_iload C (show decode cL_law 597 = .ok (.iload 4, 2) from dk_at dq53_6 (i := 26) rfl) rfl, ?_⟩
  refine List.forall_mem_cons.mpr ⟨ok_iconst C (show decode cL_law 599 = .ok (.iconst 3, 1) from dk_at dq53_6 (i := 27) rfl) (by decide) rfl, ?_⟩
  refine List.forall_mem_cons.mpr ⟨ok_iadd C (show decode cL_law 600 = .ok (.iadd, 1) from dk_at dq53_6 (i := 28) rfl) rfl, ?_⟩
  refine List.forall_mem_cons.mpr ⟨ok_sld C hX hb0 hb1 (show decode cL_law 601 = .ok (.iaload, 1) from dk_at dq53_6 (i := 29) rfl) rfl, ?_⟩
  refine List.forall_mem_cons.mpr ⟨ok_callV C h_X11_hoard ⟨rfl, rfl⟩ rfl kw_1477 kw_1474 kw_1475 kw_1476 kw_11 rfl ds_X11_hoard ⟨by decide, by decide⟩ (show decode cL_law 602 = .ok (.invokevirtual 68, 3) from dk_at dq53_6 (i := 30) rfl) rfl, ?_⟩
  refine List.forall_mem_cons.mpr ⟨ok_pop C (show decode cL_law 605 = .ok (.pop, 1) from dk_at dq53_6 (i := 31) rfl) rfl, ?_⟩
  refine List.forall_mem_cons.mpr ⟨ok_goto C (show decode cL_law 606 = .ok (.goto 862, 3) from dk_at dq53_6 (i := 32) rfl) (tg := 1468) (by decide) rfl, ?_⟩
  refine List.forall_mem_cons.mpr ⟨ok_aload_n C (show decode cL_law 609 = .ok (.aload_n 1, 1) from dk_at dq53_6 (i := 33) rfl) rfl rfl, ?_⟩
  refine List.forall_mem_cons.mpr ⟨ok_aload_n C (show decode cL_law 610 = .ok (.aload_n 0, 1) from dk_at dq53_6 (i := 34) rfl) rfl rfl, ?_⟩
  refine List.forall_mem_cons.mpr ⟨ok_iload C (show decode cL_law 611 = .ok (.iload 4, 2) from dk_at dq53_6 (i := 35) rfl) rfl, ?_⟩
  refine List.forall_mem_cons.mpr ⟨ok_iconst C (show decode cL_law 613 = .ok (.iconst 1, 1) from dk_at dq53_6 (i := 36) rfl) (by decide) rfl, ?_⟩
  refine List.forall_mem_cons.mpr ⟨ok_iadd C (show decode cL_law 614 = .ok (.iadd, 1) from dk_at dq53_6 (i := 37) rfl) rfl, ?_⟩
  refine List.forall_mem_cons.mpr ⟨ok_sld C hX hb0 hb1 (show decode cL_law 615 = .ok (.iaload, 1) from dk_at dq53_6 (i := 38) rfl) rfl, ?_⟩
  refine List.forall_mem_cons.mpr ⟨ok_aload_n C (show decode cL_law 616 = .ok (.aload_n 0, 1) from dk_at dq53_6 (i := 39) rfl) rfl rfl, ?_⟩
  refine List.forall_mem_cons.mpr ⟨ok_iload C (show decode cL_law 617 = .ok (.iload 4, 2) from dk_at dq53_6 (i := 40) rfl) rfl, ?_⟩
  refine List.forall_mem_cons.mpr ⟨ok_iconst C (show decode cL_law 619 = .ok (.iconst 2, 1) from dk_at dq53_6 (i := 41) rfl) (by decide) rfl, ?_⟩
  refine List.forall_mem_cons.mpr ⟨ok_iadd C (show decode cL_law 620 = .ok (.iadd, 1) from dk_at dq53_6 (i := 42) rfl) rfl, ?_⟩
  refine List.forall_mem_cons.mpr ⟨ok_sld C hX hb0 hb1 (show decode cL_law 621 = .ok (.iaload, 1) from dk_at dq53_6 (i := 43) rfl) rfl, ?_⟩
  refine List.forall_mem_cons.mpr ⟨ok_aload_n C (show decode cL_law 622 = .ok (.aload_n 0, 1) from dk_at dq53_6 (i := 44) rfl) rfl rfl, ?_⟩
  refine List.forall_mem_cons.mpr ⟨ok_iload C (show decode cL_law 623 = .ok (.iload 4, 2) from dk_at dq53_6 (i := 45) rfl) rfl, ?_⟩
  refine List.forall_mem_cons.mpr ⟨ok_iconst C (show decode cL_law 625 = .ok (.iconst 3, 1) from dk_at dq53_6 (i := 46) rfl) (by decide) rfl, ?_⟩
  refine List.forall_mem_cons.mpr ⟨ok_iadd C (show decode cL_law 626 = .ok (.iadd, 1) from dk_at dq53_6 (i := 47) rfl) rfl, ?_⟩
  refine List.forall_mem_cons.mpr ⟨ok_sld C hX hb0 hb1 (show decode cL_law 627 = .ok (.iaload, 1) from dk_at dq53_7 (i := 0) rfl) rfl, ?_⟩
  refine List.forall_mem_cons.mpr ⟨ok_callV C h_X10_bare ⟨rfl, rfl⟩ rfl kw_735 kw_732 kw_733 kw_734 kw_1 rfl ds_X10_bare ⟨by decide, by decide⟩ (show decode cL_law 628 = .ok (.invokevirtual 69, 3) from dk_at dq53_7 (i := 1) rfl) rfl, ?_⟩
  refine List.forall_mem_cons.mpr ⟨ok_pop C (show decode cL_law 631 = .ok (.pop, 1) from dk_at dq53_7 (i := 2) rfl) rfl, ?_⟩
  refine List.forall_mem_cons.mpr ⟨ok_aload_n C (show decode cL_law 632 = .ok (.aload_n 2, 1) from dk_at dq53_7 (i := 3) rfl) rfl rfl, ?_⟩
  refine List.forall_mem_cons.mpr ⟨ok_aload_n C (show decode cL_law 633 = .ok (.aload_n 0, 1) from dk_at dq53_7 (i := 4) rfl) rfl rfl, ?_⟩
  refine List.forall_mem_cons.mpr ⟨ok_iload C (show decode cL_law 634 = .ok (.iload 4, 2) from dk_at dq53_7 (i := 5) rfl) rfl, ?_⟩
  refine List.forall_mem_cons.mpr ⟨ok_iconst C (show decode cL_law 636 = .ok (.iconst 1, 1) from dk_at dq53_7 (i := 6) rfl) (by decide) rfl, ?_⟩
  refine List.forall_mem_cons.mpr ⟨ok_iadd C (show decode cL_law 637 = .ok (.iadd, 1) from dk_at dq53_7 (i := 7) rfl) rfl, ?_⟩
  refine List.forall_mem_cons.mpr ⟨ok_sld C hX hb0 hb1 (show decode cL_law 638 = .ok (.iaload, 1) from dk_at dq53_7 (i := 8) rfl) rfl, ?_⟩
  refine List.forall_mem_cons.mpr ⟨ok_aload_n C (show decode cL_law 639 = .ok (.aload_n 0, 1) from dk_at dq53_7 (i := 9) rfl) rfl rfl, ?_⟩
  refine List.forall_mem_cons.mpr ⟨ok_iload C (show decode cL_law 640 = .ok (.iload 4, 2) from dk_at dq53_7 (i := 10) rfl) rfl, ?_⟩
  refine List.forall_mem_cons.mpr ⟨ok_iconst C (show decode cL_law 642 = .ok (.iconst 2, 1) from dk_at dq53_7 (i := 11) rfl) (by decide) rfl, ?_⟩
  refine List.forall_mem_cons.mpr ⟨ok_iadd C (show decode cL_law 643 = .ok (.iadd, 1) from dk_at dq53_7 (i := 12) rfl) rfl, ?_⟩
  refine List.forall_mem_cons.mpr ⟨ok_sld C hX hb0 hb1 (show decode cL_law 644 = .ok (.iaload, 1) from dk_at dq53_7 (i := 13) rfl) rfl, ?_⟩
  refine List.forall_mem_cons.mpr ⟨ok_aload_n C (show decode cL_law 645 = .ok (.aload_n 0, 1) from dk_at dq53_7 (i := 14) rfl) rfl rfl, ?_⟩
  refine List.forall_mem_cons.mpr ⟨ok_iload C (show decode cL_law 646 = .ok (.iload 4, 2) from dk_at dq53_7 (i := 15) rfl) rfl, ?_⟩
  refine List.forall_mem_cons.mpr ⟨ok_iconst C (show decode cL_law 648 = .ok (.iconst 3, 1) from dk_at dq53_7 (i := 16) rfl) (by decide) rfl, ?_⟩
  refine List.forall_mem_cons.mpr ⟨ok_iadd C (show decode cL_law 649 = .ok (.iadd, 1) from dk_at dq53_7 (i := 17) rfl) rfl, ?_⟩
  refine List.forall_mem_cons.mpr ⟨ok_sld C hX hb0 hb1 (show decode cL_law 650 = .ok (.iaload, 1) from dk_at dq53_7 (i := 18) rfl) rfl, ?_⟩
  refine List.forall_mem_cons.mpr ⟨ok_callV C h_X11_bare ⟨rfl, rfl⟩ rfl kw_1493 kw_1490 kw_1491 kw_1492 kw_11 rfl ds_X11_bare ⟨by decide, by decide⟩ (show decode cL_law 651 = .ok (.invokevirtual 72, 3) from dk_at dq53_7 (i := 19) rfl) rfl, ?_⟩
  refine List.forall_mem_cons.mpr ⟨ok_pop C (show decode cL_law 654 = .ok (.pop, 1) from dk_at dq53_7 (i := 20) rfl) rfl, ?_⟩
  refine List.forall_mem_cons.mpr ⟨ok_goto C (show decode cL_law 655 = .ok (.goto 813, 3) from dk_at dq53_7 (i := 21) rfl) (tg := 1468) (by decide) rfl, ?_⟩
  refine List.forall_mem_cons.mpr ⟨ok_aload_n C (show decode cL_law 658 = .ok (.aload_n 1, 1) from dk_at dq53_7 (i := 22) rfl) rfl rfl, ?_⟩
  refine List.forall_mem_cons.mpr ⟨ok_aload_n C (show decode cL_law 659 = .ok (.aload_n 0, 1) from dk_at dq53_7 (i := 23) rfl) rfl rfl, ?_⟩
  refine List.forall_mem_cons.mpr ⟨ok_iload C (show decode cL_law 660 = .ok (.iload 4, 2) from dk_at dq53_7 (i := 24) rfl) rfl, ?_⟩
  refine List.forall_mem_cons.mpr ⟨ok_iconst C (show decode cL_law 662 = .ok (.iconst 1, 1) from dk_at dq53_7 (i := 25) rfl) (by decide) rfl, ?_⟩
  refine List.forall_mem_cons.mpr ⟨ok_iadd C (show decode cL_law 663 = .ok (.iadd, 1) from dk_at dq53_7 (i := 26) rfl) rfl, ?_⟩
  refine List.forall_mem_cons.mpr ⟨ok_sld C hX hb0 hb1 (show decode cL_law 664 = .ok (.iaload, 1) from dk_at dq53_7 (i := 27) rfl) rfl, ?_⟩
  refine List.forall_mem_cons.mpr ⟨ok_aload_n C (show decode cL_law 665 = .ok (.aload_n 0, 1) from dk_at dq53_7 (i := 28) rfl) rfl rfl, ?_⟩
  refine List.forall_mem_cons.mpr ⟨ok_iload C (show decode cL_law 666 = .ok (.iload 4, 2) from dk_at dq53_7 (i := 29) rfl) rfl, ?_⟩
  refine List.forall_mem_cons.mpr ⟨ok_iconst C (show decode cL_law 668 = .ok (.iconst 2, 1) from dk_at dq53_7 (i := 30) rfl) (by decide) rfl, ?_⟩
  refine List.forall_mem_cons.mpr ⟨ok_iadd C (show decode cL_law 669 = .ok (.iadd, 1) from dk_at dq53_7 (i := 31) rfl) rfl, ?_⟩
  refine List.forall_mem_cons.mpr ⟨ok_sld C hX hb0 hb1 (show decode cL_law 670 = .ok (.iaload, 1) from dk_at dq53_7 (i := 32) rfl) rfl, ?_⟩
  refine List.forall_mem_cons.mpr ⟨ok_aload_n C (show decode cL_law 671 = .ok (.aload_n 0, 1) from dk_at dq53_7 (i := 33) rfl) rfl rfl, ?_⟩
  refine List.forall_mem_cons.mpr ⟨ok_iload C (show decode cL_law 672 = .ok (.iload 4, 2) from dk_at dq53_7 (i := 34) rfl) rfl, ?_⟩
  refine List.forall_mem_cons.mpr ⟨ok_iconst C (show decode cL_law 674 = .ok (.iconst 3, 1) from dk_at dq53_7 (i := 35) rfl) (by decide) rfl, ?_⟩
  refine List.forall_mem_cons.mpr ⟨ok_iadd C (show decode cL_law 675 = .ok (.iadd, 1) from dk_at dq53_7 (i := 36) rfl) rfl, ?_⟩
  refine List.forall_mem_cons.mpr ⟨ok_sld C hX hb0 hb1 (show decode cL_law 676 = .ok (.iaload, 1) from dk_at dq53_7 (i := 37) rfl) rfl, ?_⟩
  refine List.forall_mem_cons.mpr ⟨ok_callV C h_X10_waste ⟨rfl, rfl⟩ rfl kw_739 kw_736 kw_737 kw_738 kw_1 rfl ds_X10_waste ⟨by decide, by decide⟩ (show decode cL_law 677 = .ok (.invokevirtual 73, 3) from dk_at dq53_7 (i := 38) rfl) rfl, ?_⟩
  refine List.forall_mem_cons.mpr ⟨ok_pop C (show decode cL_law 680 = .ok (.pop, 1) from dk_at dq53_7 (i := 39) rfl) rfl, ?_⟩
  refine List.forall_mem_cons.mpr ⟨ok_aload_n C (show decode cL_law 681 = .ok (.aload_n 2, 1) from dk_at dq53_7 (i := 40) rfl) rfl rfl, ?_⟩
  refine List.forall_mem_cons.mpr ⟨ok_aload_n C (show decode cL_law 682 = .ok (.aload_n 0, 1) from dk_at dq53_7 (i := 41) rfl) rfl rfl, ?_⟩
  exact fun _ h => absurd h List.not_mem_nil
def L_law_4 (xs : Nat → Int32) (n : Nat) (f_X11_waste : List Value → ab_H → Option ab_O) (f_X10_die : List Value → ab_H → Option ab_O) (f_X11_die : List Value → ab_H → Option ab_O) (f_X10_days : List Value → ab_H → Option ab_O) (f_X11_days : List Value → ab_H → Option ab_O) (f_X10_undo : List Value → ab_H → Option ab_O) (f_X11_undo : List Value → ab_H → Option ab_O) (f_X10_lacks : List Value → ab_H → Option ab_O) (f_X11_lacks : List Value → ab_H → Option ab_O) (f_X10_falses : List Value → ab_H → Option ab_O) (f_X11_falses : List Value → ab_H → Option ab_O) : List (Nat × ab_A) := [
  (683, ab_nx 685 (ab_iload 4)),
  (685, ab_nx 686 (ab_lit (.int 1))),
  (686, ab_nx 687 (ab_bin (fun x y => x + y))),
  (687, ab_nx 688 (ab_sld xs n)),
  (688, ab_nx 689 (ab_aload 0)),
  (689, ab_nx 691 (ab_iload 4)),
  (691, ab_nx 692 (ab_lit (.int 2))),
  (692, ab_nx 693 (ab_bin (fun x y => x + y))),
  (693, ab_nx 694 (ab_sld xs n)),
  (694, ab_nx 695 (ab_aload 0)),
  (695, ab_nx 697 (ab_iload 4)),
  (697, ab_nx 698 (ab_lit (.int 3))),
  (698, ab_nx 699 (ab_bin (fun x y => x + y))),
  (699, ab_nx 700 (ab_sld xs n)),
  (700, ab_nx 703 (ab_callV 4 11 f_X11_waste 0 0 709736 6966897)),
  (703, ab_nx 704 ab_pop),
  (704, ab_goto 1468),
  (707, ab_nx 708 (ab_aload 1)),
  (708, ab_nx 709 (ab_aload 0)),
  (709, ab_nx 711 (ab_iload 4)),
  (711, ab_nx 712 (ab_lit (.int 1))),
  (712, ab_nx 713 (ab_bin (fun x y => x + y))),
  (713, ab_nx 714 (ab_sld xs n)),
  (714, ab_nx 717 (ab_callV 2 10 f_X10_die 8 138 709736 6966897)),
  (717, ab_nx 718 ab_pop),
  (718, ab_nx 719 (ab_aload 2)),
  (719, ab_nx 720 (ab_aload 0)),
  (720, ab_nx 722 (ab_iload 4)),
  (722, ab_nx 723 (ab_lit (.int 1))),
  (723, ab_nx 724 (ab_bin (fun x y => x + y))),
  (724, ab_nx 725 (ab_sld xs n)),
  (725, ab_nx 728 (ab_callV 2 11 f_X11_die 0 0 709736 6966897)),
  (728, ab_nx 729 ab_pop),
  (729, ab_goto 1468),
  (732, ab_nx 733 (ab_aload 1)),
  (733, ab_nx 734 (ab_aload 0)),
  (734, ab_nx 736 (ab_iload 4)),
  (736, ab_nx 737 (ab_lit (.int 1))),
  (737, ab_nx 738 (ab_bin (fun x y => x + y))),
  (738, ab_nx 739 (ab_sld xs n)),
  (739, ab_nx 742 (ab_callV 2 10 f_X10_days 8 138 709736 6966897)),
  (742, ab_nx 743 ab_pop),
  (743, ab_nx 744 (ab_aload 2)),
  (744, ab_nx 745 (ab_aload 0)),
  (745, ab_nx 747 (ab_iload 4)),
  (747, ab_nx 748 (ab_lit (.int 1))),
  (748, ab_nx 749 (ab_bin (fun x y => x + y))),
  (749, ab_nx 750 (ab_sld xs n)),
  (750, ab_nx 753 (ab_callV 2 11 f_X11_days 0 0 709736 6966897)),
  (753, ab_nx 754 ab_pop),
  (754, ab_goto 1468),
  (757, ab_nx 758 (ab_aload 1)),
  (758, ab_nx 761 (ab_callV 1 10 f_X10_undo 0 0 709736 6966897)),
  (761, ab_nx 762 ab_pop),
  (762, ab_nx 763 (ab_aload 2)),
  (763, ab_nx 766 (ab_callV 1 11 f_X11_undo 0 0 709736 6966897)),
  (766, ab_nx 767 ab_pop),
  (767, ab_goto 1468),
  (770, ab_nx 771 (ab_aload 1)),
  (771, ab_nx 772 (ab_aload 0)),
  (772, ab_nx 774 (ab_iload 4)),
  (774, ab_nx 775 (ab_lit (.int 1))),
  (775, ab_nx 776 (ab_bin (fun x y => x + y))),
  (776, ab_nx 777 (ab_sld xs n)),
  (777, ab_nx 780 (ab_callV 2 10 f_X10_lacks 0 0 709736 6966897)),
  (780, ab_nx 781 ab_pop),
  (781, ab_nx 782 (ab_aload 2)),
  (782, ab_nx 783 (ab_aload 0)),
  (783, ab_nx 785 (ab_iload 4)),
  (785, ab_nx 786 (ab_lit (.int 1))),
  (786, ab_nx 787 (ab_bin (fun x y => x + y))),
  (787, ab_nx 788 (ab_sld xs n)),
  (788, ab_nx 791 (ab_callV 2 11 f_X11_lacks 0 0 709736 6966897)),
  (791, ab_nx 792 ab_pop),
  (792, ab_goto 1468),
  (795, ab_nx 796 (ab_aload 1)),
  (796, ab_nx 797 (ab_aload 0)),
  (797, ab_nx 799 (ab_iload 4)),
  (799, ab_nx 800 (ab_lit (.int 1))),
  (800, ab_nx 801 (ab_bin (fun x y => x + y))),
  (801, ab_nx 802 (ab_sld xs n)),
  (802, ab_nx 805 (ab_callV 2 10 f_X10_falses 0 0 709736 6966897)),
  (805, ab_nx 806 ab_pop),
  (806, ab_nx 807 (ab_aload 2)),
  (807, ab_nx 808 (ab_aload 0)),
  (808, ab_nx 810 (ab_iload 4)),
  (810, ab_nx 811 (ab_lit (.int 1))),
  (811, ab_nx 812 (ab_bin (fun x y => x + y))),
  (812, ab_nx 813 (ab_sld xs n)),
  (813, ab_nx 816 (ab_callV 2 11 f_X11_falses 0 0 709736 6966897))]
set_option maxRecDepth 100000 in
theorem dq53_8 : ([(683, .iload 4, 2), (685, .iconst 1, 1), (686, .iadd, 1), (687, .iaload, 1), (688, .aload_n 0, 1), (689, .iload 4, 2), (691, .iconst 2, 1), (692, .iadd, 1), (693, .iaload, 1), (694, .aload_n 0, 1), (695, .iload 4, 2), (697, .iconst 3, 1), (698, .iadd, 1), (699, .iaload, 1), (700, .invokevirtual 76, 3), (703, .pop, 1), (704, .goto 764, 3), (707, .aload_n 1, 1), (708, .aload_n 0, 1), (709, .iload 4, 2), (711, .iconst 1, 1), (712, .iadd, 1), (713, .iaload, 1), (714, .invokevirtual 77, 3), (717, .pop, 1), (718, .aload_n 2, 1), (719, .aload_n 0, 1), (720, .iload 4, 2), (722, .iconst 1, 1), (723, .iadd, 1), (724, .iaload, 1), (725, .invokevirtual 80, 3), (728, .pop, 1), (729, .goto 739, 3), (732, .aload_n 1, 1), (733, .aload_n 0, 1), (734, .iload 4, 2), (736, .iconst 1, 1), (737, .iadd, 1), (738, .iaload, 1), (739, .invokevirtual 81, 3), (742, .pop, 1), (743, .aload_n 2, 1), (744, .aload_n 0, 1), (745, .iload 4, 2), (747, .iconst 1, 1), (748, .iadd, 1), (749, .iaload, 1)] : List (Nat × Instr × Nat)).all (fun q => decide (decode cL_law q.1 = .ok q.2)) = true := by decide +kernel
set_option maxRecDepth 100000 in
theorem dq53_9 : ([(750, .invokevirtual 84, 3), (753, .pop, 1), (754, .goto 714, 3), (757, .aload_n 1, 1), (758, .invokevirtual 85, 3), (761, .pop, 1), (762, .aload_n 2, 1), (763, .invokevirtual 88, 3), (766, .pop, 1), (767, .goto 701, 3), (770, .aload_n 1, 1), (771, .aload_n 0, 1), (772, .iload 4, 2), (774, .iconst 1, 1), (775, .iadd, 1), (776, .iaload, 1), (777, .invokevirtual 89, 3), (780, .pop, 1), (781, .aload_n 2, 1), (782, .aload_n 0, 1), (783, .iload 4, 2), (785, .iconst 1, 1), (786, .iadd, 1), (787, .iaload, 1), (788, .invokevirtual 92, 3), (791, .pop, 1), (792, .goto 676, 3), (795, .aload_n 1, 1), (796, .aload_n 0, 1), (797, .iload 4, 2), (799, .iconst 1, 1), (800, .iadd, 1), (801, .iaload, 1), (802, .invokevirtual 93, 3), (805, .pop, 1), (806, .aload_n 2, 1), (807, .aload_n 0, 1), (808, .iload 4, 2), (810, .iconst 1, 1), (811, .iadd, 1), (812, .iaload, 1), (813, .invokevirtual 96, 3)] : List (Nat × Instr × Nat)).all (fun q => decide (decode cL_law q.1 = .ok q.2)) = true := by decide +kernel
set_option maxRecDepth 100000 in
set_option maxHeartbeats 4000000 in
theorem law_4 {p : Program} {l : Launch} {e : Env} {s : State} {m : MethodId} {below : List Frame} {meth : Method} {c : Code} {cd : Cond} {b : ab_B} {D : va_G} {cA : Nat → ClassId} {o : ab_O} {xs : Nat → Int32} {n bb : Nat} {nm : String} (C : ab_cx p l e room_1 s m #[Value.ref bb] below meth c D ab_cl cA (ab_E0 b) (⟨RL, nm, "([I)Z"⟩ : MethodName) cL_law 7 ret (cd :: ab_G) room_1) (hX : va_X bb n xs s s.heap) (hb0 : b.2 0 = bb) (hb1 : b.1 = s.heap.size ∧ bb < s.heap.size) {f_X11_waste : List Value → ab_H → Option ab_O} (h_X11_waste : ab_M l b D ab_cl cA (ab_E0 b) yX11_waste (Cond.code yX11_waste cX11_waste 4 (some .int) :: ab_G) ({ frames := 4, cells := 0, slots := 0, locals := 400 } : Room) f_X11_waste) {f_X10_die : List Value → ab_H → Option ab_O} (h_X10_die : ab_M l b D ab_cl cA (ab_E0 b) yX10_die (Cond.code yX10_die cX10_die 3 (some .int) :: ab_G) ({ frames := 4, cells := 8, slots := 138, locals := 400 } : Room) f_X10_die) {f_X11_die : List Value → ab_H → Option ab_O} (h_X11_die : ab_M l b D ab_cl cA (ab_E0 b) yX11_die (Cond.code yX11_die cX11_die 2 (some .int) :: ab_G) ({ frames := 3, cells := 0, slots := 0, locals := 300 } : Room) f_X11_die) {f_X10_days : List Value → ab_H → Option ab_O} (h_X10_days : ab_M l b D ab_cl cA (ab_E0 b) yX10_days (Cond.code yX10_days cX10_days 2 (some .int) :: ab_G) ({ frames := 6, cells := 8, slots := 138, locals := 600 } : Room) f_X10_days) {f_X11_days : List Value → ab_H → Option ab_O} (h_X11_days : ab_M l b D ab_cl cA (ab_E0 b) yX11_days (Cond.code yX11_days cX11_days 2 (some .int) :: ab_G) ({ frames := 9, cells := 0, slots := 0, locals := 900 } : Room) f_X11_days) {f_X10_undo : List Value → ab_H → Option ab_O} (h_X10_undo : ab_M l b D ab_cl cA (ab_E0 b) yX10_undo (Cond.code yX10_undo cX10_undo 1 (some .int) :: ab_G) ({ frames := 4, cells := 0, slots := 0, locals := 400 } : Room) f_X10_undo) {f_X11_undo : List Value → ab_H → Option ab_O} (h_X11_undo : ab_M l b D ab_cl cA (ab_E0 b) yX11_undo (Cond.code yX11_undo cX11_undo 2 (some .int) :: ab_G) ({ frames := 1, cells := 0, slots := 0, locals := 100 } : Room) f_X11_undo) {f_X10_lacks : List Value → ab_H → Option ab_O} (h_X10_lacks : ab_M l b D ab_cl cA (ab_E0 b) yX10_lacks (Cond.code yX10_lacks cX10_lacks 4 (some .int) :: ab_G) ({ frames := 3, cells := 0, slots := 0, locals := 300 } : Room) f_X10_lacks) {f_X11_lacks : List Value → ab_H → Option ab_O} (h_X11_lacks : ab_M l b D ab_cl cA (ab_E0 b) yX11_lacks (Cond.code yX11_lacks cX11_lacks 4 (some .int) :: ab_G) ({ frames := 3, cells := 0, slots := 0, locals := 300 } : Room) f_X11_lacks) {f_X10_falses : List Value → ab_H → Option ab_O} (h_X10_falses : ab_M l b D ab_cl cA (ab_E0 b) yX10_falses (Cond.code yX10_falses cX10_falses 4 (some .int) :: ab_G) ({ frames := 3, cells := 0, slots := 0, locals := 300 } : Room) f_X10_falses) {f_X11_falses : List Value → ab_H → Option ab_O} (h_X11_falses : ab_M l b D ab_cl cA (ab_E0 b) yX11_falses (Cond.code yX11_falses cX11_falses 4 (some .int) :: ab_G) ({ frames := 4, cells := 0, slots := 0, locals := 400 } : Room) f_X11_falses) : ∀ q ∈ L_law_4 xs n f_X11_waste f_X10_die f_X11_die f_X10_days f_X11_days f_X10_undo f_X11_undo f_X10_lacks f_X11_lacks f_X10_falses f_X11_falses, ab_ok p l e room_1 s m #[Value.ref bb] below meth c (lw_Z below #[Value.ref bb] s) b D ab_cl cA 7 o (fun i => i) q.1 q.2 := by
  unfold L_law_4
  refine List.forall_mem_cons.mpr ⟨ok_iload C (show decode cL_law 683 = .ok (.iload 4, 2) from dk_at dq53_8 (i := 0) rfl) rfl, ?_⟩
  refine List.forall_mem_cons.mpr ⟨ok_iconst C (show decode cL_law 685 = .ok (.iconst 1, 1) from dk_at dq53_8 (i := 1) rfl) (by decide) rfl, ?_⟩
  refine List.forall_mem_cons.mpr ⟨ok_iadd C (show decode cL_law 686 = .ok (.iadd, 1) from dk_at dq53_8 (i := 2) rfl) rfl, ?_⟩
  refine List.forall_mem_cons.mpr ⟨ok_sld C hX hb0 hb1 (show decode cL_law 687 = .ok (.iaload, 1) from dk_at dq53_8 (i := 3) rfl) rfl, ?_⟩
  refine List.forall_mem_cons.mpr ⟨ok_aload_n C (show decode cL_law 688 = .ok (.aload_n 0, 1) from dk_at dq53_8 (i := 4) rfl) rfl rfl, ?_⟩
  refine List.forall_mem_cons.mpr ⟨ok_iload C (show decode cL_law 689 = .ok (.iload 4, 2) from dk_at dq53_8 (i := 5) rfl) rfl, ?_⟩
  refine List.forall_mem_cons.mpr ⟨ok_iconst C (show decode cL_law 691 = .ok (.iconst 2, 1) from dk_at dq53_8 (i := 6) rfl) (by decide) rfl, ?_⟩
  refine List.forall_mem_cons.mpr ⟨ok_iadd C (show decode cL_law 692 = .ok (.iadd, 1) from dk_at dq53_8 (i := 7) rfl) rfl, ?_⟩
  refine List.forall_mem_cons.mpr ⟨ok_sld C hX hb0 hb1 (show decode cL_law 693 = .ok (.iaload, 1) from dk_at dq53_8 (i := 8) rfl) rfl, ?_⟩
  refine List.forall_mem_cons.mpr ⟨ok_aload_n C (show decode cL_law 694 = .ok (.aload_n 0, 1) from dk_at dq53_8 (i := 9) rfl) rfl rfl, ?_⟩
  refine List.forall_mem_cons.mpr ⟨ok_iload C (show decode cL_law 695 = .ok (.iload 4, 2) from dk_at dq53_8 (i := 10) rfl) rfl, ?_⟩
  refine List.forall_mem_cons.mpr ⟨ok_iconst C (show decode cL_law 697 = .ok (.iconst 3, 1) from dk_at dq53_8 (i := 11) rfl) (by decide) rfl, ?_⟩
  refine List.forall_mem_cons.mpr ⟨ok_iadd C (show decode cL_law 698 = .ok (.iadd, 1) from dk_at dq53_8 (i := 12) rfl) rfl, ?_⟩
  refine List.forall_mem_cons.mpr ⟨ok_sld C hX hb0 hb1 (show decode cL_law 699 = .ok (.iaload, 1) from dk_at dq53_8 (i := 13) rfl) rfl, ?_⟩
  refine List.forall_mem_cons.mpr ⟨ok_callV C h_X11_waste ⟨rfl, rfl⟩ rfl kw_1501 kw_1498 kw_1499 kw_1500 kw_11 rfl ds_X11_waste ⟨by decide, by decide⟩ (show decode cL_law 700 = .ok (.invokevirtual 76, 3) from dk_at dq53_8 (i := 14) rfl) rfl, ?_⟩
  refine List.forall_mem_cons.mpr ⟨ok_pop C (show decode cL_law 703 = .ok (.pop, 1) from dk_at dq53_8 (i := 15) rfl) rfl, ?_⟩
  refine List.forall_mem_cons.mpr ⟨ok_goto C (show decode cL_law 704 = .ok (.goto 764, 3) from dk_at dq53_8 (i := 16) rfl) (tg := 1468) (by decide) rfl, ?_⟩
  refine List.forall_mem_cons.mpr ⟨ok_aload_n C (show decode cL_law 707 = .ok (.aload_n 1, 1) from dk_at dq53_8 (i := 17) rfl) rfl rfl, ?_⟩
  refine List.forall_mem_cons.mpr ⟨ok_aload_n C (show decode cL_law 708 = .ok (.aload_n 0, 1) from dk_at dq53_8 (i := 18) rfl) rfl rfl, ?_⟩
  refine List.forall_mem_cons.mpr ⟨ok_iload C (show decode cL_law 709 = .ok (.iload 4, 2) from dk_at dq53_8 (i := 19) rfl) rfl, ?_⟩
  refine List.forall_mem_cons.mpr ⟨ok_iconst C (show decode cL_law 711 = .ok (.iconst 1, 1) from dk_at dq53_8 (i := 20) rfl) (by decide) rfl, ?_⟩
  refine List.forall_mem_cons.mpr ⟨ok_iadd C (show decode cL_law 712 = .ok (.iadd, 1) from dk_at dq53_8 (i := 21) rfl) rfl, ?_⟩
  refine List.forall_mem_cons.mpr ⟨ok_sld C hX hb0 hb1 (show decode cL_law 713 = .ok (.iaload, 1) from dk_at dq53_8 (i := 22) rfl) rfl, ?_⟩
  refine List.forall_mem_cons.mpr ⟨ok_callV C h_X10_die ⟨rfl, rfl⟩ rfl kw_743 kw_740 kw_741 kw_742 kw_1 rfl ds_X10_die ⟨by decide, by decide⟩ (show decode cL_law 714 = .ok (.invokevirtual 77, 3) from dk_at dq53_8 (i := 23) rfl) rfl, ?_⟩
  refine List.forall_mem_cons.mpr ⟨ok_pop C (show decode cL_law 717 = .ok (.pop, 1) from dk_at dq53_8 (i := 24) rfl) rfl, ?_⟩
  refine List.forall_mem_cons.mpr ⟨ok_aload_n C (show decode cL_law 718 = .ok (.aload_n 2, 1) from dk_at dq53_8 (i := 25) rfl) rfl rfl, ?_⟩
  refine List.forall_mem_cons.mpr ⟨ok_aload_n C (show decode cL_law 719 = .ok (.aload_n 0, 1) from dk_at dq53_8 (i := 26) rfl) rfl rfl, ?_⟩
  refine List.forall_mem_cons.mpr ⟨ok_iload C (show decode cL_law 720 = .ok (.iload 4, 2) from dk_at dq53_8 (i := 27) rfl) rfl, ?_⟩
  refine List.forall_mem_cons.mpr ⟨ok_iconst C (show decode cL_law 722 = .ok (.iconst 1, 1) from dk_at dq53_8 (i := 28) rfl) (by decide) rfl, ?_⟩
  refine List.forall_mem_cons.mpr ⟨ok_iadd C (show decode cL_law 723 = .ok (.iadd, 1) from dk_at dq53_8 (i := 29) rfl) rfl, ?_⟩
  refine List.forall_mem_cons.mpr ⟨ok_sld C hX hb0 hb1 (show decode cL_law 724 = .ok (.iaload, 1) from dk_at dq53_8 (i := 30) rfl) rfl, ?_⟩
  refine List.forall_mem_cons.mpr ⟨ok_callV C h_X11_die ⟨rfl, rfl⟩ rfl kw_1505 kw_1502 kw_1503 kw_1504 kw_11 rfl ds_X11_die ⟨by decide, by decide⟩ (show decode cL_law 725 = .ok (.invokevirtual 80, 3) from dk_at dq53_8 (i := 31) rfl) rfl, ?_⟩
  refine List.forall_mem_cons.mpr ⟨ok_pop C (show decode cL_law 728 = .ok (.pop, 1) from dk_at dq53_8 (i := 32) rfl) rfl, ?_⟩
  refine List.forall_mem_cons.mpr ⟨ok_goto C (show decode cL_law 729 = .ok (.goto 739, 3) from dk_at dq53_8 (i := 33) rfl) (tg := 1468) (by decide) rfl, ?_⟩
  refine List.forall_mem_cons.mpr ⟨ok_aload_n C (show decode cL_law 732 = .ok (.aload_n 1, 1) from dk_at dq53_8 (i := 34) rfl) rfl rfl, ?_⟩
  refine List.forall_mem_cons.mpr ⟨ok_aload_n C (show decode cL_law 733 = .ok (.aload_n 0, 1) from dk_at dq53_8 (i := 35) rfl) rfl rfl, ?_⟩
  refine List.forall_mem_cons.mpr ⟨ok_iload C (show decode cL_law 734 = .ok (.iload 4, 2) from dk_at dq53_8 (i := 36) rfl) rfl, ?_⟩
  refine List.forall_mem_cons.mpr ⟨ok_iconst C (show decode cL_law 736 = .ok (.iconst 1, 1) from dk_at dq53_8 (i := 37) rfl) (by decide) rfl, ?_⟩
  refine List.forall_mem_cons.mpr ⟨ok_iadd C (show decode cL_law 737 = .ok (.iadd, 1) from dk_at dq53_8 (i := 38) rfl) rfl, ?_⟩
  refine List.forall_mem_cons.mpr ⟨ok_sld C hX hb0 hb1 (show decode cL_law 738 = .ok (.iaload, 1) from dk_at dq53_8 (i := 39) rfl) rfl, ?_⟩
  refine List.forall_mem_cons.mpr ⟨ok_callV C h_X10_days ⟨rfl, rfl⟩ rfl kw_747 kw_744 kw_745 kw_746 kw_1 rfl ds_X10_days ⟨by decide, by decide⟩ (show decode cL_law 739 = .ok (.invokevirtual 81, 3) from dk_at dq53_8 (i := 40) rfl) rfl, ?_⟩
  refine List.forall_mem_cons.mpr ⟨ok_pop C (show decode cL_law 742 = .ok (.pop, 1) from dk_at dq53_8 (i := 41) rfl) rfl, ?_⟩
  refine List.forall_mem_cons.mpr ⟨ok_aload_n C (show decode cL_law 743 = .ok (.aload_n 2, 1) from dk_at dq53_8 (i := 42) rfl) rfl rfl, ?_⟩
  refine List.forall_mem_cons.mpr ⟨ok_aload_n C (show decode cL_law 744 = .ok (.aload_n 0, 1) from dk_at dq53_8 (i := 43) rfl) rfl rfl, ?_⟩
  refine List.forall_mem_cons.mpr ⟨ok_iload C (show decode cL_law 745 = .ok (.iload 4, 2) from dk_at dq53_8 (i := 44) rfl) rfl, ?_⟩
  refine List.forall_mem_cons.mpr ⟨ok_iconst C (show decode cL_law 747 = .ok (.iconst 1, 1) from dk_at dq53_8 (i := 45) rfl) (by decide) rfl, ?_⟩
  refine List.forall_mem_cons.mpr ⟨ok_iadd C (show decode cL_law 748 = .ok (.iadd, 1) from dk_at dq53_8 (i := 46) rfl) rfl, ?_⟩
  refine List.forall_mem_cons.mpr ⟨ok_sld C hX hb0 hb1 (show decode cL_law 749 = .ok (.iaload, 1) from dk_at dq53_8 (i := 47) rfl) rfl, ?_⟩
  refine List.forall_mem_cons.mpr ⟨ok_callV C h_X11_days ⟨rfl, rfl⟩ rfl kw_1509 kw_1506 kw_1507 kw_1508 kw_11 rfl ds_X11_days ⟨by decide, by decide⟩ (show decode cL_law 750 = .ok (.invokevirtual 84, 3) from dk_at dq53_9 (i := 0) rfl) rfl, ?_⟩
  refine List.forall_mem_cons.mpr ⟨ok_pop C (show decode cL_law 753 = .ok (.pop, 1) from dk_at dq53_9 (i := 1) rfl) rfl, ?_⟩
  refine List.forall_mem_cons.mpr ⟨ok_goto C (show decode cL_law 754 = .ok (.goto 714, 3) from dk_at dq53_9 (i := 2) rfl) (tg := 1468) (by decide) rfl, ?_⟩
  refine List.forall_mem_cons.mpr ⟨ok_aload_n C (show decode cL_law 757 = .ok (.aload_n 1, 1) from dk_at dq53_9 (i := 3) rfl) rfl rfl, ?_⟩
  refine List.forall_mem_cons.mpr ⟨ok_callV C h_X10_undo ⟨rfl, rfl⟩ rfl kw_788 kw_785 kw_786 kw_787 kw_1 rfl ds_X10_undo ⟨by decide, by decide⟩ (show decode cL_law 758 = .ok (.invokevirtual 85, 3) from dk_at dq53_9 (i := 4) rfl) rfl, ?_⟩
  refine List.forall_mem_cons.mpr ⟨ok_pop C (show decode cL_law 761 = .ok (.pop, 1) from dk_at dq53_9 (i := 5) rfl) rfl, ?_⟩
  refine List.forall_mem_cons.mpr ⟨ok_aload_n C (show decode cL_law 762 = .ok (.aload_n 2, 1) from dk_at dq53_9 (i := 6) rfl) rfl rfl, ?_⟩
  refine List.forall_mem_cons.mpr ⟨ok_callV C h_X11_undo ⟨rfl, rfl⟩ rfl kw_1536 kw_1533 kw_1534 kw_1535 kw_11 rfl ds_X11_undo ⟨by decide, by decide⟩ (show decode cL_law 763 = .ok (.invokevirtual 88, 3) from dk_at dq53_9 (i := 7) rfl) rfl, ?_⟩
  refine List.forall_mem_cons.mpr ⟨ok_pop C (show decode cL_law 766 = .ok (.pop, 1) from dk_at dq53_9 (i := 8) rfl) rfl, ?_⟩
  refine List.forall_mem_cons.mpr ⟨ok_goto C (show decode cL_law 767 = .ok (.goto 701, 3) from dk_at dq53_9 (i := 9) rfl) (tg := 1468) (by decide) rfl, ?_⟩
  refine List.forall_mem_cons.mpr ⟨ok_aload_n C (show decode cL_law 770 = .ok (.aload_n 1, 1) from dk_at dq53_9 (i := 10) rfl) rfl rfl, ?_⟩
  refine List.forall_mem_cons.mpr ⟨ok_aload_n C (show decode cL_law 771 = .ok (.aload_n 0, 1) from dk_at dq53_9 (i := 11) rfl) rfl rfl, ?_⟩
  refine List.forall_mem_cons.mpr ⟨ok_iload C (show decode cL_law 772 = .ok (.iload 4, 2) from dk_at dq53_9 (i := 12) rfl) rfl, ?_⟩
  refine List.forall_mem_cons.mpr ⟨ok_iconst C (show decode cL_law 774 = .ok (.iconst 1, 1) from dk_at dq53_9 (i := 13) rfl) (by decide) rfl, ?_⟩
  refine List.forall_mem_cons.mpr ⟨ok_iadd C (show decode cL_law 775 = .ok (.iadd, 1) from dk_at dq53_9 (i := 14) rfl) rfl, ?_⟩
  refine List.forall_mem_cons.mpr ⟨ok_sld C hX hb0 hb1 (show decode cL_law 776 = .ok (.iaload, 1) from dk_at dq53_9 (i := 15) rfl) rfl, ?_⟩
  refine List.forall_mem_cons.mpr ⟨ok_callV C h_X10_lacks ⟨rfl, rfl⟩ rfl kw_656 kw_653 kw_654 kw_655 kw_1 rfl ds_X10_lacks ⟨by decide, by decide⟩ (show decode cL_law 777 = .ok (.invokevirtual 89, 3) from dk_at dq53_9 (i := 16) rfl) rfl, ?_⟩
  refine List.forall_mem_cons.mpr ⟨ok_pop C (show decode cL_law 780 = .ok (.pop, 1) from dk_at dq53_9 (i := 17) rfl) rfl, ?_⟩
  refine List.forall_mem_cons.mpr ⟨ok_aload_n C (show decode cL_law 781 = .ok (.aload_n 2, 1) from dk_at dq53_9 (i := 18) rfl) rfl rfl, ?_⟩
  refine List.forall_mem_cons.mpr ⟨ok_aload_n C (show decode cL_law 782 = .ok (.aload_n 0, 1) from dk_at dq53_9 (i := 19) rfl) rfl rfl, ?_⟩
  refine List.forall_mem_cons.mpr ⟨ok_iload C (show decode cL_law 783 = .ok (.iload 4, 2) from dk_at dq53_9 (i := 20) rfl) rfl, ?_⟩
  refine List.forall_mem_cons.mpr ⟨ok_iconst C (show decode cL_law 785 = .ok (.iconst 1, 1) from dk_at dq53_9 (i := 21) rfl) (by decide) rfl, ?_⟩
  refine List.forall_mem_cons.mpr ⟨ok_iadd C (show decode cL_law 786 = .ok (.iadd, 1) from dk_at dq53_9 (i := 22) rfl) rfl, ?_⟩
  refine List.forall_mem_cons.mpr ⟨ok_sld C hX hb0 hb1 (show decode cL_law 787 = .ok (.iaload, 1) from dk_at dq53_9 (i := 23) rfl) rfl, ?_⟩
  refine List.forall_mem_cons.mpr ⟨ok_callV C h_X11_lacks ⟨rfl, rfl⟩ rfl kw_1540 kw_1537 kw_1538 kw_1539 kw_11 rfl ds_X11_lacks ⟨by decide, by decide⟩ (show decode cL_law 788 = .ok (.invokevirtual 92, 3) from dk_at dq53_9 (i := 24) rfl) rfl, ?_⟩
  refine List.forall_mem_cons.mpr ⟨ok_pop C (show decode cL_law 791 = .ok (.pop, 1) from dk_at dq53_9 (i := 25) rfl) rfl, ?_⟩
  refine List.forall_mem_cons.mpr ⟨ok_goto C (show decode cL_law 792 = .ok (.goto 676, 3) from dk_at dq53_9 (i := 26) rfl) (tg := 1468) (by decide) rfl, ?_⟩
  refine List.forall_mem_cons.mpr ⟨ok_aload_n C (show decode cL_law 795 = .ok (.aload_n 1, 1) from dk_at dq53_9 (i := 27) rfl) rfl rfl, ?_⟩
  refine List.forall_mem_cons.mpr ⟨ok_aload_n C (show decode cL_law 796 = .ok (.aload_n 0, 1) from dk_at dq53_9 (i := 28) rfl) rfl rfl, ?_⟩
  refine List.forall_mem_cons.mpr ⟨ok_iload C (show decode cL_law 797 = .ok (.iload 4, 2) from dk_at dq53_9 (i := 29) rfl) rfl, ?_⟩
  refine List.forall_mem_cons.mpr ⟨ok_iconst C (show decode cL_law 799 = .ok (.iconst 1, 1) from dk_at dq53_9 (i := 30) rfl) (by decide) rfl, ?_⟩
  refine List.forall_mem_cons.mpr ⟨ok_iadd C (show decode cL_law 800 = .ok (.iadd, 1) from dk_at dq53_9 (i := 31) rfl) rfl, ?_⟩
  refine List.forall_mem_cons.mpr ⟨ok_sld C hX hb0 hb1 (show decode cL_law 801 = .ok (.iaload, 1) from dk_at dq53_9 (i := 32) rfl) rfl, ?_⟩
  refine List.forall_mem_cons.mpr ⟨ok_callV C h_X10_falses ⟨rfl, rfl⟩ rfl kw_660 kw_657 kw_658 kw_659 kw_1 rfl ds_X10_falses ⟨by decide, by decide⟩ (show decode cL_law 802 = .ok (.invokevirtual 93, 3) from dk_at dq53_9 (i := 33) rfl) rfl, ?_⟩
  refine List.forall_mem_cons.mpr ⟨ok_pop C (show decode cL_law 805 = .ok (.pop, 1) from dk_at dq53_9 (i := 34) rfl) rfl, ?_⟩
  refine List.forall_mem_cons.mpr ⟨ok_aload_n C (show decode cL_law 806 = .ok (.aload_n 2, 1) from dk_at dq53_9 (i := 35) rfl) rfl rfl, ?_⟩
  refine List.forall_mem_cons.mpr ⟨ok_aload_n C (show decode cL_law 807 = .ok (.aload_n 0, 1) from dk_at dq53_9 (i := 36) rfl) rfl rfl, ?_⟩
  refine List.forall_mem_cons.mpr ⟨ok_iload C (show decode cL_law 808 = .ok (.iload 4, 2) from dk_at dq53_9 (i := 37) rfl) rfl, ?_⟩
  refine List.forall_mem_cons.mpr ⟨ok_iconst C (show decode cL_law 810 = .ok (.iconst 1, 1) from dk_at dq53_9 (i := 38) rfl) (by decide) rfl, ?_⟩
  refine List.forall_mem_cons.mpr ⟨ok_iadd C (show decode cL_law 811 = .ok (.iadd, 1) from dk_at dq53_9 (i := 39) rfl) rfl, ?_⟩
  refine List.forall_mem_cons.mpr ⟨ok_sld C hX hb0 hb1 (show decode cL_law 812 = .ok (.iaload, 1) from dk_at dq53_9 (i := 40) rfl) rfl, ?_⟩
  refine List.forall_mem_cons.mpr ⟨ok_callV C h_X11_falses ⟨rfl, rfl⟩ rfl kw_1544 kw_1541 kw_1542 kw_1543 kw_11 rfl ds_X11_falses ⟨by decide, by decide⟩ (show decode cL_law 813 = .ok (.invokevirtual 96, 3) from dk_at dq53_9 (i := 41) rfl) rfl, ?_⟩
  exact fun _ h => absurd h List.not_mem_nil
def L_law_5 (xs : Nat → Int32) (n : Nat) (f_X10_going : List Value → ab_H → Option ab_O) (f_X11_going : List Value → ab_H → Option ab_O) (f_X10_goes : List Value → ab_H → Option ab_O) (f_X11_goes : List Value → ab_H → Option ab_O) (f_X10_crosses : List Value → ab_H → Option ab_O) (f_X11_crosses : List Value → ab_H → Option ab_O) (f_X10_comes : List Value → ab_H → Option ab_O) (f_X11_comes : List Value → ab_H → Option ab_O) : List (Nat × ab_A) := [
  (816, ab_nx 817 ab_pop),
  (817, ab_goto 1468),
  (820, ab_nx 821 (ab_aload 1)),
  (821, ab_nx 824 (ab_callV 1 10 f_X10_going 0 0 709736 6966897)),
  (824, ab_nx 825 ab_pop),
  (825, ab_nx 826 (ab_aload 2)),
  (826, ab_nx 829 (ab_callV 1 11 f_X11_going 0 0 709736 6966897)),
  (829, ab_nx 830 ab_pop),
  (830, ab_goto 1468),
  (833, ab_nx 834 (ab_aload 1)),
  (834, ab_nx 835 (ab_aload 0)),
  (835, ab_nx 837 (ab_iload 4)),
  (837, ab_nx 838 (ab_lit (.int 1))),
  (838, ab_nx 839 (ab_bin (fun x y => x + y))),
  (839, ab_nx 840 (ab_sld xs n)),
  (840, ab_nx 843 (ab_callV 2 10 f_X10_goes 0 0 709736 6966897)),
  (843, ab_nx 844 ab_pop),
  (844, ab_nx 845 (ab_aload 2)),
  (845, ab_nx 846 (ab_aload 0)),
  (846, ab_nx 848 (ab_iload 4)),
  (848, ab_nx 849 (ab_lit (.int 1))),
  (849, ab_nx 850 (ab_bin (fun x y => x + y))),
  (850, ab_nx 851 (ab_sld xs n)),
  (851, ab_nx 854 (ab_callV 2 11 f_X11_goes 0 0 709736 6966897)),
  (854, ab_nx 855 ab_pop),
  (855, ab_goto 1468),
  (858, ab_nx 859 (ab_aload 1)),
  (859, ab_nx 860 (ab_aload 0)),
  (860, ab_nx 862 (ab_iload 4)),
  (862, ab_nx 863 (ab_lit (.int 1))),
  (863, ab_nx 864 (ab_bin (fun x y => x + y))),
  (864, ab_nx 865 (ab_sld xs n)),
  (865, ab_nx 868 (ab_callV 2 10 f_X10_crosses 0 0 709736 6966897)),
  (868, ab_nx 869 ab_pop),
  (869, ab_nx 870 (ab_aload 2)),
  (870, ab_nx 871 (ab_aload 0)),
  (871, ab_nx 873 (ab_iload 4)),
  (873, ab_nx 874 (ab_lit (.int 1))),
  (874, ab_nx 875 (ab_bin (fun x y => x + y))),
  (875, ab_nx 876 (ab_sld xs n)),
  (876, ab_nx 879 (ab_callV 2 11 f_X11_crosses 0 0 709736 6966897)),
  (879, ab_nx 880 ab_pop),
  (880, ab_goto 1468),
  (883, ab_nx 884 (ab_aload 1)),
  (884, ab_nx 885 (ab_aload 0)),
  (885, ab_nx 887 (ab_iload 4)),
  (887, ab_nx 888 (ab_lit (.int 1))),
  (888, ab_nx 889 (ab_bin (fun x y => x + y))),
  (889, ab_nx 890 (ab_sld xs n)),
  (890, ab_nx 891 (ab_aload 0)),
  (891, ab_nx 893 (ab_iload 4)),
  (893, ab_nx 894 (ab_lit (.int 2))),
  (894, ab_nx 895 (ab_bin (fun x y => x + y))),
  (895, ab_nx 896 (ab_sld xs n)),
  (896, ab_nx 899 (ab_callV 3 10 f_X10_comes 0 0 709736 6966897)),
  (899, ab_nx 900 ab_pop),
  (900, ab_nx 901 (ab_aload 2)),
  (901, ab_nx 902 (ab_aload 0)),
  (902, ab_nx 904 (ab_iload 4)),
  (904, ab_nx 905 (ab_lit (.int 1))),
  (905, ab_nx 906 (ab_bin (fun x y => x + y))),
  (906, ab_nx 907 (ab_sld xs n)),
  (907, ab_nx 908 (ab_aload 0)),
  (908, ab_nx 910 (ab_iload 4)),
  (910, ab_nx 911 (ab_lit (.int 2))),
  (911, ab_nx 912 (ab_bin (fun x y => x + y))),
  (912, ab_nx 913 (ab_sld xs n)),
  (913, ab_nx 916 (ab_callV 3 11 f_X11_comes 0 0 709736 6966897)),
  (916, ab_nx 917 ab_pop),
  (917, ab_goto 1468),
  (920, ab_nx 921 (ab_aload 1)),
  (921, ab_nx 922 (ab_aload 0)),
  (922, ab_nx 924 (ab_iload 4)),
  (924, ab_nx 925 (ab_lit (.int 1))),
  (925, ab_nx 926 (ab_bin (fun x y => x + y))),
  (926, ab_nx 927 (ab_sld xs n)),
  (927, ab_nx 928 (ab_aload 0)),
  (928, ab_nx 930 (ab_iload 4)),
  (930, ab_nx 931 (ab_lit (.int 2))),
  (931, ab_nx 932 (ab_bin (fun x y => x + y))),
  (932, ab_nx 933 (ab_sld xs n)),
  (933, ab_nx 934 (ab_aload 0)),
  (934, ab_nx 936 (ab_iload 4)),
  (936, ab_nx 937 (ab_lit (.int 3))),
  (937, ab_nx 938 (ab_bin (fun x y => x + y))),
  (938, ab_nx 939 (ab_sld xs n)),
  (939, ab_nx 940 (ab_aload 0)),
  (940, ab_nx 942 (ab_iload 4)),
  (942, ab_nx 943 (ab_lit (.int 4))),
  (943, ab_nx 944 (ab_bin (fun x y => x + y)))]
set_option maxRecDepth 100000 in
theorem dq53_10 : ([(816, .pop, 1), (817, .goto 651, 3), (820, .aload_n 1, 1), (821, .invokevirtual 97, 3), (824, .pop, 1), (825, .aload_n 2, 1), (826, .invokevirtual 100, 3), (829, .pop, 1), (830, .goto 638, 3), (833, .aload_n 1, 1), (834, .aload_n 0, 1), (835, .iload 4, 2), (837, .iconst 1, 1), (838, .iadd, 1), (839, .iaload, 1), (840, .invokevirtual 101, 3), (843, .pop, 1), (844, .aload_n 2, 1), (845, .aload_n 0, 1), (846, .iload 4, 2), (848, .iconst 1, 1), (849, .iadd, 1), (850, .iaload, 1), (851, .invokevirtual 104, 3), (854, .pop, 1), (855, .goto 613, 3), (858, .aload_n 1, 1), (859, .aload_n 0, 1), (860, .iload 4, 2), (862, .iconst 1, 1), (863, .iadd, 1), (864, .iaload, 1), (865, .invokevirtual 105, 3), (868, .pop, 1), (869, .aload_n 2, 1), (870, .aload_n 0, 1), (871, .iload 4, 2), (873, .iconst 1, 1), (874, .iadd, 1), (875, .iaload, 1), (876, .invokevirtual 108, 3), (879, .pop, 1), (880, .goto 588, 3), (883, .aload_n 1, 1), (884, .aload_n 0, 1), (885, .iload 4, 2), (887, .iconst 1, 1), (888, .iadd, 1)] : List (Nat × Instr × Nat)).all (fun q => decide (decode cL_law q.1 = .ok q.2)) = true := by decide +kernel
set_option maxRecDepth 100000 in
theorem dq53_11 : ([(889, .iaload, 1), (890, .aload_n 0, 1), (891, .iload 4, 2), (893, .iconst 2, 1), (894, .iadd, 1), (895, .iaload, 1), (896, .invokevirtual 109, 3), (899, .pop, 1), (900, .aload_n 2, 1), (901, .aload_n 0, 1), (902, .iload 4, 2), (904, .iconst 1, 1), (905, .iadd, 1), (906, .iaload, 1), (907, .aload_n 0, 1), (908, .iload 4, 2), (910, .iconst 2, 1), (911, .iadd, 1), (912, .iaload, 1), (913, .invokevirtual 112, 3), (916, .pop, 1), (917, .goto 551, 3), (920, .aload_n 1, 1), (921, .aload_n 0, 1), (922, .iload 4, 2), (924, .iconst 1, 1), (925, .iadd, 1), (926, .iaload, 1), (927, .aload_n 0, 1), (928, .iload 4, 2), (930, .iconst 2, 1), (931, .iadd, 1), (932, .iaload, 1), (933, .aload_n 0, 1), (934, .iload 4, 2), (936, .iconst 3, 1), (937, .iadd, 1), (938, .iaload, 1), (939, .aload_n 0, 1), (940, .iload 4, 2), (942, .iconst 4, 1), (943, .iadd, 1)] : List (Nat × Instr × Nat)).all (fun q => decide (decode cL_law q.1 = .ok q.2)) = true := by decide +kernel
set_option maxRecDepth 100000 in
set_option maxHeartbeats 4000000 in
theorem law_5 {p : Program} {l : Launch} {e : Env} {s : State} {m : MethodId} {below : List Frame} {meth : Method} {c : Code} {cd : Cond} {b : ab_B} {D : va_G} {cA : Nat → ClassId} {o : ab_O} {xs : Nat → Int32} {n bb : Nat} {nm : String} (C : ab_cx p l e room_1 s m #[Value.ref bb] below meth c D ab_cl cA (ab_E0 b) (⟨RL, nm, "([I)Z"⟩ : MethodName) cL_law 7 ret (cd :: ab_G) room_1) (hX : va_X bb n xs s s.heap) (hb0 : b.2 0 = bb) (hb1 : b.1 = s.heap.size ∧ bb < s.heap.size) {f_X10_going : List Value → ab_H → Option ab_O} (h_X10_going : ab_M l b D ab_cl cA (ab_E0 b) yX10_going (Cond.code yX10_going cX10_going 1 (some .int) :: ab_G) ({ frames := 5, cells := 0, slots := 0, locals := 500 } : Room) f_X10_going) {f_X11_going : List Value → ab_H → Option ab_O} (h_X11_going : ab_M l b D ab_cl cA (ab_E0 b) yX11_going (Cond.code yX11_going cX11_going 1 (some .int) :: ab_G) ({ frames := 7, cells := 0, slots := 0, locals := 700 } : Room) f_X11_going) {f_X10_goes : List Value → ab_H → Option ab_O} (h_X10_goes : ab_M l b D ab_cl cA (ab_E0 b) yX10_goes (Cond.code yX10_goes cX10_goes 2 (some .int) :: ab_G) ({ frames := 5, cells := 0, slots := 0, locals := 500 } : Room) f_X10_goes) {f_X11_goes : List Value → ab_H → Option ab_O} (h_X11_goes : ab_M l b D ab_cl cA (ab_E0 b) yX11_goes (Cond.code yX11_goes cX11_goes 3 (some .int) :: ab_G) ({ frames := 7, cells := 0, slots := 0, locals := 700 } : Room) f_X11_goes) {f_X10_crosses : List Value → ab_H → Option ab_O} (h_X10_crosses : ab_M l b D ab_cl cA (ab_E0 b) yX10_crosses (Cond.code yX10_crosses cX10_crosses 4 (some .int) :: ab_G) ({ frames := 6, cells := 0, slots := 0, locals := 600 } : Room) f_X10_crosses) {f_X11_crosses : List Value → ab_H → Option ab_O} (h_X11_crosses : ab_M l b D ab_cl cA (ab_E0 b) yX11_crosses (Cond.code yX11_crosses cX11_crosses 5 (some .int) :: ab_G) ({ frames := 9, cells := 0, slots := 0, locals := 900 } : Room) f_X11_crosses) {f_X10_comes : List Value → ab_H → Option ab_O} (h_X10_comes : ab_M l b D ab_cl cA (ab_E0 b) yX10_comes (Cond.code yX10_comes cX10_comes 6 (some .int) :: ab_G) ({ frames := 6, cells := 0, slots := 0, locals := 600 } : Room) f_X10_comes) {f_X11_comes : List Value → ab_H → Option ab_O} (h_X11_comes : ab_M l b D ab_cl cA (ab_E0 b) yX11_comes (Cond.code yX11_comes cX11_comes 6 (some .int) :: ab_G) ({ frames := 9, cells := 0, slots := 0, locals := 900 } : Room) f_X11_comes) : ∀ q ∈ L_law_5 xs n f_X10_going f_X11_going f_X10_goes f_X11_goes f_X10_crosses f_X11_crosses f_X10_comes f_X11_comes, ab_ok p l e room_1 s m #[Value.ref bb] below meth c (lw_Z below #[Value.ref bb] s) b D ab_cl cA 7 o (fun i => i) q.1 q.2 := by
  unfold L_law_5
  refine List.forall_mem_cons.mpr ⟨ok_pop C (show decode cL_law 816 = .ok (.pop, 1) from dk_at dq53_10 (i := 0) rfl) rfl, ?_⟩
  refine List.forall_mem_cons.mpr ⟨ok_goto C (show decode cL_law 817 = .ok (.goto 651, 3) from dk_at dq53_10 (i := 1) rfl) (tg := 1468) (by decide) rfl, ?_⟩
  refine List.forall_mem_cons.mpr ⟨ok_aload_n C (show decode cL_law 820 = .ok (.aload_n 1, 1) from dk_at dq53_10 (i := 2) rfl) rfl rfl, ?_⟩
  refine List.forall_mem_cons.mpr ⟨ok_callV C h_X10_going ⟨rfl, rfl⟩ rfl kw_796 kw_793 kw_794 kw_795 kw_1 rfl ds_X10_going ⟨by decide, by decide⟩ (show decode cL_law 821 = .ok (.invokevirtual 97, 3) from dk_at dq53_10 (i := 3) rfl) rfl, ?_⟩
  refine List.forall_mem_cons.mpr ⟨ok_pop C (show decode cL_law 824 = .ok (.pop, 1) from dk_at dq53_10 (i := 4) rfl) rfl, ?_⟩
  refine List.forall_mem_cons.mpr ⟨ok_aload_n C (show decode cL_law 825 = .ok (.aload_n 2, 1) from dk_at dq53_10 (i := 5) rfl) rfl rfl, ?_⟩
  refine List.forall_mem_cons.mpr ⟨ok_callV C h_X11_going ⟨rfl, rfl⟩ rfl kw_1548 kw_1545 kw_1546 kw_1547 kw_11 rfl ds_X11_going ⟨by decide, by decide⟩ (show decode cL_law 826 = .ok (.invokevirtual 100, 3) from dk_at dq53_10 (i := 6) rfl) rfl, ?_⟩
  refine List.forall_mem_cons.mpr ⟨ok_pop C (show decode cL_law 829 = .ok (.pop, 1) from dk_at dq53_10 (i := 7) rfl) rfl, ?_⟩
  refine List.forall_mem_cons.mpr ⟨ok_goto C (show decode cL_law 830 = .ok (.goto 638, 3) from dk_at dq53_10 (i := 8) rfl) (tg := 1468) (by decide) rfl, ?_⟩
  refine List.forall_mem_cons.mpr ⟨ok_aload_n C (show decode cL_law 833 = .ok (.aload_n 1, 1) from dk_at dq53_10 (i := 9) rfl) rfl rfl, ?_⟩
  refine List.forall_mem_cons.mpr ⟨ok_aload_n C (show decode cL_law 834 = .ok (.aload_n 0, 1) from dk_at dq53_10 (i := 10) rfl) rfl rfl, ?_⟩
  refine List.forall_mem_cons.mpr ⟨ok_iload C (show decode cL_law 835 = .ok (.iload 4, 2) from dk_at dq53_10 (i := 11) rfl) rfl, ?_⟩
  refine List.forall_mem_cons.mpr ⟨ok_iconst C (show decode cL_law 837 = .ok (.iconst 1, 1) from dk_at dq53_10 (i := 12) rfl) (by decide) rfl, ?_⟩
  refine List.forall_mem_cons.mpr ⟨ok_iadd C (show decode cL_law 838 = .ok (.iadd, 1) from dk_at dq53_10 (i := 13) rfl) rfl, ?_⟩
  refine List.forall_mem_cons.mpr ⟨ok_sld C hX hb0 hb1 (show decode cL_law 839 = .ok (.iaload, 1) from dk_at dq53_10 (i := 14) rfl) rfl, ?_⟩
  refine List.forall_mem_cons.mpr ⟨ok_callV C h_X10_goes ⟨rfl, rfl⟩ rfl kw_801 kw_798 kw_799 kw_800 kw_1 rfl ds_X10_goes ⟨by decide, by decide⟩ (show decode cL_law 840 = .ok (.invokevirtual 101, 3) from dk_at dq53_10 (i := 15) rfl) rfl, ?_⟩
  refine List.forall_mem_cons.mpr ⟨ok_pop C (show decode cL_law 843 = .ok (.pop, 1) from dk_at dq53_10 (i := 16) rfl) rfl, ?_⟩
  refine List.forall_mem_cons.mpr ⟨ok_aload_n C (show decode cL_law 844 = .ok (.aload_n 2, 1) from dk_at dq53_10 (i := 17) rfl) rfl rfl, ?_⟩
  refine List.forall_mem_cons.mpr ⟨ok_aload_n C (show decode cL_law 845 = .ok (.aload_n 0, 1) from dk_at dq53_10 (i := 18) rfl) rfl rfl, ?_⟩
  refine List.forall_mem_cons.mpr ⟨ok_iload C (show decode cL_law 846 = .ok (.iload 4, 2) from dk_at dq53_10 (i := 19) rfl) rfl, ?_⟩
  refine List.forall_mem_cons.mpr ⟨ok_iconst C (show decode cL_law 848 = .ok (.iconst 1, 1) from dk_at dq53_10 (i := 20) rfl) (by decide) rfl, ?_⟩
  refine List.forall_mem_cons.mpr ⟨ok_iadd C (show decode cL_law 849 = .ok (.iadd, 1) from dk_at dq53_10 (i := 21) rfl) rfl, ?_⟩
  refine List.forall_mem_cons.mpr ⟨ok_sld C hX hb0 hb1 (show decode cL_law 850 = .ok (.iaload, 1) from dk_at dq53_10 (i := 22) rfl) rfl, ?_⟩
  refine List.forall_mem_cons.mpr ⟨ok_callV C h_X11_goes ⟨rfl, rfl⟩ rfl kw_1552 kw_1549 kw_1550 kw_1551 kw_11 rfl ds_X11_goes ⟨by decide, by decide⟩ (show decode cL_law 851 = .ok (.invokevirtual 104, 3) from dk_at dq53_10 (i := 23) rfl) rfl, ?_⟩
  refine List.forall_mem_cons.mpr ⟨ok_pop C (show decode cL_law 854 = .ok (.pop, 1) from dk_at dq53_10 (i := 24) rfl) rfl, ?_⟩
  refine List.forall_mem_cons.mpr ⟨ok_goto C (show decode cL_law 855 = .ok (.goto 613, 3) from dk_at dq53_10 (i := 25) rfl) (tg := 1468) (by decide) rfl, ?_⟩
  refine List.forall_mem_cons.mpr ⟨ok_aload_n C (show decode cL_law 858 = .ok (.aload_n 1, 1) from dk_at dq53_10 (i := 26) rfl) rfl rfl, ?_⟩
  refine List.forall_mem_cons.mpr ⟨ok_aload_n C (show decode cL_law 859 = .ok (.aload_n 0, 1) from dk_at dq53_10 (i := 27) rfl) rfl rfl, ?_⟩
  refine List.forall_mem_cons.mpr ⟨ok_iload C (show decode cL_law 860 = .ok (.iload 4, 2) from dk_at dq53_10 (i := 28) rfl) rfl, ?_⟩
  refine List.forall_mem_cons.mpr ⟨ok_iconst C (show decode cL_law 862 = .ok (.iconst 1, 1) from dk_at dq53_10 (i := 29) rfl) (by decide) rfl, ?_⟩
  refine List.forall_mem_cons.mpr ⟨ok_iadd C (show decode cL_law 863 = .ok (.iadd, 1) from dk_at dq53_10 (i := 30) rfl) rfl, ?_⟩
  refine List.forall_mem_cons.mpr ⟨ok_sld C hX hb0 hb1 (show decode cL_law 864 = .ok (.iaload, 1) from dk_at dq53_10 (i := 31) rfl) rfl, ?_⟩
  refine List.forall_mem_cons.mpr ⟨ok_callV C h_X10_crosses ⟨rfl, rfl⟩ rfl kw_805 kw_802 kw_803 kw_804 kw_1 rfl ds_X10_crosses ⟨by decide, by decide⟩ (show decode cL_law 865 = .ok (.invokevirtual 105, 3) from dk_at dq53_10 (i := 32) rfl) rfl, ?_⟩
  refine List.forall_mem_cons.mpr ⟨ok_pop C (show decode cL_law 868 = .ok (.pop, 1) from dk_at dq53_10 (i := 33) rfl) rfl, ?_⟩
  refine List.forall_mem_cons.mpr ⟨ok_aload_n C (show decode cL_law 869 = .ok (.aload_n 2, 1) from dk_at dq53_10 (i := 34) rfl) rfl rfl, ?_⟩
  refine List.forall_mem_cons.mpr ⟨ok_aload_n C (show decode cL_law 870 = .ok (.aload_n 0, 1) from dk_at dq53_10 (i := 35) rfl) rfl rfl, ?_⟩
  refine List.forall_mem_cons.mpr ⟨ok_iload C (show decode cL_law 871 = .ok (.iload 4, 2) from dk_at dq53_10 (i := 36) rfl) rfl, ?_⟩
  refine List.forall_mem_cons.mpr ⟨ok_iconst C (show decode cL_law 873 = .ok (.iconst 1, 1) from dk_at dq53_10 (i := 37) rfl) (by decide) rfl, ?_⟩
  refine List.forall_mem_cons.mpr ⟨ok_iadd C (show decode cL_law 874 = .ok (.iadd, 1) from dk_at dq53_10 (i := 38) rfl) rfl, ?_⟩
  refine List.forall_mem_cons.mpr ⟨ok_sld C hX hb0 hb1 (show decode cL_law 875 = .ok (.iaload, 1) from dk_at dq53_10 (i := 39) rfl) rfl, ?_⟩
  refine List.forall_mem_cons.mpr ⟨ok_callV C h_X11_crosses ⟨rfl, rfl⟩ rfl kw_1556 kw_1553 kw_1554 kw_1555 kw_11 rfl ds_X11_crosses ⟨by decide, by decide⟩ (show decode cL_law 876 = .ok (.invokevirtual 108, 3) from dk_at dq53_10 (i := 40) rfl) rfl, ?_⟩
  refine List.forall_mem_cons.mpr ⟨ok_pop C (show decode cL_law 879 = .ok (.pop, 1) from dk_at dq53_10 (i := 41) rfl) rfl, ?_⟩
  refine List.forall_mem_cons.mpr ⟨ok_goto C (show decode cL_law 880 = .ok (.goto 588, 3) from dk_at dq53_10 (i := 42) rfl) (tg := 1468) (by decide) rfl, ?_⟩
  refine List.forall_mem_cons.mpr ⟨ok_aload_n C (show decode cL_law 883 = .ok (.aload_n 1, 1) from dk_at dq53_10 (i := 43) rfl) rfl rfl, ?_⟩
  refine List.forall_mem_cons.mpr ⟨ok_aload_n C (show decode cL_law 884 = .ok (.aload_n 0, 1) from dk_at dq53_10 (i := 44) rfl) rfl rfl, ?_⟩
  refine List.forall_mem_cons.mpr ⟨ok_iload C (show decode cL_law 885 = .ok (.iload 4, 2) from dk_at dq53_10 (i := 45) rfl) rfl, ?_⟩
  refine List.forall_mem_cons.mpr ⟨ok_iconst C (show decode cL_law 887 = .ok (.iconst 1, 1) from dk_at dq53_10 (i := 46) rfl) (by decide) rfl, ?_⟩
  refine List.forall_mem_cons.mpr ⟨ok_iadd C (show decode cL_law 888 = .ok (.iadd, 1) from dk_at dq53_10 (i := 47) rfl) rfl, ?_⟩
  refine List.forall_mem_cons.mpr ⟨ok_sld C hX hb0 hb1 (show decode cL_law 889 = .ok (.iaload, 1) from dk_at dq53_11 (i := 0) rfl) rfl, ?_⟩
  refine List.forall_mem_cons.mpr ⟨ok_aload_n C (show decode cL_law 890 = .ok (.aload_n 0, 1) from dk_at dq53_11 (i := 1) rfl) rfl rfl, ?_⟩
  refine List.forall_mem_cons.mpr ⟨ok_iload C (show decode cL_law 891 = .ok (.iload 4, 2) from dk_at dq53_11 (i := 2) rfl) rfl, ?_⟩
  refine List.forall_mem_cons.mpr ⟨ok_iconst C (show decode cL_law 893 = .ok (.iconst 2, 1) from dk_at dq53_11 (i := 3) rfl) (by decide) rfl, ?_⟩
  refine List.forall_mem_cons.mpr ⟨ok_iadd C (show decode cL_law 894 = .ok (.iadd, 1) from dk_at dq53_11 (i := 4) rfl) rfl, ?_⟩
  refine List.forall_mem_cons.mpr ⟨ok_sld C hX hb0 hb1 (show decode cL_law 895 = .ok (.iaload, 1) from dk_at dq53_11 (i := 5) rfl) rfl, ?_⟩
  refine List.forall_mem_cons.mpr ⟨ok_callV C h_X10_comes ⟨rfl, rfl⟩ rfl kw_810 kw_807 kw_808 kw_809 kw_1 rfl ds_X10_comes ⟨by decide, by decide⟩ (show decode cL_law 896 = .ok (.invokevirtual 109, 3) from dk_at dq53_11 (i := 6) rfl) rfl, ?_⟩
  refine List.forall_mem_cons.mpr ⟨ok_pop C (show decode cL_law 899 = .ok (.pop, 1) from dk_at dq53_11 (i := 7) rfl) rfl, ?_⟩
  refine List.forall_mem_cons.mpr ⟨ok_aload_n C (show decode cL_law 900 = .ok (.aload_n 2, 1) from dk_at dq53_11 (i := 8) rfl) rfl rfl, ?_⟩
  refine List.forall_mem_cons.mpr ⟨ok_aload_n C (show decode cL_law 901 = .ok (.aload_n 0, 1) from dk_at dq53_11 (i := 9) rfl) rfl rfl, ?_⟩
  refine List.forall_mem_cons.mpr ⟨ok_iload C (show decode cL_law 902 = .ok (.iload 4, 2) from dk_at dq53_11 (i := 10) rfl) rfl, ?_⟩
  refine List.forall_mem_cons.mpr ⟨ok_iconst C (show decode cL_law 904 = .ok (.iconst 1, 1) from dk_at dq53_11 (i := 11) rfl) (by decide) rfl, ?_⟩
  refine List.forall_mem_cons.mpr ⟨ok_iadd C (show decode cL_law 905 = .ok (.iadd, 1) from dk_at dq53_11 (i := 12) rfl) rfl, ?_⟩
  refine List.forall_mem_cons.mpr ⟨ok_sld C hX hb0 hb1 (show decode cL_law 906 = .ok (.iaload, 1) from dk_at dq53_11 (i := 13) rfl) rfl, ?_⟩
  refine List.forall_mem_cons.mpr ⟨ok_aload_n C (show decode cL_law 907 = .ok (.aload_n 0, 1) from dk_at dq53_11 (i := 14) rfl) rfl rfl, ?_⟩
  refine List.forall_mem_cons.mpr ⟨ok_iload C (show decode cL_law 908 = .ok (.iload 4, 2) from dk_at dq53_11 (i := 15) rfl) rfl, ?_⟩
  refine List.forall_mem_cons.mpr ⟨ok_iconst C (show decode cL_law 910 = .ok (.iconst 2, 1) from dk_at dq53_11 (i := 16) rfl) (by decide) rfl, ?_⟩
  refine List.forall_mem_cons.mpr ⟨ok_iadd C (show decode cL_law 911 = .ok (.iadd, 1) from dk_at dq53_11 (i := 17) rfl) rfl, ?_⟩
  refine List.forall_mem_cons.mpr ⟨ok_sld C hX hb0 hb1 (show decode cL_law 912 = .ok (.iaload, 1) from dk_at dq53_11 (i := 18) rfl) rfl, ?_⟩
  refine List.forall_mem_cons.mpr ⟨ok_callV C h_X11_comes ⟨rfl, rfl⟩ rfl kw_1568 kw_1565 kw_1566 kw_1567 kw_11 rfl ds_X11_comes ⟨by decide, by decide⟩ (show decode cL_law 913 = .ok (.invokevirtual 112, 3) from dk_at dq53_11 (i := 19) rfl) rfl, ?_⟩
  refine List.forall_mem_cons.mpr ⟨ok_pop C (show decode cL_law 916 = .ok (.pop, 1) from dk_at dq53_11 (i := 20) rfl) rfl, ?_⟩
  refine List.forall_mem_cons.mpr ⟨ok_goto C (show decode cL_law 917 = .ok (.goto 551, 3) from dk_at dq53_11 (i := 21) rfl) (tg := 1468) (by decide) rfl, ?_⟩
  refine List.forall_mem_cons.mpr ⟨ok_aload_n C (show decode cL_law 920 = .ok (.aload_n 1, 1) from dk_at dq53_11 (i := 22) rfl) rfl rfl, ?_⟩
  refine List.forall_mem_cons.mpr ⟨ok_aload_n C (show decode cL_law 921 = .ok (.aload_n 0, 1) from dk_at dq53_11 (i := 23) rfl) rfl rfl, ?_⟩
  refine List.forall_mem_cons.mpr ⟨ok_iload C (show decode cL_law 922 = .ok (.iload 4, 2) from dk_at dq53_11 (i := 24) rfl) rfl, ?_⟩
  refine List.forall_mem_cons.mpr ⟨ok_iconst C (show decode cL_law 924 = .ok (.iconst 1, 1) from dk_at dq53_11 (i := 25) rfl) (by decide) rfl, ?_⟩
  refine List.forall_mem_cons.mpr ⟨ok_iadd C (show decode cL_law 925 = .ok (.iadd, 1) from dk_at dq53_11 (i := 26) rfl) rfl, ?_⟩
  refine List.forall_mem_cons.mpr ⟨ok_sld C hX hb0 hb1 (show decode cL_law 926 = .ok (.iaload, 1) from dk_at dq53_11 (i := 27) rfl) rfl, ?_⟩
  refine List.forall_mem_cons.mpr ⟨ok_aload_n C (show decode cL_law 927 = .ok (.aload_n 0, 1) from dk_at dq53_11 (i := 28) rfl) rfl rfl, ?_⟩
  refine List.forall_mem_cons.mpr ⟨ok_iload C (show decode cL_law 928 = .ok (.iload 4, 2) from dk_at dq53_11 (i := 29) rfl) rfl, ?_⟩
  refine List.forall_mem_cons.mpr ⟨ok_iconst C (show decode cL_law 930 = .ok (.iconst 2, 1) from dk_at dq53_11 (i := 30) rfl) (by decide) rfl, ?_⟩
  refine List.forall_mem_cons.mpr ⟨ok_iadd C (show decode cL_law 931 = .ok (.iadd, 1) from dk_at dq53_11 (i := 31) rfl) rfl, ?_⟩
  refine List.forall_mem_cons.mpr ⟨ok_sld C hX hb0 hb1 (show decode cL_law 932 = .ok (.iaload, 1) from dk_at dq53_11 (i := 32) rfl) rfl, ?_⟩
  refine List.forall_mem_cons.mpr ⟨ok_aload_n C (show decode cL_law 933 = .ok (.aload_n 0, 1) from dk_at dq53_11 (i := 33) rfl) rfl rfl, ?_⟩
  refine List.forall_mem_cons.mpr ⟨ok_iload C (show decode cL_law 934 = .ok (.iload 4, 2) from dk_at dq53_11 (i := 34) rfl) rfl, ?_⟩
  refine List.forall_mem_cons.mpr ⟨ok_iconst C (show decode cL_law 936 = .ok (.iconst 3, 1) from dk_at dq53_11 (i := 35) rfl) (by decide) rfl, ?_⟩
  refine List.forall_mem_cons.mpr ⟨ok_iadd C (show decode cL_law 937 = .ok (.iadd, 1) from dk_at dq53_11 (i := 36) rfl) rfl, ?_⟩
  refine List.forall_mem_cons.mpr ⟨ok_sld C hX hb0 hb1 (show decode cL_law 938 = .ok (.iaload, 1) from dk_at dq53_11 (i := 37) rfl) rfl, ?_⟩
  refine List.forall_mem_cons.mpr ⟨ok_aload_n C (show decode cL_law 939 = .ok (.aload_n 0, 1) from dk_at dq53_11 (i := 38) rfl) rfl rfl, ?_⟩
  refine List.forall_mem_cons.mpr ⟨ok_iload C (show decode cL_law 940 = .ok (.iload 4, 2) from dk_at dq53_11 (i := 39) rfl) rfl, ?_⟩
  refine List.forall_mem_cons.mpr ⟨ok_iconst C (show decode cL_law 942 = .ok (.iconst 4, 1) from dk_at dq53_11 (i := 40) rfl) (by decide) rfl, ?_⟩
  refine List.forall_mem_cons.mpr ⟨ok_iadd C (show decode cL_law 943 = .ok (.iadd, 1) from dk_at dq53_11 (i := 41) rfl) rfl, ?_⟩
  exact fun _ h => absurd h List.not_mem_nil
def L_law_6 (xs : Nat → Int32) (n : Nat) (f_X10_without : List Value → ab_H → Option ab_O) (f_X11_without : List Value → ab_H → Option ab_O) (f_X10_meet : List Value → ab_H → Option ab_O) (f_X11_meet : List Value → ab_H → Option ab_O) (f_X10_loads : List Value → ab_H → Option ab_O) (f_X11_loads : List Value → ab_H → Option ab_O) (f_X10_which : List Value → ab_H → Option ab_O) (f_X11_which : List Value → ab_H → Option ab_O) (f_X10_settles : List Value → ab_H → Option ab_O) (f_X11_settles : List Value → ab_H → Option ab_O) : List (Nat × ab_A) := [
  (944, ab_nx 945 (ab_sld xs n)),
  (945, ab_nx 948 (ab_callV 5 10 f_X10_without 0 0 709736 6966897)),
  (948, ab_nx 949 ab_pop),
  (949, ab_nx 950 (ab_aload 2)),
  (950, ab_nx 951 (ab_aload 0)),
  (951, ab_nx 953 (ab_iload 4)),
  (953, ab_nx 954 (ab_lit (.int 1))),
  (954, ab_nx 955 (ab_bin (fun x y => x + y))),
  (955, ab_nx 956 (ab_sld xs n)),
  (956, ab_nx 957 (ab_aload 0)),
  (957, ab_nx 959 (ab_iload 4)),
  (959, ab_nx 960 (ab_lit (.int 2))),
  (960, ab_nx 961 (ab_bin (fun x y => x + y))),
  (961, ab_nx 962 (ab_sld xs n)),
  (962, ab_nx 963 (ab_aload 0)),
  (963, ab_nx 965 (ab_iload 4)),
  (965, ab_nx 966 (ab_lit (.int 3))),
  (966, ab_nx 967 (ab_bin (fun x y => x + y))),
  (967, ab_nx 968 (ab_sld xs n)),
  (968, ab_nx 969 (ab_aload 0)),
  (969, ab_nx 971 (ab_iload 4)),
  (971, ab_nx 972 (ab_lit (.int 4))),
  (972, ab_nx 973 (ab_bin (fun x y => x + y))),
  (973, ab_nx 974 (ab_sld xs n)),
  (974, ab_nx 977 (ab_callV 5 11 f_X11_without 0 0 709736 6966897)),
  (977, ab_nx 978 ab_pop),
  (978, ab_goto 1468),
  (981, ab_nx 982 (ab_aload 1)),
  (982, ab_nx 983 (ab_aload 0)),
  (983, ab_nx 985 (ab_iload 4)),
  (985, ab_nx 986 (ab_lit (.int 1))),
  (986, ab_nx 987 (ab_bin (fun x y => x + y))),
  (987, ab_nx 988 (ab_sld xs n)),
  (988, ab_nx 989 (ab_aload 0)),
  (989, ab_nx 991 (ab_iload 4)),
  (991, ab_nx 992 (ab_lit (.int 2))),
  (992, ab_nx 993 (ab_bin (fun x y => x + y))),
  (993, ab_nx 994 (ab_sld xs n)),
  (994, ab_nx 997 (ab_callV 3 10 f_X10_meet 0 0 709736 6966897)),
  (997, ab_nx 998 ab_pop),
  (998, ab_nx 999 (ab_aload 2)),
  (999, ab_nx 1000 (ab_aload 0)),
  (1000, ab_nx 1002 (ab_iload 4)),
  (1002, ab_nx 1003 (ab_lit (.int 1))),
  (1003, ab_nx 1004 (ab_bin (fun x y => x + y))),
  (1004, ab_nx 1005 (ab_sld xs n)),
  (1005, ab_nx 1006 (ab_aload 0)),
  (1006, ab_nx 1008 (ab_iload 4)),
  (1008, ab_nx 1009 (ab_lit (.int 2))),
  (1009, ab_nx 1010 (ab_bin (fun x y => x + y))),
  (1010, ab_nx 1011 (ab_sld xs n)),
  (1011, ab_nx 1014 (ab_callV 3 11 f_X11_meet 0 0 709736 6966897)),
  (1014, ab_nx 1015 ab_pop),
  (1015, ab_goto 1468),
  (1018, ab_nx 1019 (ab_aload 1)),
  (1019, ab_nx 1020 (ab_aload 0)),
  (1020, ab_nx 1022 (ab_iload 4)),
  (1022, ab_nx 1023 (ab_lit (.int 1))),
  (1023, ab_nx 1024 (ab_bin (fun x y => x + y))),
  (1024, ab_nx 1025 (ab_sld xs n)),
  (1025, ab_nx 1028 (ab_callV 2 10 f_X10_loads 0 0 709736 6966897)),
  (1028, ab_nx 1029 ab_pop),
  (1029, ab_nx 1030 (ab_aload 2)),
  (1030, ab_nx 1031 (ab_aload 0)),
  (1031, ab_nx 1033 (ab_iload 4)),
  (1033, ab_nx 1034 (ab_lit (.int 1))),
  (1034, ab_nx 1035 (ab_bin (fun x y => x + y))),
  (1035, ab_nx 1036 (ab_sld xs n)),
  (1036, ab_nx 1039 (ab_callV 2 11 f_X11_loads 0 0 709736 6966897)),
  (1039, ab_nx 1040 ab_pop),
  (1040, ab_goto 1468),
  (1043, ab_nx 1044 (ab_aload 1)),
  (1044, ab_nx 1047 (ab_callV 1 10 f_X10_which 0 0 709736 6966897)),
  (1047, ab_nx 1048 ab_pop),
  (1048, ab_nx 1049 (ab_aload 2)),
  (1049, ab_nx 1052 (ab_callV 1 11 f_X11_which 0 0 709736 6966897)),
  (1052, ab_nx 1053 ab_pop),
  (1053, ab_goto 1468),
  (1056, ab_nx 1057 (ab_aload 1)),
  (1057, ab_nx 1060 (ab_callV 1 10 f_X10_settles 0 0 709736 6966897)),
  (1060, ab_nx 1061 ab_pop),
  (1061, ab_nx 1062 (ab_aload 2)),
  (1062, ab_nx 1065 (ab_callV 1 11 f_X11_settles 0 0 709736 6966897)),
  (1065, ab_nx 1066 ab_pop),
  (1066, ab_goto 1468),
  (1069, ab_nx 1070 (ab_aload 1)),
  (1070, ab_nx 1071 (ab_aload 0)),
  (1071, ab_nx 1073 (ab_iload 4)),
  (1073, ab_nx 1074 (ab_lit (.int 1))),
  (1074, ab_nx 1075 (ab_bin (fun x y => x + y)))]
set_option maxRecDepth 100000 in
theorem dq53_12 : ([(944, .iaload, 1), (945, .invokevirtual 113, 3), (948, .pop, 1), (949, .aload_n 2, 1), (950, .aload_n 0, 1), (951, .iload 4, 2), (953, .iconst 1, 1), (954, .iadd, 1), (955, .iaload, 1), (956, .aload_n 0, 1), (957, .iload 4, 2), (959, .iconst 2, 1), (960, .iadd, 1), (961, .iaload, 1), (962, .aload_n 0, 1), (963, .iload 4, 2), (965, .iconst 3, 1), (966, .iadd, 1), (967, .iaload, 1), (968, .aload_n 0, 1), (969, .iload 4, 2), (971, .iconst 4, 1), (972, .iadd, 1), (973, .iaload, 1), (974, .invokevirtual 117, 3), (977, .pop, 1), (978, .goto 490, 3), (981, .aload_n 1, 1), (982, .aload_n 0, 1), (983, .iload 4, 2), (985, .iconst 1, 1), (986, .iadd, 1), (987, .iaload, 1), (988, .aload_n 0, 1), (989, .iload 4, 2), (991, .iconst 2, 1), (992, .iadd, 1), (993, .iaload, 1), (994, .invokevirtual 118, 3), (997, .pop, 1), (998, .aload_n 2, 1), (999, .aload_n 0, 1), (1000, .iload 4, 2), (1002, .iconst 1, 1), (1003, .iadd, 1), (1004, .iaload, 1), (1005, .aload_n 0, 1), (1006, .iload 4, 2)] : List (Nat × Instr × Nat)).all (fun q => decide (decode cL_law q.1 = .ok q.2)) = true := by decide +kernel
set_option maxRecDepth 100000 in
theorem dq53_13 : ([(1008, .iconst 2, 1), (1009, .iadd, 1), (1010, .iaload, 1), (1011, .invokevirtual 121, 3), (1014, .pop, 1), (1015, .goto 453, 3), (1018, .aload_n 1, 1), (1019, .aload_n 0, 1), (1020, .iload 4, 2), (1022, .iconst 1, 1), (1023, .iadd, 1), (1024, .iaload, 1), (1025, .invokevirtual 122, 3), (1028, .pop, 1), (1029, .aload_n 2, 1), (1030, .aload_n 0, 1), (1031, .iload 4, 2), (1033, .iconst 1, 1), (1034, .iadd, 1), (1035, .iaload, 1), (1036, .invokevirtual 125, 3), (1039, .pop, 1), (1040, .goto 428, 3), (1043, .aload_n 1, 1), (1044, .invokevirtual 126, 3), (1047, .pop, 1), (1048, .aload_n 2, 1), (1049, .invokevirtual 129, 3), (1052, .pop, 1), (1053, .goto 415, 3), (1056, .aload_n 1, 1), (1057, .invokevirtual 130, 3), (1060, .pop, 1), (1061, .aload_n 2, 1), (1062, .invokevirtual 133, 3), (1065, .pop, 1), (1066, .goto 402, 3), (1069, .aload_n 1, 1), (1070, .aload_n 0, 1), (1071, .iload 4, 2), (1073, .iconst 1, 1), (1074, .iadd, 1)] : List (Nat × Instr × Nat)).all (fun q => decide (decode cL_law q.1 = .ok q.2)) = true := by decide +kernel
set_option maxRecDepth 100000 in
set_option maxHeartbeats 4000000 in
theorem law_6 {p : Program} {l : Launch} {e : Env} {s : State} {m : MethodId} {below : List Frame} {meth : Method} {c : Code} {cd : Cond} {b : ab_B} {D : va_G} {cA : Nat → ClassId} {o : ab_O} {xs : Nat → Int32} {n bb : Nat} {nm : String} (C : ab_cx p l e room_1 s m #[Value.ref bb] below meth c D ab_cl cA (ab_E0 b) (⟨RL, nm, "([I)Z"⟩ : MethodName) cL_law 7 ret (cd :: ab_G) room_1) (hX : va_X bb n xs s s.heap) (hb0 : b.2 0 = bb) (hb1 : b.1 = s.heap.size ∧ bb < s.heap.size) {f_X10_without : List Value → ab_H → Option ab_O} (h_X10_without : ab_M l b D ab_cl cA (ab_E0 b) yX10_without (Cond.code yX10_without cX10_without 8 (some .int) :: ab_G) ({ frames := 7, cells := 0, slots := 0, locals := 700 } : Room) f_X10_without) {f_X11_without : List Value → ab_H → Option ab_O} (h_X11_without : ab_M l b D ab_cl cA (ab_E0 b) yX11_without (Cond.code yX11_without cX11_without 10 (some .int) :: ab_G) ({ frames := 9, cells := 0, slots := 0, locals := 900 } : Room) f_X11_without) {f_X10_meet : List Value → ab_H → Option ab_O} (h_X10_meet : ab_M l b D ab_cl cA (ab_E0 b) yX10_meet (Cond.code yX10_meet cX10_meet 4 (some .int) :: ab_G) ({ frames := 6, cells := 0, slots := 0, locals := 600 } : Room) f_X10_meet) {f_X11_meet : List Value → ab_H → Option ab_O} (h_X11_meet : ab_M l b D ab_cl cA (ab_E0 b) yX11_meet (Cond.code yX11_meet cX11_meet 5 (some .int) :: ab_G) ({ frames := 9, cells := 0, slots := 0, locals := 900 } : Room) f_X11_meet) {f_X10_loads : List Value → ab_H → Option ab_O} (h_X10_loads : ab_M l b D ab_cl cA (ab_E0 b) yX10_loads (Cond.code yX10_loads cX10_loads 2 (some .int) :: ab_G) ({ frames := 6, cells := 0, slots := 0, locals := 600 } : Room) f_X10_loads) {f_X11_loads : List Value → ab_H → Option ab_O} (h_X11_loads : ab_M l b D ab_cl cA (ab_E0 b) yX11_loads (Cond.code yX11_loads cX11_loads 4 (some .int) :: ab_G) ({ frames := 9, cells := 0, slots := 0, locals := 900 } : Room) f_X11_loads) {f_X10_which : List Value → ab_H → Option ab_O} (h_X10_which : ab_M l b D ab_cl cA (ab_E0 b) yX10_which (Cond.code yX10_which cX10_which 6 (some .int) :: ab_G) ({ frames := 5, cells := 0, slots := 0, locals := 500 } : Room) f_X10_which) {f_X11_which : List Value → ab_H → Option ab_O} (h_X11_which : ab_M l b D ab_cl cA (ab_E0 b) yX11_which (Cond.code yX11_which cX11_which 7 (some .int) :: ab_G) ({ frames := 2, cells := 0, slots := 0, locals := 200 } : Room) f_X11_which) {f_X10_settles : List Value → ab_H → Option ab_O} (h_X10_settles : ab_M l b D ab_cl cA (ab_E0 b) yX10_settles (Cond.code yX10_settles cX10_settles 2 (some .int) :: ab_G) ({ frames := 6, cells := 0, slots := 0, locals := 600 } : Room) f_X10_settles) {f_X11_settles : List Value → ab_H → Option ab_O} (h_X11_settles : ab_M l b D ab_cl cA (ab_E0 b) yX11_settles (Cond.code yX11_settles cX11_settles 3 (some .int) :: ab_G) ({ frames := 9, cells := 0, slots := 0, locals := 900 } : Room) f_X11_settles) : ∀ q ∈ L_law_6 xs n f_X10_without f_X11_without f_X10_meet f_X11_meet f_X10_loads f_X11_loads f_X10_which f_X11_which f_X10_settles f_X11_settles, ab_ok p l e room_1 s m #[Value.ref bb] below meth c (lw_Z below #[Value.ref bb] s) b D ab_cl cA 7 o (fun i => i) q.1 q.2 := by
  unfold L_law_6
  refine List.forall_mem_cons.mpr ⟨ok_sld C hX hb0 hb1 (show decode cL_law 944 = .ok (.iaload, 1) from dk_at dq53_12 (i := 0) rfl) rfl, ?_⟩
  refine List.forall_mem_cons.mpr ⟨ok_callV C h_X10_without ⟨rfl, rfl⟩ rfl kw_814 kw_811 kw_812 kw_813 kw_1 rfl ds_X10_without ⟨by decide, by decide⟩ (show decode cL_law 945 = .ok (.invokevirtual 113, 3) from dk_at dq53_12 (i := 1) rfl) rfl, ?_⟩
  refine List.forall_mem_cons.mpr ⟨ok_pop C (show decode cL_law 948 = .ok (.pop, 1) from dk_at dq53_12 (i := 2) rfl) rfl, ?_⟩
  refine List.forall_mem_cons.mpr ⟨ok_aload_n C (show decode cL_law 949 = .ok (.aload_n 2, 1) from dk_at dq53_12 (i := 3) rfl) rfl rfl, ?_⟩
  refine List.forall_mem_cons.mpr ⟨ok_aload_n C (show decode cL_law 950 = .ok (.aload_n 0, 1) from dk_at dq53_12 (i := 4) rfl) rfl rfl, ?_⟩
  refine List.forall_mem_cons.mpr ⟨ok_iload C (show decode cL_law 951 = .ok (.iload 4, 2) from dk_at dq53_12 (i := 5) rfl) rfl, ?_⟩
  refine List.forall_mem_cons.mpr ⟨ok_iconst C (show decode cL_law 953 = .ok (.iconst 1, 1) from dk_at dq53_12 (i := 6) rfl) (by decide) rfl, ?_⟩
  refine List.forall_mem_cons.mpr ⟨ok_iadd C (show decode cL_law 954 = .ok (.iadd, 1) from dk_at dq53_12 (i := 7) rfl) rfl, ?_⟩
  refine List.forall_mem_cons.mpr ⟨ok_sld C hX hb0 hb1 (show decode cL_law 955 = .ok (.iaload, 1) from dk_at dq53_12 (i := 8) rfl) rfl, ?_⟩
  refine List.forall_mem_cons.mpr ⟨ok_aload_n C (show decode cL_law 956 = .ok (.aload_n 0, 1) from dk_at dq53_12 (i := 9) rfl) rfl rfl, ?_⟩
  refine List.forall_mem_cons.mpr ⟨ok_iload C (show decode cL_law 957 = .ok (.iload 4, 2) from dk_at dq53_12 (i := 10) rfl) rfl, ?_⟩
  refine List.forall_mem_cons.mpr ⟨ok_iconst C (show decode cL_law 959 = .ok (.iconst 2, 1) from dk_at dq53_12 (i := 11) rfl) (by decide) rfl, ?_⟩
  refine List.forall_mem_cons.mpr ⟨ok_iadd C (show decode cL_law 960 = .ok (.iadd, 1) from dk_at dq53_12 (i := 12) rfl) rfl, ?_⟩
  refine List.forall_mem_cons.mpr ⟨ok_sld C hX hb0 hb1 (show decode cL_law 961 = .ok (.iaload, 1) from dk_at dq53_12 (i := 13) rfl) rfl, ?_⟩
  refine List.forall_mem_cons.mpr ⟨ok_aload_n C (show decode cL_law 962 = .ok (.aload_n 0, 1) from dk_at dq53_12 (i := 14) rfl) rfl rfl, ?_⟩
  refine List.forall_mem_cons.mpr ⟨ok_iload C (show decode cL_law 963 = .ok (.iload 4, 2) from dk_at dq53_12 (i := 15) rfl) rfl, ?_⟩
  refine List.forall_mem_cons.mpr ⟨ok_iconst C (show decode cL_law 965 = .ok (.iconst 3, 1) from dk_at dq53_12 (i := 16) rfl) (by decide) rfl, ?_⟩
  refine List.forall_mem_cons.mpr ⟨ok_iadd C (show decode cL_law 966 = .ok (.iadd, 1) from dk_at dq53_12 (i := 17) rfl) rfl, ?_⟩
  refine List.forall_mem_cons.mpr ⟨ok_sld C hX hb0 hb1 (show decode cL_law 967 = .ok (.iaload, 1) from dk_at dq53_12 (i := 18) rfl) rfl, ?_⟩
  refine List.forall_mem_cons.mpr ⟨ok_aload_n C (show decode cL_law 968 = .ok (.aload_n 0, 1) from dk_at dq53_12 (i := 19) rfl) rfl rfl, ?_⟩
  refine List.forall_mem_cons.mpr ⟨ok_iload C (show decode cL_law 969 = .ok (.iload 4, 2) from dk_at dq53_12 (i := 20) rfl) rfl, ?_⟩
  refine List.forall_mem_cons.mpr ⟨ok_iconst C (show decode cL_law 971 = .ok (.iconst 4, 1) from dk_at dq53_12 (i := 21) rfl) (by decide) rfl, ?_⟩
  refine List.forall_mem_cons.mpr ⟨ok_iadd C (show decode cL_law 972 = .ok (.iadd, 1) from dk_at dq53_12 (i := 22) rfl) rfl, ?_⟩
  refine List.forall_mem_cons.mpr ⟨ok_sld C hX hb0 hb1 (show decode cL_law 973 = .ok (.iaload, 1) from dk_at dq53_12 (i := 23) rfl) rfl, ?_⟩
  refine List.forall_mem_cons.mpr ⟨ok_callV C h_X11_without ⟨rfl, rfl⟩ rfl kw_1572 kw_1569 kw_1570 kw_1571 kw_11 rfl ds_X11_without ⟨by decide, by decide⟩ (show decode cL_law 974 = .ok (.invokevirtual 117, 3) from dk_at dq53_12 (i := 24) rfl) rfl, ?_⟩
  refine List.forall_mem_cons.mpr ⟨ok_pop C (show decode cL_law 977 = .ok (.pop, 1) from dk_at dq53_12 (i := 25) rfl) rfl, ?_⟩
  refine List.forall_mem_cons.mpr ⟨ok_goto C (show decode cL_law 978 = .ok (.goto 490, 3) from dk_at dq53_12 (i := 26) rfl) (tg := 1468) (by decide) rfl, ?_⟩
  refine List.forall_mem_cons.mpr ⟨ok_aload_n C (show decode cL_law 981 = .ok (.aload_n 1, 1) from dk_at dq53_12 (i := 27) rfl) rfl rfl, ?_⟩
  refine List.forall_mem_cons.mpr ⟨ok_aload_n C (show decode cL_law 982 = .ok (.aload_n 0, 1) from dk_at dq53_12 (i := 28) rfl) rfl rfl, ?_⟩
  refine List.forall_mem_cons.mpr ⟨ok_iload C (show decode cL_law 983 = .ok (.iload 4, 2) from dk_at dq53_12 (i := 29) rfl) rfl, ?_⟩
  refine List.forall_mem_cons.mpr ⟨ok_iconst C (show decode cL_law 985 = .ok (.iconst 1, 1) from dk_at dq53_12 (i := 30) rfl) (by decide) rfl, ?_⟩
  refine List.forall_mem_cons.mpr ⟨ok_iadd C (show decode cL_law 986 = .ok (.iadd, 1) from dk_at dq53_12 (i := 31) rfl) rfl, ?_⟩
  refine List.forall_mem_cons.mpr ⟨ok_sld C hX hb0 hb1 (show decode cL_law 987 = .ok (.iaload, 1) from dk_at dq53_12 (i := 32) rfl) rfl, ?_⟩
  refine List.forall_mem_cons.mpr ⟨ok_aload_n C (show decode cL_law 988 = .ok (.aload_n 0, 1) from dk_at dq53_12 (i := 33) rfl) rfl rfl, ?_⟩
  refine List.forall_mem_cons.mpr ⟨ok_iload C (show decode cL_law 989 = .ok (.iload 4, 2) from dk_at dq53_12 (i := 34) rfl) rfl, ?_⟩
  refine List.forall_mem_cons.mpr ⟨ok_iconst C (show decode cL_law 991 = .ok (.iconst 2, 1) from dk_at dq53_12 (i := 35) rfl) (by decide) rfl, ?_⟩
  refine List.forall_mem_cons.mpr ⟨ok_iadd C (show decode cL_law 992 = .ok (.iadd, 1) from dk_at dq53_12 (i := 36) rfl) rfl, ?_⟩
  refine List.forall_mem_cons.mpr ⟨ok_sld C hX hb0 hb1 (show decode cL_law 993 = .ok (.iaload, 1) from dk_at dq53_12 (i := 37) rfl) rfl, ?_⟩
  refine List.forall_mem_cons.mpr ⟨ok_callV C h_X10_meet ⟨rfl, rfl⟩ rfl kw_837 kw_834 kw_835 kw_836 kw_1 rfl ds_X10_meet ⟨by decide, by decide⟩ (show decode cL_law 994 = .ok (.invokevirtual 118, 3) from dk_at dq53_12 (i := 38) rfl) rfl, ?_⟩
  refine List.forall_mem_cons.mpr ⟨ok_pop C (show decode cL_law 997 = .ok (.pop, 1) from dk_at dq53_12 (i := 39) rfl) rfl, ?_⟩
  refine List.forall_mem_cons.mpr ⟨ok_aload_n C (show decode cL_law 998 = .ok (.aload_n 2, 1) from dk_at dq53_12 (i := 40) rfl) rfl rfl, ?_⟩
  refine List.forall_mem_cons.mpr ⟨ok_aload_n C (show decode cL_law 999 = .ok (.aload_n 0, 1) from dk_at dq53_12 (i := 41) rfl) rfl rfl, ?_⟩
  refine List.forall_mem_cons.mpr ⟨ok_iload C (show decode cL_law 1000 = .ok (.iload 4, 2) from dk_at dq53_12 (i := 42) rfl) rfl, ?_⟩
  refine List.forall_mem_cons.mpr ⟨ok_iconst C (show decode cL_law 1002 = .ok (.iconst 1, 1) from dk_at dq53_12 (i := 43) rfl) (by decide) rfl, ?_⟩
  refine List.forall_mem_cons.mpr ⟨ok_iadd C (show decode cL_law 1003 = .ok (.iadd, 1) from dk_at dq53_12 (i := 44) rfl) rfl, ?_⟩
  refine List.forall_mem_cons.mpr ⟨ok_sld C hX hb0 hb1 (show decode cL_law 1004 = .ok (.iaload, 1) from dk_at dq53_12 (i := 45) rfl) rfl, ?_⟩
  refine List.forall_mem_cons.mpr ⟨ok_aload_n C (show decode cL_law 1005 = .ok (.aload_n 0, 1) from dk_at dq53_12 (i := 46) rfl) rfl rfl, ?_⟩
  refine List.forall_mem_cons.mpr ⟨ok_iload C (show decode cL_law 1006 = .ok (.iload 4, 2) from dk_at dq53_12 (i := 47) rfl) rfl, ?_⟩
  refine List.forall_mem_cons.mpr ⟨ok_iconst C (show decode cL_law 1008 = .ok (.iconst 2, 1) from dk_at dq53_13 (i := 0) rfl) (by decide) rfl, ?_⟩
  refine List.forall_mem_cons.mpr ⟨ok_iadd C (show decode cL_law 1009 = .ok (.iadd, 1) from dk_at dq53_13 (i := 1) rfl) rfl, ?_⟩
  refine List.forall_mem_cons.mpr ⟨ok_sld C hX hb0 hb1 (show decode cL_law 1010 = .ok (.iaload, 1) from dk_at dq53_13 (i := 2) rfl) rfl, ?_⟩
  refine List.forall_mem_cons.mpr ⟨ok_callV C h_X11_meet ⟨rfl, rfl⟩ rfl kw_1576 kw_1573 kw_1574 kw_1575 kw_11 rfl ds_X11_meet ⟨by decide, by decide⟩ (show decode cL_law 1011 = .ok (.invokevirtual 121, 3) from dk_at dq53_13 (i := 3) rfl) rfl, ?_⟩
  refine List.forall_mem_cons.mpr ⟨ok_pop C (show decode cL_law 1014 = .ok (.pop, 1) from dk_at dq53_13 (i := 4) rfl) rfl, ?_⟩
  refine List.forall_mem_cons.mpr ⟨ok_goto C (show decode cL_law 1015 = .ok (.goto 453, 3) from dk_at dq53_13 (i := 5) rfl) (tg := 1468) (by decide) rfl, ?_⟩
  refine List.forall_mem_cons.mpr ⟨ok_aload_n C (show decode cL_law 1018 = .ok (.aload_n 1, 1) from dk_at dq53_13 (i := 6) rfl) rfl rfl, ?_⟩
  refine List.forall_mem_cons.mpr ⟨ok_aload_n C (show decode cL_law 1019 = .ok (.aload_n 0, 1) from dk_at dq53_13 (i := 7) rfl) rfl rfl, ?_⟩
  refine List.forall_mem_cons.mpr ⟨ok_iload C (show decode cL_law 1020 = .ok (.iload 4, 2) from dk_at dq53_13 (i := 8) rfl) rfl, ?_⟩
  refine List.forall_mem_cons.mpr ⟨ok_iconst C (show decode cL_law 1022 = .ok (.iconst 1, 1) from dk_at dq53_13 (i := 9) rfl) (by decide) rfl, ?_⟩
  refine List.forall_mem_cons.mpr ⟨ok_iadd C (show decode cL_law 1023 = .ok (.iadd, 1) from dk_at dq53_13 (i := 10) rfl) rfl, ?_⟩
  refine List.forall_mem_cons.mpr ⟨ok_sld C hX hb0 hb1 (show decode cL_law 1024 = .ok (.iaload, 1) from dk_at dq53_13 (i := 11) rfl) rfl, ?_⟩
  refine List.forall_mem_cons.mpr ⟨ok_callV C h_X10_loads ⟨rfl, rfl⟩ rfl kw_841 kw_838 kw_839 kw_840 kw_1 rfl ds_X10_loads ⟨by decide, by decide⟩ (show decode cL_law 1025 = .ok (.invokevirtual 122, 3) from dk_at dq53_13 (i := 12) rfl) rfl, ?_⟩
  refine List.forall_mem_cons.mpr ⟨ok_pop C (show decode cL_law 1028 = .ok (.pop, 1) from dk_at dq53_13 (i := 13) rfl) rfl, ?_⟩
  refine List.forall_mem_cons.mpr ⟨ok_aload_n C (show decode cL_law 1029 = .ok (.aload_n 2, 1) from dk_at dq53_13 (i := 14) rfl) rfl rfl, ?_⟩
  refine List.forall_mem_cons.mpr ⟨ok_aload_n C (show decode cL_law 1030 = .ok (.aload_n 0, 1) from dk_at dq53_13 (i := 15) rfl) rfl rfl, ?_⟩
  refine List.forall_mem_cons.mpr ⟨ok_iload C (show decode cL_law 1031 = .ok (.iload 4, 2) from dk_at dq53_13 (i := 16) rfl) rfl, ?_⟩
  refine List.forall_mem_cons.mpr ⟨ok_iconst C (show decode cL_law 1033 = .ok (.iconst 1, 1) from dk_at dq53_13 (i := 17) rfl) (by decide) rfl, ?_⟩
  refine List.forall_mem_cons.mpr ⟨ok_iadd C (show decode cL_law 1034 = .ok (.iadd, 1) from dk_at dq53_13 (i := 18) rfl) rfl, ?_⟩
  refine List.forall_mem_cons.mpr ⟨ok_sld C hX hb0 hb1 (show decode cL_law 1035 = .ok (.iaload, 1) from dk_at dq53_13 (i := 19) rfl) rfl, ?_⟩
  refine List.forall_mem_cons.mpr ⟨ok_callV C h_X11_loads ⟨rfl, rfl⟩ rfl kw_1580 kw_1577 kw_1578 kw_1579 kw_11 rfl ds_X11_loads ⟨by decide, by decide⟩ (show decode cL_law 1036 = .ok (.invokevirtual 125, 3) from dk_at dq53_13 (i := 20) rfl) rfl, ?_⟩
  refine List.forall_mem_cons.mpr ⟨ok_pop C (show decode cL_law 1039 = .ok (.pop, 1) from dk_at dq53_13 (i := 21) rfl) rfl, ?_⟩
  refine List.forall_mem_cons.mpr ⟨ok_goto C (show decode cL_law 1040 = .ok (.goto 428, 3) from dk_at dq53_13 (i := 22) rfl) (tg := 1468) (by decide) rfl, ?_⟩
  refine List.forall_mem_cons.mpr ⟨ok_aload_n C (show decode cL_law 1043 = .ok (.aload_n 1, 1) from dk_at dq53_13 (i := 23) rfl) rfl rfl, ?_⟩
  refine List.forall_mem_cons.mpr ⟨ok_callV C h_X10_which ⟨rfl, rfl⟩ rfl kw_857 kw_854 kw_855 kw_856 kw_1 rfl ds_X10_which ⟨by decide, by decide⟩ (show decode cL_law 1044 = .ok (.invokevirtual 126, 3) from dk_at dq53_13 (i := 24) rfl) rfl, ?_⟩
  refine List.forall_mem_cons.mpr ⟨ok_pop C (show decode cL_law 1047 = .ok (.pop, 1) from dk_at dq53_13 (i := 25) rfl) rfl, ?_⟩
  refine List.forall_mem_cons.mpr ⟨ok_aload_n C (show decode cL_law 1048 = .ok (.aload_n 2, 1) from dk_at dq53_13 (i := 26) rfl) rfl rfl, ?_⟩
  refine List.forall_mem_cons.mpr ⟨ok_callV C h_X11_which ⟨rfl, rfl⟩ rfl kw_1584 kw_1581 kw_1582 kw_1583 kw_11 rfl ds_X11_which ⟨by decide, by decide⟩ (show decode cL_law 1049 = .ok (.invokevirtual 129, 3) from dk_at dq53_13 (i := 27) rfl) rfl, ?_⟩
  refine List.forall_mem_cons.mpr ⟨ok_pop C (show decode cL_law 1052 = .ok (.pop, 1) from dk_at dq53_13 (i := 28) rfl) rfl, ?_⟩
  refine List.forall_mem_cons.mpr ⟨ok_goto C (show decode cL_law 1053 = .ok (.goto 415, 3) from dk_at dq53_13 (i := 29) rfl) (tg := 1468) (by decide) rfl, ?_⟩
  refine List.forall_mem_cons.mpr ⟨ok_aload_n C (show decode cL_law 1056 = .ok (.aload_n 1, 1) from dk_at dq53_13 (i := 30) rfl) rfl rfl, ?_⟩
  refine List.forall_mem_cons.mpr ⟨ok_callV C h_X10_settles ⟨rfl, rfl⟩ rfl kw_845 kw_842 kw_843 kw_844 kw_1 rfl ds_X10_settles ⟨by decide, by decide⟩ (show decode cL_law 1057 = .ok (.invokevirtual 130, 3) from dk_at dq53_13 (i := 31) rfl) rfl, ?_⟩
  refine List.forall_mem_cons.mpr ⟨ok_pop C (show decode cL_law 1060 = .ok (.pop, 1) from dk_at dq53_13 (i := 32) rfl) rfl, ?_⟩
  refine List.forall_mem_cons.mpr ⟨ok_aload_n C (show decode cL_law 1061 = .ok (.aload_n 2, 1) from dk_at dq53_13 (i := 33) rfl) rfl rfl, ?_⟩
  refine List.forall_mem_cons.mpr ⟨ok_callV C h_X11_settles ⟨rfl, rfl⟩ rfl kw_1592 kw_1589 kw_1590 kw_1591 kw_11 rfl ds_X11_settles ⟨by decide, by decide⟩ (show decode cL_law 1062 = .ok (.invokevirtual 133, 3) from dk_at dq53_13 (i := 34) rfl) rfl, ?_⟩
  refine List.forall_mem_cons.mpr ⟨ok_pop C (show decode cL_law 1065 = .ok (.pop, 1) from dk_at dq53_13 (i := 35) rfl) rfl, ?_⟩
  refine List.forall_mem_cons.mpr ⟨ok_goto C (show decode cL_law 1066 = .ok (.goto 402, 3) from dk_at dq53_13 (i := 36) rfl) (tg := 1468) (by decide) rfl, ?_⟩
  refine List.forall_mem_cons.mpr ⟨ok_aload_n C (show decode cL_law 1069 = .ok (.aload_n 1, 1) from dk_at dq53_13 (i := 37) rfl) rfl rfl, ?_⟩
  refine List.forall_mem_cons.mpr ⟨ok_aload_n C (show decode cL_law 1070 = .ok (.aload_n 0, 1) from dk_at dq53_13 (i := 38) rfl) rfl rfl, ?_⟩
  refine List.forall_mem_cons.mpr ⟨ok_iload C (show decode cL_law 1071 = .ok (.iload 4, 2) from dk_at dq53_13 (i := 39) rfl) rfl, ?_⟩
  refine List.forall_mem_cons.mpr ⟨ok_iconst C (show decode cL_law 1073 = .ok (.iconst 1, 1) from dk_at dq53_13 (i := 40) rfl) (by decide) rfl, ?_⟩
  refine List.forall_mem_cons.mpr ⟨ok_iadd C (show decode cL_law 1074 = .ok (.iadd, 1) from dk_at dq53_13 (i := 41) rfl) rfl, ?_⟩
  exact fun _ h => absurd h List.not_mem_nil
def L_law_7 (xs : Nat → Int32) (n : Nat) (f_X10_hunger : List Value → ab_H → Option ab_O) (f_X11_hunger : List Value → ab_H → Option ab_O) (f_X10_prices : List Value → ab_H → Option ab_O) (f_X11_prices : List Value → ab_H → Option ab_O) (f_X10_price : List Value → ab_H → Option ab_O) (f_X11_price : List Value → ab_H → Option ab_O) (f_X10_dearest : List Value → ab_H → Option ab_O) (f_X11_dearest : List Value → ab_H → Option ab_O) (f_X10_rats : List Value → ab_H → Option ab_O) (f_X11_rats : List Value → ab_H → Option ab_O) (f_X10_hoarded : List Value → ab_H → Option ab_O) : List (Nat × ab_A) := [
  (1075, ab_nx 1076 (ab_sld xs n)),
  (1076, ab_nx 1077 (ab_aload 0)),
  (1077, ab_nx 1079 (ab_iload 4)),
  (1079, ab_nx 1080 (ab_lit (.int 2))),
  (1080, ab_nx 1081 (ab_bin (fun x y => x + y))),
  (1081, ab_nx 1082 (ab_sld xs n)),
  (1082, ab_nx 1083 (ab_aload 0)),
  (1083, ab_nx 1085 (ab_iload 4)),
  (1085, ab_nx 1086 (ab_lit (.int 3))),
  (1086, ab_nx 1087 (ab_bin (fun x y => x + y))),
  (1087, ab_nx 1088 (ab_sld xs n)),
  (1088, ab_nx 1091 (ab_callV 4 10 f_X10_hunger 0 0 709736 6966897)),
  (1091, ab_nx 1092 ab_pop),
  (1092, ab_nx 1093 (ab_aload 2)),
  (1093, ab_nx 1094 (ab_aload 0)),
  (1094, ab_nx 1096 (ab_iload 4)),
  (1096, ab_nx 1097 (ab_lit (.int 1))),
  (1097, ab_nx 1098 (ab_bin (fun x y => x + y))),
  (1098, ab_nx 1099 (ab_sld xs n)),
  (1099, ab_nx 1100 (ab_aload 0)),
  (1100, ab_nx 1102 (ab_iload 4)),
  (1102, ab_nx 1103 (ab_lit (.int 2))),
  (1103, ab_nx 1104 (ab_bin (fun x y => x + y))),
  (1104, ab_nx 1105 (ab_sld xs n)),
  (1105, ab_nx 1106 (ab_aload 0)),
  (1106, ab_nx 1108 (ab_iload 4)),
  (1108, ab_nx 1109 (ab_lit (.int 3))),
  (1109, ab_nx 1110 (ab_bin (fun x y => x + y))),
  (1110, ab_nx 1111 (ab_sld xs n)),
  (1111, ab_nx 1114 (ab_callV 4 11 f_X11_hunger 0 0 709736 6966897)),
  (1114, ab_nx 1115 ab_pop),
  (1115, ab_goto 1468),
  (1118, ab_nx 1119 (ab_aload 1)),
  (1119, ab_nx 1122 (ab_callV 1 10 f_X10_prices 0 0 709736 6966897)),
  (1122, ab_nx 1123 ab_pop),
  (1123, ab_nx 1124 (ab_aload 2)),
  (1124, ab_nx 1127 (ab_callV 1 11 f_X11_prices 0 0 709736 6966897)),
  (1127, ab_nx 1128 ab_pop),
  (1128, ab_goto 1468),
  (1131, ab_nx 1132 (ab_aload 1)),
  (1132, ab_nx 1133 (ab_aload 0)),
  (1133, ab_nx 1135 (ab_iload 4)),
  (1135, ab_nx 1136 (ab_lit (.int 1))),
  (1136, ab_nx 1137 (ab_bin (fun x y => x + y))),
  (1137, ab_nx 1138 (ab_sld xs n)),
  (1138, ab_nx 1139 (ab_aload 0)),
  (1139, ab_nx 1141 (ab_iload 4)),
  (1141, ab_nx 1142 (ab_lit (.int 2))),
  (1142, ab_nx 1143 (ab_bin (fun x y => x + y))),
  (1143, ab_nx 1144 (ab_sld xs n)),
  (1144, ab_nx 1147 (ab_callV 3 10 f_X10_price 0 0 709736 6966897)),
  (1147, ab_nx 1148 ab_pop),
  (1148, ab_nx 1149 (ab_aload 2)),
  (1149, ab_nx 1150 (ab_aload 0)),
  (1150, ab_nx 1152 (ab_iload 4)),
  (1152, ab_nx 1153 (ab_lit (.int 1))),
  (1153, ab_nx 1154 (ab_bin (fun x y => x + y))),
  (1154, ab_nx 1155 (ab_sld xs n)),
  (1155, ab_nx 1156 (ab_aload 0)),
  (1156, ab_nx 1158 (ab_iload 4)),
  (1158, ab_nx 1159 (ab_lit (.int 2))),
  (1159, ab_nx 1160 (ab_bin (fun x y => x + y))),
  (1160, ab_nx 1161 (ab_sld xs n)),
  (1161, ab_nx 1164 (ab_callV 3 11 f_X11_price 0 0 709736 6966897)),
  (1164, ab_nx 1165 ab_pop),
  (1165, ab_goto 1468),
  (1168, ab_nx 1169 (ab_aload 1)),
  (1169, ab_nx 1172 (ab_callV 1 10 f_X10_dearest 0 0 709736 6966897)),
  (1172, ab_nx 1173 ab_pop),
  (1173, ab_nx 1174 (ab_aload 2)),
  (1174, ab_nx 1177 (ab_callV 1 11 f_X11_dearest 0 0 709736 6966897)),
  (1177, ab_nx 1178 ab_pop),
  (1178, ab_goto 1468),
  (1181, ab_nx 1182 (ab_aload 1)),
  (1182, ab_nx 1185 (ab_callV 1 10 f_X10_rats 0 0 709736 6966897)),
  (1185, ab_nx 1186 ab_pop),
  (1186, ab_nx 1187 (ab_aload 2)),
  (1187, ab_nx 1190 (ab_callV 1 11 f_X11_rats 0 0 709736 6966897)),
  (1190, ab_nx 1191 ab_pop),
  (1191, ab_goto 1468),
  (1194, ab_nx 1195 (ab_aload 1)),
  (1195, ab_nx 1196 (ab_aload 0)),
  (1196, ab_nx 1198 (ab_iload 4)),
  (1198, ab_nx 1199 (ab_lit (.int 1))),
  (1199, ab_nx 1200 (ab_bin (fun x y => x + y))),
  (1200, ab_nx 1201 (ab_sld xs n)),
  (1201, ab_nx 1204 (ab_callV 2 10 f_X10_hoarded 0 0 709736 6966897)),
  (1204, ab_nx 1205 ab_pop),
  (1205, ab_nx 1206 (ab_aload 2)),
  (1206, ab_nx 1207 (ab_aload 0))]
set_option maxRecDepth 100000 in
theorem dq53_14 : ([(1075, .iaload, 1), (1076, .aload_n 0, 1), (1077, .iload 4, 2), (1079, .iconst 2, 1), (1080, .iadd, 1), (1081, .iaload, 1), (1082, .aload_n 0, 1), (1083, .iload 4, 2), (1085, .iconst 3, 1), (1086, .iadd, 1), (1087, .iaload, 1), (1088, .invokevirtual 134, 3), (1091, .pop, 1), (1092, .aload_n 2, 1), (1093, .aload_n 0, 1), (1094, .iload 4, 2), (1096, .iconst 1, 1), (1097, .iadd, 1), (1098, .iaload, 1), (1099, .aload_n 0, 1), (1100, .iload 4, 2), (1102, .iconst 2, 1), (1103, .iadd, 1), (1104, .iaload, 1), (1105, .aload_n 0, 1), (1106, .iload 4, 2), (1108, .iconst 3, 1), (1109, .iadd, 1), (1110, .iaload, 1), (1111, .invokevirtual 137, 3), (1114, .pop, 1), (1115, .goto 353, 3), (1118, .aload_n 1, 1), (1119, .invokevirtual 138, 3), (1122, .pop, 1), (1123, .aload_n 2, 1), (1124, .invokevirtual 141, 3), (1127, .pop, 1), (1128, .goto 340, 3), (1131, .aload_n 1, 1), (1132, .aload_n 0, 1), (1133, .iload 4, 2), (1135, .iconst 1, 1), (1136, .iadd, 1), (1137, .iaload, 1), (1138, .aload_n 0, 1), (1139, .iload 4, 2), (1141, .iconst 2, 1)] : List (Nat × Instr × Nat)).all (fun q => decide (decode cL_law q.1 = .ok q.2)) = true := by decide +kernel
set_option maxRecDepth 100000 in
theorem dq53_15 : ([(1142, .iadd, 1), (1143, .iaload, 1), (1144, .invokevirtual 142, 3), (1147, .pop, 1), (1148, .aload_n 2, 1), (1149, .aload_n 0, 1), (1150, .iload 4, 2), (1152, .iconst 1, 1), (1153, .iadd, 1), (1154, .iaload, 1), (1155, .aload_n 0, 1), (1156, .iload 4, 2), (1158, .iconst 2, 1), (1159, .iadd, 1), (1160, .iaload, 1), (1161, .invokevirtual 145, 3), (1164, .pop, 1), (1165, .goto 303, 3), (1168, .aload_n 1, 1), (1169, .invokevirtual 146, 3), (1172, .pop, 1), (1173, .aload_n 2, 1), (1174, .invokevirtual 149, 3), (1177, .pop, 1), (1178, .goto 290, 3), (1181, .aload_n 1, 1), (1182, .invokevirtual 150, 3), (1185, .pop, 1), (1186, .aload_n 2, 1), (1187, .invokevirtual 153, 3), (1190, .pop, 1), (1191, .goto 277, 3), (1194, .aload_n 1, 1), (1195, .aload_n 0, 1), (1196, .iload 4, 2), (1198, .iconst 1, 1), (1199, .iadd, 1), (1200, .iaload, 1), (1201, .invokevirtual 154, 3), (1204, .pop, 1), (1205, .aload_n 2, 1), (1206, .aload_n 0, 1)] : List (Nat × Instr × Nat)).all (fun q => decide (decode cL_law q.1 = .ok q.2)) = true := by decide +kernel
set_option maxRecDepth 100000 in
set_option maxHeartbeats 4000000 in
theorem law_7 {p : Program} {l : Launch} {e : Env} {s : State} {m : MethodId} {below : List Frame} {meth : Method} {c : Code} {cd : Cond} {b : ab_B} {D : va_G} {cA : Nat → ClassId} {o : ab_O} {xs : Nat → Int32} {n bb : Nat} {nm : String} (C : ab_cx p l e room_1 s m #[Value.ref bb] below meth c D ab_cl cA (ab_E0 b) (⟨RL, nm, "([I)Z"⟩ : MethodName) cL_law 7 ret (cd :: ab_G) room_1) (hX : va_X bb n xs s s.heap) (hb0 : b.2 0 = bb) (hb1 : b.1 = s.heap.size ∧ bb < s.heap.size) {f_X10_hunger : List Value → ab_H → Option ab_O} (h_X10_hunger : ab_M l b D ab_cl cA (ab_E0 b) yX10_hunger (Cond.code yX10_hunger cX10_hunger 5 (some .int) :: ab_G) ({ frames := 6, cells := 0, slots := 0, locals := 600 } : Room) f_X10_hunger) {f_X11_hunger : List Value → ab_H → Option ab_O} (h_X11_hunger : ab_M l b D ab_cl cA (ab_E0 b) yX11_hunger (Cond.code yX11_hunger cX11_hunger 6 (some .int) :: ab_G) ({ frames := 9, cells := 0, slots := 0, locals := 900 } : Room) f_X11_hunger) {f_X10_prices : List Value → ab_H → Option ab_O} (h_X10_prices : ab_M l b D ab_cl cA (ab_E0 b) yX10_prices (Cond.code yX10_prices cX10_prices 2 (some .int) :: ab_G) ({ frames := 6, cells := 0, slots := 0, locals := 600 } : Room) f_X10_prices) {f_X11_prices : List Value → ab_H → Option ab_O} (h_X11_prices : ab_M l b D ab_cl cA (ab_E0 b) yX11_prices (Cond.code yX11_prices cX11_prices 5 (some .int) :: ab_G) ({ frames := 9, cells := 0, slots := 0, locals := 900 } : Room) f_X11_prices) {f_X10_price : List Value → ab_H → Option ab_O} (h_X10_price : ab_M l b D ab_cl cA (ab_E0 b) yX10_price (Cond.code yX10_price cX10_price 4 (some .int) :: ab_G) ({ frames := 2, cells := 0, slots := 0, locals := 200 } : Room) f_X10_price) {f_X11_price : List Value → ab_H → Option ab_O} (h_X11_price : ab_M l b D ab_cl cA (ab_E0 b) yX11_price (Cond.code yX11_price cX11_price 3 (some .int) :: ab_G) ({ frames := 3, cells := 0, slots := 0, locals := 300 } : Room) f_X11_price) {f_X10_dearest : List Value → ab_H → Option ab_O} (h_X10_dearest : ab_M l b D ab_cl cA (ab_E0 b) yX10_dearest (Cond.code yX10_dearest cX10_dearest 5 (some .int) :: ab_G) ({ frames := 4, cells := 0, slots := 0, locals := 400 } : Room) f_X10_dearest) {f_X11_dearest : List Value → ab_H → Option ab_O} (h_X11_dearest : ab_M l b D ab_cl cA (ab_E0 b) yX11_dearest (Cond.code yX11_dearest cX11_dearest 4 (some .int) :: ab_G) ({ frames := 6, cells := 0, slots := 0, locals := 600 } : Room) f_X11_dearest) {f_X10_rats : List Value → ab_H → Option ab_O} (h_X10_rats : ab_M l b D ab_cl cA (ab_E0 b) yX10_rats (Cond.code yX10_rats cX10_rats 3 (some .int) :: ab_G) ({ frames := 3, cells := 0, slots := 0, locals := 300 } : Room) f_X10_rats) {f_X11_rats : List Value → ab_H → Option ab_O} (h_X11_rats : ab_M l b D ab_cl cA (ab_E0 b) yX11_rats (Cond.code yX11_rats cX11_rats 3 (some .int) :: ab_G) ({ frames := 4, cells := 0, slots := 0, locals := 400 } : Room) f_X11_rats) {f_X10_hoarded : List Value → ab_H → Option ab_O} (h_X10_hoarded : ab_M l b D ab_cl cA (ab_E0 b) yX10_hoarded (Cond.code yX10_hoarded cX10_hoarded 6 (some .int) :: ab_G) ({ frames := 2, cells := 0, slots := 0, locals := 200 } : Room) f_X10_hoarded) : ∀ q ∈ L_law_7 xs n f_X10_hunger f_X11_hunger f_X10_prices f_X11_prices f_X10_price f_X11_price f_X10_dearest f_X11_dearest f_X10_rats f_X11_rats f_X10_hoarded, ab_ok p l e room_1 s m #[Value.ref bb] below meth c (lw_Z below #[Value.ref bb] s) b D ab_cl cA 7 o (fun i => i) q.1 q.2 := by
  unfold L_law_7
  refine List.forall_mem_cons.mpr ⟨ok_sld C hX hb0 hb1 (show decode cL_law 1075 = .ok (.iaload, 1) from dk_at dq53_14 (i := 0) rfl) rfl, ?_⟩
  refine List.forall_mem_cons.mpr ⟨ok_aload_n C (show decode cL_law 1076 = .ok (.aload_n 0, 1) from dk_at dq53_14 (i := 1) rfl) rfl rfl, ?_⟩
  refine List.forall_mem_cons.mpr ⟨ok_iload C (show decode cL_law 1077 = .ok (.iload 4, 2) from dk_at dq53_14 (i := 2) rfl) rfl, ?_⟩
  refine List.forall_mem_cons.mpr ⟨ok_iconst C (show decode cL_law 1079 = .ok (.iconst 2, 1) from dk_at dq53_14 (i := 3) rfl) (by decide) rfl, ?_⟩
  refine List.forall_mem_cons.mpr ⟨ok_iadd C (show decode cL_law 1080 = .ok (.iadd, 1) from dk_at dq53_14 (i := 4) rfl) rfl, ?_⟩
  refine List.forall_mem_cons.mpr ⟨ok_sld C hX hb0 hb1 (show decode cL_law 1081 = .ok (.iaload, 1) from dk_at dq53_14 (i := 5) rfl) rfl, ?_⟩
  refine List.forall_mem_cons.mpr ⟨ok_aload_n C (show decode cL_law 1082 = .ok (.aload_n 0, 1) from dk_at dq53_14 (i := 6) rfl) rfl rfl, ?_⟩
  refine List.forall_mem_cons.mpr ⟨ok_iload C (show decode cL_law 1083 = .ok (.iload 4, 2) from dk_at dq53_14 (i := 7) rfl) rfl, ?_⟩
  refine List.forall_mem_cons.mpr ⟨ok_iconst C (show decode cL_law 1085 = .ok (.iconst 3, 1) from dk_at dq53_14 (i := 8) rfl) (by decide) rfl, ?_⟩
  refine List.forall_mem_cons.mpr ⟨ok_iadd C (show decode cL_law 1086 = .ok (.iadd, 1) from dk_at dq53_14 (i := 9) rfl) rfl, ?_⟩
  refine List.forall_mem_cons.mpr ⟨ok_sld C hX hb0 hb1 (show decode cL_law 1087 = .ok (.iaload, 1) from dk_at dq53_14 (i := 10) rfl) rfl, ?_⟩
  refine List.forall_mem_cons.mpr ⟨ok_callV C h_X10_hunger ⟨rfl, rfl⟩ rfl kw_853 kw_850 kw_851 kw_852 kw_1 rfl ds_X10_hunger ⟨by decide, by decide⟩ (show decode cL_law 1088 = .ok (.invokevirtual 134, 3) from dk_at dq53_14 (i := 11) rfl) rfl, ?_⟩
  refine List.forall_mem_cons.mpr ⟨ok_pop C (show decode cL_law 1091 = .ok (.pop, 1) from dk_at dq53_14 (i := 12) rfl) rfl, ?_⟩
  refine List.forall_mem_cons.mpr ⟨ok_aload_n C (show decode cL_law 1092 = .ok (.aload_n 2, 1) from dk_at dq53_14 (i := 13) rfl) rfl rfl, ?_⟩
  refine List.forall_mem_cons.mpr ⟨ok_aload_n C (show decode cL_law 1093 = .ok (.aload_n 0, 1) from dk_at dq53_14 (i := 14) rfl) rfl rfl, ?_⟩
  refine List.forall_mem_cons.mpr ⟨ok_iload C (show decode cL_law 1094 = .ok (.iload 4, 2) from dk_at dq53_14 (i := 15) rfl) rfl, ?_⟩
  refine List.forall_mem_cons.mpr ⟨ok_iconst C (show decode cL_law 1096 = .ok (.iconst 1, 1) from dk_at dq53_14 (i := 16) rfl) (by decide) rfl, ?_⟩
  refine List.forall_mem_cons.mpr ⟨ok_iadd C (show decode cL_law 1097 = .ok (.iadd, 1) from dk_at dq53_14 (i := 17) rfl) rfl, ?_⟩
  refine List.forall_mem_cons.mpr ⟨ok_sld C hX hb0 hb1 (show decode cL_law 1098 = .ok (.iaload, 1) from dk_at dq53_14 (i := 18) rfl) rfl, ?_⟩
  refine List.forall_mem_cons.mpr ⟨ok_aload_n C (show decode cL_law 1099 = .ok (.aload_n 0, 1) from dk_at dq53_14 (i := 19) rfl) rfl rfl, ?_⟩
  refine List.forall_mem_cons.mpr ⟨ok_iload C (show decode cL_law 1100 = .ok (.iload 4, 2) from dk_at dq53_14 (i := 20) rfl) rfl, ?_⟩
  refine List.forall_mem_cons.mpr ⟨ok_iconst C (show decode cL_law 1102 = .ok (.iconst 2, 1) from dk_at dq53_14 (i := 21) rfl) (by decide) rfl, ?_⟩
  refine List.forall_mem_cons.mpr ⟨ok_iadd C (show decode cL_law 1103 = .ok (.iadd, 1) from dk_at dq53_14 (i := 22) rfl) rfl, ?_⟩
  refine List.forall_mem_cons.mpr ⟨ok_sld C hX hb0 hb1 (show decode cL_law 1104 = .ok (.iaload, 1) from dk_at dq53_14 (i := 23) rfl) rfl, ?_⟩
  refine List.forall_mem_cons.mpr ⟨ok_aload_n C (show decode cL_law 1105 = .ok (.aload_n 0, 1) from dk_at dq53_14 (i := 24) rfl) rfl rfl, ?_⟩
  refine List.forall_mem_cons.mpr ⟨ok_iload C (show decode cL_law 1106 = .ok (.iload 4, 2) from dk_at dq53_14 (i := 25) rfl) rfl, ?_⟩
  refine List.forall_mem_cons.mpr ⟨ok_iconst C (show decode cL_law 1108 = .ok (.iconst 3, 1) from dk_at dq53_14 (i := 26) rfl) (by decide) rfl, ?_⟩
  refine List.forall_mem_cons.mpr ⟨ok_iadd C (show decode cL_law 1109 = .ok (.iadd, 1) from dk_at dq53_14 (i := 27) rfl) rfl, ?_⟩
  refine List.forall_mem_cons.mpr ⟨ok_sld C hX hb0 hb1 (show decode cL_law 1110 = .ok (.iaload, 1) from dk_at dq53_14 (i := 28) rfl) rfl, ?_⟩
  refine List.forall_mem_cons.mpr ⟨ok_callV C h_X11_hunger ⟨rfl, rfl⟩ rfl kw_1604 kw_1601 kw_1602 kw_1603 kw_11 rfl ds_X11_hunger ⟨by decide, by decide⟩ (show decode cL_law 1111 = .ok (.invokevirtual 137, 3) from dk_at dq53_14 (i := 29) rfl) rfl, ?_⟩
  refine List.forall_mem_cons.mpr ⟨ok_pop C (show decode cL_law 1114 = .ok (.pop, 1) from dk_at dq53_14 (i := 30) rfl) rfl, ?_⟩
  refine List.forall_mem_cons.mpr ⟨ok_goto C (show decode cL_law 1115 = .ok (.goto 353, 3) from dk_at dq53_14 (i := 31) rfl) (tg := 1468) (by decide) rfl, ?_⟩
  refine List.forall_mem_cons.mpr ⟨ok_aload_n C (show decode cL_law 1118 = .ok (.aload_n 1, 1) from dk_at dq53_14 (i := 32) rfl) rfl rfl, ?_⟩
  refine List.forall_mem_cons.mpr ⟨ok_callV C h_X10_prices ⟨rfl, rfl⟩ rfl kw_866 kw_863 kw_864 kw_865 kw_1 rfl ds_X10_prices ⟨by decide, by decide⟩ (show decode cL_law 1119 = .ok (.invokevirtual 138, 3) from dk_at dq53_14 (i := 33) rfl) rfl, ?_⟩
  refine List.forall_mem_cons.mpr ⟨ok_pop C (show decode cL_law 1122 = .ok (.pop, 1) from dk_at dq53_14 (i := 34) rfl) rfl, ?_⟩
  refine List.forall_mem_cons.mpr ⟨ok_aload_n C (show decode cL_law 1123 = .ok (.aload_n 2, 1) from dk_at dq53_14 (i := 35) rfl) rfl rfl, ?_⟩
  refine List.forall_mem_cons.mpr ⟨ok_callV C h_X11_prices ⟨rfl, rfl⟩ rfl kw_1608 kw_1605 kw_1606 kw_1607 kw_11 rfl ds_X11_prices ⟨by decide, by decide⟩ (show decode cL_law 1124 = .ok (.invokevirtual 141, 3) from dk_at dq53_14 (i := 36) rfl) rfl, ?_⟩
  refine List.forall_mem_cons.mpr ⟨ok_pop C (show decode cL_law 1127 = .ok (.pop, 1) from dk_at dq53_14 (i := 37) rfl) rfl, ?_⟩
  refine List.forall_mem_cons.mpr ⟨ok_goto C (show decode cL_law 1128 = .ok (.goto 340, 3) from dk_at dq53_14 (i := 38) rfl) (tg := 1468) (by decide) rfl, ?_⟩
  refine List.forall_mem_cons.mpr ⟨ok_aload_n C (show decode cL_law 1131 = .ok (.aload_n 1, 1) from dk_at dq53_14 (i := 39) rfl) rfl rfl, ?_⟩
  refine List.forall_mem_cons.mpr ⟨ok_aload_n C (show decode cL_law 1132 = .ok (.aload_n 0, 1) from dk_at dq53_14 (i := 40) rfl) rfl rfl, ?_⟩
  refine List.forall_mem_cons.mpr ⟨ok_iload C (show decode cL_law 1133 = .ok (.iload 4, 2) from dk_at dq53_14 (i := 41) rfl) rfl, ?_⟩
  refine List.forall_mem_cons.mpr ⟨ok_iconst C (show decode cL_law 1135 = .ok (.iconst 1, 1) from dk_at dq53_14 (i := 42) rfl) (by decide) rfl, ?_⟩
  refine List.forall_mem_cons.mpr ⟨ok_iadd C (show decode cL_law 1136 = .ok (.iadd, 1) from dk_at dq53_14 (i := 43) rfl) rfl, ?_⟩
  refine List.forall_mem_cons.mpr ⟨ok_sld C hX hb0 hb1 (show decode cL_law 1137 = .ok (.iaload, 1) from dk_at dq53_14 (i := 44) rfl) rfl, ?_⟩
  refine List.forall_mem_cons.mpr ⟨ok_aload_n C (show decode cL_law 1138 = .ok (.aload_n 0, 1) from dk_at dq53_14 (i := 45) rfl) rfl rfl, ?_⟩
  refine List.forall_mem_cons.mpr ⟨ok_iload C (show decode cL_law 1139 = .ok (.iload 4, 2) from dk_at dq53_14 (i := 46) rfl) rfl, ?_⟩
  refine List.forall_mem_cons.mpr ⟨ok_iconst C (show decode cL_law 1141 = .ok (.iconst 2, 1) from dk_at dq53_14 (i := 47) rfl) (by decide) rfl, ?_⟩
  refine List.forall_mem_cons.mpr ⟨ok_iadd C (show decode cL_law 1142 = .ok (.iadd, 1) from dk_at dq53_15 (i := 0) rfl) rfl, ?_⟩
  refine List.forall_mem_cons.mpr ⟨ok_sld C hX hb0 hb1 (show decode cL_law 1143 = .ok (.iaload, 1) from dk_at dq53_15 (i := 1) rfl) rfl, ?_⟩
  refine List.forall_mem_cons.mpr ⟨ok_callV C h_X10_price ⟨rfl, rfl⟩ rfl kw_874 kw_871 kw_872 kw_873 kw_1 rfl ds_X10_price ⟨by decide, by decide⟩ (show decode cL_law 1144 = .ok (.invokevirtual 142, 3) from dk_at dq53_15 (i := 2) rfl) rfl, ?_⟩
  refine List.forall_mem_cons.mpr ⟨ok_pop C (show decode cL_law 1147 = .ok (.pop, 1) from dk_at dq53_15 (i := 3) rfl) rfl, ?_⟩
  refine List.forall_mem_cons.mpr ⟨ok_aload_n C (show decode cL_law 1148 = .ok (.aload_n 2, 1) from dk_at dq53_15 (i := 4) rfl) rfl rfl, ?_⟩
  refine List.forall_mem_cons.mpr ⟨ok_aload_n C (show decode cL_law 1149 = .ok (.aload_n 0, 1) from dk_at dq53_15 (i := 5) rfl) rfl rfl, ?_⟩
  refine List.forall_mem_cons.mpr ⟨ok_iload C (show decode cL_law 1150 = .ok (.iload 4, 2) from dk_at dq53_15 (i := 6) rfl) rfl, ?_⟩
  refine List.forall_mem_cons.mpr ⟨ok_iconst C (show decode cL_law 1152 = .ok (.iconst 1, 1) from dk_at dq53_15 (i := 7) rfl) (by decide) rfl, ?_⟩
  refine List.forall_mem_cons.mpr ⟨ok_iadd C (show decode cL_law 1153 = .ok (.iadd, 1) from dk_at dq53_15 (i := 8) rfl) rfl, ?_⟩
  refine List.forall_mem_cons.mpr ⟨ok_sld C hX hb0 hb1 (show decode cL_law 1154 = .ok (.iaload, 1) from dk_at dq53_15 (i := 9) rfl) rfl, ?_⟩
  refine List.forall_mem_cons.mpr ⟨ok_aload_n C (show decode cL_law 1155 = .ok (.aload_n 0, 1) from dk_at dq53_15 (i := 10) rfl) rfl rfl, ?_⟩
  refine List.forall_mem_cons.mpr ⟨ok_iload C (show decode cL_law 1156 = .ok (.iload 4, 2) from dk_at dq53_15 (i := 11) rfl) rfl, ?_⟩
  refine List.forall_mem_cons.mpr ⟨ok_iconst C (show decode cL_law 1158 = .ok (.iconst 2, 1) from dk_at dq53_15 (i := 12) rfl) (by decide) rfl, ?_⟩
  refine List.forall_mem_cons.mpr ⟨ok_iadd C (show decode cL_law 1159 = .ok (.iadd, 1) from dk_at dq53_15 (i := 13) rfl) rfl, ?_⟩
  refine List.forall_mem_cons.mpr ⟨ok_sld C hX hb0 hb1 (show decode cL_law 1160 = .ok (.iaload, 1) from dk_at dq53_15 (i := 14) rfl) rfl, ?_⟩
  refine List.forall_mem_cons.mpr ⟨ok_callV C h_X11_price ⟨rfl, rfl⟩ rfl kw_1612 kw_1609 kw_1610 kw_1611 kw_11 rfl ds_X11_price ⟨by decide, by decide⟩ (show decode cL_law 1161 = .ok (.invokevirtual 145, 3) from dk_at dq53_15 (i := 15) rfl) rfl, ?_⟩
  refine List.forall_mem_cons.mpr ⟨ok_pop C (show decode cL_law 1164 = .ok (.pop, 1) from dk_at dq53_15 (i := 16) rfl) rfl, ?_⟩
  refine List.forall_mem_cons.mpr ⟨ok_goto C (show decode cL_law 1165 = .ok (.goto 303, 3) from dk_at dq53_15 (i := 17) rfl) (tg := 1468) (by decide) rfl, ?_⟩
  refine List.forall_mem_cons.mpr ⟨ok_aload_n C (show decode cL_law 1168 = .ok (.aload_n 1, 1) from dk_at dq53_15 (i := 18) rfl) rfl rfl, ?_⟩
  refine List.forall_mem_cons.mpr ⟨ok_callV C h_X10_dearest ⟨rfl, rfl⟩ rfl kw_664 kw_661 kw_662 kw_663 kw_1 rfl ds_X10_dearest ⟨by decide, by decide⟩ (show decode cL_law 1169 = .ok (.invokevirtual 146, 3) from dk_at dq53_15 (i := 19) rfl) rfl, ?_⟩
  refine List.forall_mem_cons.mpr ⟨ok_pop C (show decode cL_law 1172 = .ok (.pop, 1) from dk_at dq53_15 (i := 20) rfl) rfl, ?_⟩
  refine List.forall_mem_cons.mpr ⟨ok_aload_n C (show decode cL_law 1173 = .ok (.aload_n 2, 1) from dk_at dq53_15 (i := 21) rfl) rfl rfl, ?_⟩
  refine List.forall_mem_cons.mpr ⟨ok_callV C h_X11_dearest ⟨rfl, rfl⟩ rfl kw_1616 kw_1613 kw_1614 kw_1615 kw_11 rfl ds_X11_dearest ⟨by decide, by decide⟩ (show decode cL_law 1174 = .ok (.invokevirtual 149, 3) from dk_at dq53_15 (i := 22) rfl) rfl, ?_⟩
  refine List.forall_mem_cons.mpr ⟨ok_pop C (show decode cL_law 1177 = .ok (.pop, 1) from dk_at dq53_15 (i := 23) rfl) rfl, ?_⟩
  refine List.forall_mem_cons.mpr ⟨ok_goto C (show decode cL_law 1178 = .ok (.goto 290, 3) from dk_at dq53_15 (i := 24) rfl) (tg := 1468) (by decide) rfl, ?_⟩
  refine List.forall_mem_cons.mpr ⟨ok_aload_n C (show decode cL_law 1181 = .ok (.aload_n 1, 1) from dk_at dq53_15 (i := 25) rfl) rfl rfl, ?_⟩
  refine List.forall_mem_cons.mpr ⟨ok_callV C h_X10_rats ⟨rfl, rfl⟩ rfl kw_683 kw_680 kw_681 kw_682 kw_1 rfl ds_X10_rats ⟨by decide, by decide⟩ (show decode cL_law 1182 = .ok (.invokevirtual 150, 3) from dk_at dq53_15 (i := 26) rfl) rfl, ?_⟩
  refine List.forall_mem_cons.mpr ⟨ok_pop C (show decode cL_law 1185 = .ok (.pop, 1) from dk_at dq53_15 (i := 27) rfl) rfl, ?_⟩
  refine List.forall_mem_cons.mpr ⟨ok_aload_n C (show decode cL_law 1186 = .ok (.aload_n 2, 1) from dk_at dq53_15 (i := 28) rfl) rfl rfl, ?_⟩
  refine List.forall_mem_cons.mpr ⟨ok_callV C h_X11_rats ⟨rfl, rfl⟩ rfl kw_1623 kw_1620 kw_1621 kw_1622 kw_11 rfl ds_X11_rats ⟨by decide, by decide⟩ (show decode cL_law 1187 = .ok (.invokevirtual 153, 3) from dk_at dq53_15 (i := 29) rfl) rfl, ?_⟩
  refine List.forall_mem_cons.mpr ⟨ok_pop C (show decode cL_law 1190 = .ok (.pop, 1) from dk_at dq53_15 (i := 30) rfl) rfl, ?_⟩
  refine List.forall_mem_cons.mpr ⟨ok_goto C (show decode cL_law 1191 = .ok (.goto 277, 3) from dk_at dq53_15 (i := 31) rfl) (tg := 1468) (by decide) rfl, ?_⟩
  refine List.forall_mem_cons.mpr ⟨ok_aload_n C (show decode cL_law 1194 = .ok (.aload_n 1, 1) from dk_at dq53_15 (i := 32) rfl) rfl rfl, ?_⟩
  refine List.forall_mem_cons.mpr ⟨ok_aload_n C (show decode cL_law 1195 = .ok (.aload_n 0, 1) from dk_at dq53_15 (i := 33) rfl) rfl rfl, ?_⟩
  refine List.forall_mem_cons.mpr ⟨ok_iload C (show decode cL_law 1196 = .ok (.iload 4, 2) from dk_at dq53_15 (i := 34) rfl) rfl, ?_⟩
  refine List.forall_mem_cons.mpr ⟨ok_iconst C (show decode cL_law 1198 = .ok (.iconst 1, 1) from dk_at dq53_15 (i := 35) rfl) (by decide) rfl, ?_⟩
  refine List.forall_mem_cons.mpr ⟨ok_iadd C (show decode cL_law 1199 = .ok (.iadd, 1) from dk_at dq53_15 (i := 36) rfl) rfl, ?_⟩
  refine List.forall_mem_cons.mpr ⟨ok_sld C hX hb0 hb1 (show decode cL_law 1200 = .ok (.iaload, 1) from dk_at dq53_15 (i := 37) rfl) rfl, ?_⟩
  refine List.forall_mem_cons.mpr ⟨ok_callV C h_X10_hoarded ⟨rfl, rfl⟩ rfl kw_692 kw_689 kw_690 kw_691 kw_1 rfl ds_X10_hoarded ⟨by decide, by decide⟩ (show decode cL_law 1201 = .ok (.invokevirtual 154, 3) from dk_at dq53_15 (i := 38) rfl) rfl, ?_⟩
  refine List.forall_mem_cons.mpr ⟨ok_pop C (show decode cL_law 1204 = .ok (.pop, 1) from dk_at dq53_15 (i := 39) rfl) rfl, ?_⟩
  refine List.forall_mem_cons.mpr ⟨ok_aload_n C (show decode cL_law 1205 = .ok (.aload_n 2, 1) from dk_at dq53_15 (i := 40) rfl) rfl rfl, ?_⟩
  refine List.forall_mem_cons.mpr ⟨ok_aload_n C (show decode cL_law 1206 = .ok (.aload_n 0, 1) from dk_at dq53_15 (i := 41) rfl) rfl rfl, ?_⟩
  exact fun _ h => absurd h List.not_mem_nil
def L_law_8 (xs : Nat → Int32) (n : Nat) (f_X11_hoarded : List Value → ab_H → Option ab_O) (f_X10_drawn : List Value → ab_H → Option ab_O) (f_X11_drawn : List Value → ab_H → Option ab_O) (f_X10_odds : List Value → ab_H → Option ab_O) (f_X11_odds : List Value → ab_H → Option ab_O) (f_X10_log : List Value → ab_H → Option ab_O) (f_X11_log : List Value → ab_H → Option ab_O) : List (Nat × ab_A) := [
  (1207, ab_nx 1209 (ab_iload 4)),
  (1209, ab_nx 1210 (ab_lit (.int 1))),
  (1210, ab_nx 1211 (ab_bin (fun x y => x + y))),
  (1211, ab_nx 1212 (ab_sld xs n)),
  (1212, ab_nx 1215 (ab_callV 2 11 f_X11_hoarded 0 0 709736 6966897)),
  (1215, ab_nx 1216 ab_pop),
  (1216, ab_goto 1468),
  (1219, ab_nx 1220 (ab_aload 1)),
  (1220, ab_nx 1221 (ab_aload 0)),
  (1221, ab_nx 1223 (ab_iload 4)),
  (1223, ab_nx 1224 (ab_lit (.int 1))),
  (1224, ab_nx 1225 (ab_bin (fun x y => x + y))),
  (1225, ab_nx 1226 (ab_sld xs n)),
  (1226, ab_nx 1227 (ab_aload 0)),
  (1227, ab_nx 1229 (ab_iload 4)),
  (1229, ab_nx 1230 (ab_lit (.int 2))),
  (1230, ab_nx 1231 (ab_bin (fun x y => x + y))),
  (1231, ab_nx 1232 (ab_sld xs n)),
  (1232, ab_nx 1235 (ab_callV 3 10 f_X10_drawn 8 138 709736 6966897)),
  (1235, ab_nx 1236 ab_pop),
  (1236, ab_nx 1237 (ab_aload 2)),
  (1237, ab_nx 1238 (ab_aload 0)),
  (1238, ab_nx 1240 (ab_iload 4)),
  (1240, ab_nx 1241 (ab_lit (.int 1))),
  (1241, ab_nx 1242 (ab_bin (fun x y => x + y))),
  (1242, ab_nx 1243 (ab_sld xs n)),
  (1243, ab_nx 1244 (ab_aload 0)),
  (1244, ab_nx 1246 (ab_iload 4)),
  (1246, ab_nx 1247 (ab_lit (.int 2))),
  (1247, ab_nx 1248 (ab_bin (fun x y => x + y))),
  (1248, ab_nx 1249 (ab_sld xs n)),
  (1249, ab_nx 1252 (ab_callV 3 11 f_X11_drawn 0 0 709736 6966897)),
  (1252, ab_nx 1253 ab_pop),
  (1253, ab_goto 1468),
  (1256, ab_nx 1257 (ab_aload 1)),
  (1257, ab_nx 1258 (ab_aload 0)),
  (1258, ab_nx 1260 (ab_iload 4)),
  (1260, ab_nx 1261 (ab_lit (.int 1))),
  (1261, ab_nx 1262 (ab_bin (fun x y => x + y))),
  (1262, ab_nx 1263 (ab_sld xs n)),
  (1263, ab_nx 1264 (ab_aload 0)),
  (1264, ab_nx 1266 (ab_iload 4)),
  (1266, ab_nx 1267 (ab_lit (.int 2))),
  (1267, ab_nx 1268 (ab_bin (fun x y => x + y))),
  (1268, ab_nx 1269 (ab_sld xs n)),
  (1269, ab_nx 1270 (ab_aload 0)),
  (1270, ab_nx 1272 (ab_iload 4)),
  (1272, ab_nx 1273 (ab_lit (.int 3))),
  (1273, ab_nx 1274 (ab_bin (fun x y => x + y))),
  (1274, ab_nx 1275 (ab_sld xs n)),
  (1275, ab_nx 1278 (ab_callV 4 10 f_X10_odds 0 0 709736 6966897)),
  (1278, ab_nx 1279 ab_pop),
  (1279, ab_nx 1280 (ab_aload 2)),
  (1280, ab_nx 1281 (ab_aload 0)),
  (1281, ab_nx 1283 (ab_iload 4)),
  (1283, ab_nx 1284 (ab_lit (.int 1))),
  (1284, ab_nx 1285 (ab_bin (fun x y => x + y))),
  (1285, ab_nx 1286 (ab_sld xs n)),
  (1286, ab_nx 1287 (ab_aload 0)),
  (1287, ab_nx 1289 (ab_iload 4)),
  (1289, ab_nx 1290 (ab_lit (.int 2))),
  (1290, ab_nx 1291 (ab_bin (fun x y => x + y))),
  (1291, ab_nx 1292 (ab_sld xs n)),
  (1292, ab_nx 1293 (ab_aload 0)),
  (1293, ab_nx 1295 (ab_iload 4)),
  (1295, ab_nx 1296 (ab_lit (.int 3))),
  (1296, ab_nx 1297 (ab_bin (fun x y => x + y))),
  (1297, ab_nx 1298 (ab_sld xs n)),
  (1298, ab_nx 1301 (ab_callV 4 11 f_X11_odds 0 0 709736 6966897)),
  (1301, ab_nx 1302 ab_pop),
  (1302, ab_goto 1468),
  (1305, ab_nx 1306 (ab_aload 1)),
  (1306, ab_nx 1307 (ab_aload 0)),
  (1307, ab_nx 1309 (ab_iload 4)),
  (1309, ab_nx 1310 (ab_lit (.int 1))),
  (1310, ab_nx 1311 (ab_bin (fun x y => x + y))),
  (1311, ab_nx 1312 (ab_sld xs n)),
  (1312, ab_nx 1315 (ab_callV 2 10 f_X10_log 8 138 709736 6966897)),
  (1315, ab_nx 1316 ab_pop),
  (1316, ab_nx 1317 (ab_aload 2)),
  (1317, ab_nx 1318 (ab_aload 0)),
  (1318, ab_nx 1320 (ab_iload 4)),
  (1320, ab_nx 1321 (ab_lit (.int 1))),
  (1321, ab_nx 1322 (ab_bin (fun x y => x + y))),
  (1322, ab_nx 1323 (ab_sld xs n)),
  (1323, ab_nx 1326 (ab_callV 2 11 f_X11_log 0 0 709736 6966897)),
  (1326, ab_nx 1327 ab_pop),
  (1327, ab_goto 1468),
  (1330, ab_nx 1331 (ab_aload 1)),
  (1331, ab_nx 1332 (ab_aload 0))]
set_option maxRecDepth 100000 in
theorem dq53_16 : ([(1207, .iload 4, 2), (1209, .iconst 1, 1), (1210, .iadd, 1), (1211, .iaload, 1), (1212, .invokevirtual 157, 3), (1215, .pop, 1), (1216, .goto 252, 3), (1219, .aload_n 1, 1), (1220, .aload_n 0, 1), (1221, .iload 4, 2), (1223, .iconst 1, 1), (1224, .iadd, 1), (1225, .iaload, 1), (1226, .aload_n 0, 1), (1227, .iload 4, 2), (1229, .iconst 2, 1), (1230, .iadd, 1), (1231, .iaload, 1), (1232, .invokevirtual 158, 3), (1235, .pop, 1), (1236, .aload_n 2, 1), (1237, .aload_n 0, 1), (1238, .iload 4, 2), (1240, .iconst 1, 1), (1241, .iadd, 1), (1242, .iaload, 1), (1243, .aload_n 0, 1), (1244, .iload 4, 2), (1246, .iconst 2, 1), (1247, .iadd, 1), (1248, .iaload, 1), (1249, .invokevirtual 161, 3), (1252, .pop, 1), (1253, .goto 215, 3), (1256, .aload_n 1, 1), (1257, .aload_n 0, 1), (1258, .iload 4, 2), (1260, .iconst 1, 1), (1261, .iadd, 1), (1262, .iaload, 1), (1263, .aload_n 0, 1), (1264, .iload 4, 2), (1266, .iconst 2, 1), (1267, .iadd, 1), (1268, .iaload, 1), (1269, .aload_n 0, 1), (1270, .iload 4, 2), (1272, .iconst 3, 1)] : List (Nat × Instr × Nat)).all (fun q => decide (decode cL_law q.1 = .ok q.2)) = true := by decide +kernel
set_option maxRecDepth 100000 in
theorem dq53_17 : ([(1273, .iadd, 1), (1274, .iaload, 1), (1275, .invokevirtual 162, 3), (1278, .pop, 1), (1279, .aload_n 2, 1), (1280, .aload_n 0, 1), (1281, .iload 4, 2), (1283, .iconst 1, 1), (1284, .iadd, 1), (1285, .iaload, 1), (1286, .aload_n 0, 1), (1287, .iload 4, 2), (1289, .iconst 2, 1), (1290, .iadd, 1), (1291, .iaload, 1), (1292, .aload_n 0, 1), (1293, .iload 4, 2), (1295, .iconst 3, 1), (1296, .iadd, 1), (1297, .iaload, 1), (1298, .invokevirtual 165, 3), (1301, .pop, 1), (1302, .goto 166, 3), (1305, .aload_n 1, 1), (1306, .aload_n 0, 1), (1307, .iload 4, 2), (1309, .iconst 1, 1), (1310, .iadd, 1), (1311, .iaload, 1), (1312, .invokevirtual 166, 3), (1315, .pop, 1), (1316, .aload_n 2, 1), (1317, .aload_n 0, 1), (1318, .iload 4, 2), (1320, .iconst 1, 1), (1321, .iadd, 1), (1322, .iaload, 1), (1323, .invokevirtual 169, 3), (1326, .pop, 1), (1327, .goto 141, 3), (1330, .aload_n 1, 1), (1331, .aload_n 0, 1)] : List (Nat × Instr × Nat)).all (fun q => decide (decode cL_law q.1 = .ok q.2)) = true := by decide +kernel
set_option maxRecDepth 100000 in
set_option maxHeartbeats 4000000 in
theorem law_8 {p : Program} {l : Launch} {e : Env} {s : State} {m : MethodId} {below : List Frame} {meth : Method} {c : Code} {cd : Cond} {b : ab_B} {D : va_G} {cA : Nat → ClassId} {o : ab_O} {xs : Nat → Int32} {n bb : Nat} {nm : String} (C : ab_cx p l e room_1 s m #[Value.ref bb] below meth c D ab_cl cA (ab_E0 b) (⟨RL, nm, "([I)Z"⟩ : MethodName) cL_law 7 ret (cd :: ab_G) room_1) (hX : va_X bb n xs s s.heap) (hb0 : b.2 0 = bb) (hb1 : b.1 = s.heap.size ∧ bb < s.heap.size) {f_X11_hoarded : List Value → ab_H → Option ab_O} (h_X11_hoarded : ab_M l b D ab_cl cA (ab_E0 b) yX11_hoarded (Cond.code yX11_hoarded cX11_hoarded 5 (some .int) :: ab_G) ({ frames := 3, cells := 0, slots := 0, locals := 300 } : Room) f_X11_hoarded) {f_X10_drawn : List Value → ab_H → Option ab_O} (h_X10_drawn : ab_M l b D ab_cl cA (ab_E0 b) yX10_drawn (Cond.code yX10_drawn cX10_drawn 3 (some .int) :: ab_G) ({ frames := 7, cells := 8, slots := 138, locals := 700 } : Room) f_X10_drawn) {f_X11_drawn : List Value → ab_H → Option ab_O} (h_X11_drawn : ab_M l b D ab_cl cA (ab_E0 b) yX11_drawn (Cond.code yX11_drawn cX11_drawn 3 (some .int) :: ab_G) ({ frames := 10, cells := 0, slots := 0, locals := 1000 } : Room) f_X11_drawn) {f_X10_odds : List Value → ab_H → Option ab_O} (h_X10_odds : ab_M l b D ab_cl cA (ab_E0 b) yX10_odds (Cond.code yX10_odds cX10_odds 6 (some .int) :: ab_G) ({ frames := 7, cells := 0, slots := 0, locals := 700 } : Room) f_X10_odds) {f_X11_odds : List Value → ab_H → Option ab_O} (h_X11_odds : ab_M l b D ab_cl cA (ab_E0 b) yX11_odds (Cond.code yX11_odds cX11_odds 7 (some .int) :: ab_G) ({ frames := 10, cells := 0, slots := 0, locals := 1000 } : Room) f_X11_odds) {f_X10_log : List Value → ab_H → Option ab_O} (h_X10_log : ab_M l b D ab_cl cA (ab_E0 b) yX10_log (Cond.code yX10_log cX10_log 3 (some .int) :: ab_G) ({ frames := 10, cells := 8, slots := 138, locals := 1000 } : Room) f_X10_log) {f_X11_log : List Value → ab_H → Option ab_O} (h_X11_log : ab_M l b D ab_cl cA (ab_E0 b) yX11_log (Cond.code yX11_log cX11_log 5 (some .int) :: ab_G) ({ frames := 10, cells := 0, slots := 0, locals := 1000 } : Room) f_X11_log) : ∀ q ∈ L_law_8 xs n f_X11_hoarded f_X10_drawn f_X11_drawn f_X10_odds f_X11_odds f_X10_log f_X11_log, ab_ok p l e room_1 s m #[Value.ref bb] below meth c (lw_Z below #[Value.ref bb] s) b D ab_cl cA 7 o (fun i => i) q.1 q.2 := by
  unfold L_law_8
  refine List.forall_mem_cons.mpr ⟨ok_iload C (show decode cL_law 1207 = .ok (.iload 4, 2) from dk_at dq53_16 (i := 0) rfl) rfl, ?_⟩
  refine List.forall_mem_cons.mpr ⟨ok_iconst C (show decode cL_law 1209 = .ok (.iconst 1, 1) from dk_at dq53_16 (i := 1) rfl) (by decide) rfl, ?_⟩
  refine List.forall_mem_cons.mpr ⟨ok_iadd C (show decode cL_law 1210 = .ok (.iadd, 1) from dk_at dq53_16 (i := 2) rfl) rfl, ?_⟩
  refine List.forall_mem_cons.mpr ⟨ok_sld C hX hb0 hb1 (show decode cL_law 1211 = .ok (.iaload, 1) from dk_at dq53_16 (i := 3) rfl) rfl, ?_⟩
  refine List.forall_mem_cons.mpr ⟨ok_callV C h_X11_hoarded ⟨rfl, rfl⟩ rfl kw_1627 kw_1624 kw_1625 kw_1626 kw_11 rfl ds_X11_hoarded ⟨by decide, by decide⟩ (show decode cL_law 1212 = .ok (.invokevirtual 157, 3) from dk_at dq53_16 (i := 4) rfl) rfl, ?_⟩
  refine List.forall_mem_cons.mpr ⟨ok_pop C (show decode cL_law 1215 = .ok (.pop, 1) from dk_at dq53_16 (i := 5) rfl) rfl, ?_⟩
  refine List.forall_mem_cons.mpr ⟨ok_goto C (show decode cL_law 1216 = .ok (.goto 252, 3) from dk_at dq53_16 (i := 6) rfl) (tg := 1468) (by decide) rfl, ?_⟩
  refine List.forall_mem_cons.mpr ⟨ok_aload_n C (show decode cL_law 1219 = .ok (.aload_n 1, 1) from dk_at dq53_16 (i := 7) rfl) rfl rfl, ?_⟩
  refine List.forall_mem_cons.mpr ⟨ok_aload_n C (show decode cL_law 1220 = .ok (.aload_n 0, 1) from dk_at dq53_16 (i := 8) rfl) rfl rfl, ?_⟩
  refine List.forall_mem_cons.mpr ⟨ok_iload C (show decode cL_law 1221 = .ok (.iload 4, 2) from dk_at dq53_16 (i := 9) rfl) rfl, ?_⟩
  refine List.forall_mem_cons.mpr ⟨ok_iconst C (show decode cL_law 1223 = .ok (.iconst 1, 1) from dk_at dq53_16 (i := 10) rfl) (by decide) rfl, ?_⟩
  refine List.forall_mem_cons.mpr ⟨ok_iadd C (show decode cL_law 1224 = .ok (.iadd, 1) from dk_at dq53_16 (i := 11) rfl) rfl, ?_⟩
  refine List.forall_mem_cons.mpr ⟨ok_sld C hX hb0 hb1 (show decode cL_law 1225 = .ok (.iaload, 1) from dk_at dq53_16 (i := 12) rfl) rfl, ?_⟩
  refine List.forall_mem_cons.mpr ⟨ok_aload_n C (show decode cL_law 1226 = .ok (.aload_n 0, 1) from dk_at dq53_16 (i := 13) rfl) rfl rfl, ?_⟩
  refine List.forall_mem_cons.mpr ⟨ok_iload C (show decode cL_law 1227 = .ok (.iload 4, 2) from dk_at dq53_16 (i := 14) rfl) rfl, ?_⟩
  refine List.forall_mem_cons.mpr ⟨ok_iconst C (show decode cL_law 1229 = .ok (.iconst 2, 1) from dk_at dq53_16 (i := 15) rfl) (by decide) rfl, ?_⟩
  refine List.forall_mem_cons.mpr ⟨ok_iadd C (show decode cL_law 1230 = .ok (.iadd, 1) from dk_at dq53_16 (i := 16) rfl) rfl, ?_⟩
  refine List.forall_mem_cons.mpr ⟨ok_sld C hX hb0 hb1 (show decode cL_law 1231 = .ok (.iaload, 1) from dk_at dq53_16 (i := 17) rfl) rfl, ?_⟩
  refine List.forall_mem_cons.mpr ⟨ok_callV C h_X10_drawn ⟨rfl, rfl⟩ rfl kw_878 kw_875 kw_876 kw_877 kw_1 rfl ds_X10_drawn ⟨by decide, by decide⟩ (show decode cL_law 1232 = .ok (.invokevirtual 158, 3) from dk_at dq53_16 (i := 18) rfl) rfl, ?_⟩
  refine List.forall_mem_cons.mpr ⟨ok_pop C (show decode cL_law 1235 = .ok (.pop, 1) from dk_at dq53_16 (i := 19) rfl) rfl, ?_⟩
  refine List.forall_mem_cons.mpr ⟨ok_aload_n C (show decode cL_law 1236 = .ok (.aload_n 2, 1) from dk_at dq53_16 (i := 20) rfl) rfl rfl, ?_⟩
  refine List.forall_mem_cons.mpr ⟨ok_aload_n C (show decode cL_law 1237 = .ok (.aload_n 0, 1) from dk_at dq53_16 (i := 21) rfl) rfl rfl, ?_⟩
  refine List.forall_mem_cons.mpr ⟨ok_iload C (show decode cL_law 1238 = .ok (.iload 4, 2) from dk_at dq53_16 (i := 22) rfl) rfl, ?_⟩
  refine List.forall_mem_cons.mpr ⟨ok_iconst C (show decode cL_law 1240 = .ok (.iconst 1, 1) from dk_at dq53_16 (i := 23) rfl) (by decide) rfl, ?_⟩
  refine List.forall_mem_cons.mpr ⟨ok_iadd C (show decode cL_law 1241 = .ok (.iadd, 1) from dk_at dq53_16 (i := 24) rfl) rfl, ?_⟩
  refine List.forall_mem_cons.mpr ⟨ok_sld C hX hb0 hb1 (show decode cL_law 1242 = .ok (.iaload, 1) from dk_at dq53_16 (i := 25) rfl) rfl, ?_⟩
  refine List.forall_mem_cons.mpr ⟨ok_aload_n C (show decode cL_law 1243 = .ok (.aload_n 0, 1) from dk_at dq53_16 (i := 26) rfl) rfl rfl, ?_⟩
  refine List.forall_mem_cons.mpr ⟨ok_iload C (show decode cL_law 1244 = .ok (.iload 4, 2) from dk_at dq53_16 (i := 27) rfl) rfl, ?_⟩
  refine List.forall_mem_cons.mpr ⟨ok_iconst C (show decode cL_law 1246 = .ok (.iconst 2, 1) from dk_at dq53_16 (i := 28) rfl) (by decide) rfl, ?_⟩
  refine List.forall_mem_cons.mpr ⟨ok_iadd C (show decode cL_law 1247 = .ok (.iadd, 1) from dk_at dq53_16 (i := 29) rfl) rfl, ?_⟩
  refine List.forall_mem_cons.mpr ⟨ok_sld C hX hb0 hb1 (show decode cL_law 1248 = .ok (.iaload, 1) from dk_at dq53_16 (i := 30) rfl) rfl, ?_⟩
  refine List.forall_mem_cons.mpr ⟨ok_callV C h_X11_drawn ⟨rfl, rfl⟩ rfl kw_1631 kw_1628 kw_1629 kw_1630 kw_11 rfl ds_X11_drawn ⟨by decide, by decide⟩ (show decode cL_law 1249 = .ok (.invokevirtual 161, 3) from dk_at dq53_16 (i := 31) rfl) rfl, ?_⟩
  refine List.forall_mem_cons.mpr ⟨ok_pop C (show decode cL_law 1252 = .ok (.pop, 1) from dk_at dq53_16 (i := 32) rfl) rfl, ?_⟩
  refine List.forall_mem_cons.mpr ⟨ok_goto C (show decode cL_law 1253 = .ok (.goto 215, 3) from dk_at dq53_16 (i := 33) rfl) (tg := 1468) (by decide) rfl, ?_⟩
  refine List.forall_mem_cons.mpr ⟨ok_aload_n C (show decode cL_law 1256 = .ok (.aload_n 1, 1) from dk_at dq53_16 (i := 34) rfl) rfl rfl, ?_⟩
  refine List.forall_mem_cons.mpr ⟨ok_aload_n C (show decode cL_law 1257 = .ok (.aload_n 0, 1) from dk_at dq53_16 (i := 35) rfl) rfl rfl, ?_⟩
  refine List.forall_mem_cons.mpr ⟨ok_iload C (show decode cL_law 1258 = .ok (.iload 4, 2) from dk_at dq53_16 (i := 36) rfl) rfl, ?_⟩
  refine List.forall_mem_cons.mpr ⟨ok_iconst C (show decode cL_law 1260 = .ok (.iconst 1, 1) from dk_at dq53_16 (i := 37) rfl) (by decide) rfl, ?_⟩
  refine List.forall_mem_cons.mpr ⟨ok_iadd C (show decode cL_law 1261 = .ok (.iadd, 1) from dk_at dq53_16 (i := 38) rfl) rfl, ?_⟩
  refine List.forall_mem_cons.mpr ⟨ok_sld C hX hb0 hb1 (show decode cL_law 1262 = .ok (.iaload, 1) from dk_at dq53_16 (i := 39) rfl) rfl, ?_⟩
  refine List.forall_mem_cons.mpr ⟨ok_aload_n C (show decode cL_law 1263 = .ok (.aload_n 0, 1) from dk_at dq53_16 (i := 40) rfl) rfl rfl, ?_⟩
  refine List.forall_mem_cons.mpr ⟨ok_iload C (show decode cL_law 1264 = .ok (.iload 4, 2) from dk_at dq53_16 (i := 41) rfl) rfl, ?_⟩
  refine List.forall_mem_cons.mpr ⟨ok_iconst C (show decode cL_law 1266 = .ok (.iconst 2, 1) from dk_at dq53_16 (i := 42) rfl) (by decide) rfl, ?_⟩
  refine List.forall_mem_cons.mpr ⟨ok_iadd C (show decode cL_law 1267 = .ok (.iadd, 1) from dk_at dq53_16 (i := 43) rfl) rfl, ?_⟩
  refine List.forall_mem_cons.mpr ⟨ok_sld C hX hb0 hb1 (show decode cL_law 1268 = .ok (.iaload, 1) from dk_at dq53_16 (i := 44) rfl) rfl, ?_⟩
  refine List.forall_mem_cons.mpr ⟨ok_aload_n C (show decode cL_law 1269 = .ok (.aload_n 0, 1) from dk_at dq53_16 (i := 45) rfl) rfl rfl, ?_⟩
  refine List.forall_mem_cons.mpr ⟨ok_iload C (show decode cL_law 1270 = .ok (.iload 4, 2) from dk_at dq53_16 (i := 46) rfl) rfl, ?_⟩
  refine List.forall_mem_cons.mpr ⟨ok_iconst C (show decode cL_law 1272 = .ok (.iconst 3, 1) from dk_at dq53_16 (i := 47) rfl) (by decide) rfl, ?_⟩
  refine List.forall_mem_cons.mpr ⟨ok_iadd C (show decode cL_law 1273 = .ok (.iadd, 1) from dk_at dq53_17 (i := 0) rfl) rfl, ?_⟩
  refine List.forall_mem_cons.mpr ⟨ok_sld C hX hb0 hb1 (show decode cL_law 1274 = .ok (.iaload, 1) from dk_at dq53_17 (i := 1) rfl) rfl, ?_⟩
  refine List.forall_mem_cons.mpr ⟨ok_callV C h_X10_odds ⟨rfl, rfl⟩ rfl kw_905 kw_902 kw_903 kw_904 kw_1 rfl ds_X10_odds ⟨by decide, by decide⟩ (show decode cL_law 1275 = .ok (.invokevirtual 162, 3) from dk_at dq53_17 (i := 2) rfl) rfl, ?_⟩
  refine List.forall_mem_cons.mpr ⟨ok_pop C (show decode cL_law 1278 = .ok (.pop, 1) from dk_at dq53_17 (i := 3) rfl) rfl, ?_⟩
  refine List.forall_mem_cons.mpr ⟨ok_aload_n C (show decode cL_law 1279 = .ok (.aload_n 2, 1) from dk_at dq53_17 (i := 4) rfl) rfl rfl, ?_⟩
  refine List.forall_mem_cons.mpr ⟨ok_aload_n C (show decode cL_law 1280 = .ok (.aload_n 0, 1) from dk_at dq53_17 (i := 5) rfl) rfl rfl, ?_⟩
  refine List.forall_mem_cons.mpr ⟨ok_iload C (show decode cL_law 1281 = .ok (.iload 4, 2) from dk_at dq53_17 (i := 6) rfl) rfl, ?_⟩
  refine List.forall_mem_cons.mpr ⟨ok_iconst C (show decode cL_law 1283 = .ok (.iconst 1, 1) from dk_at dq53_17 (i := 7) rfl) (by decide) rfl, ?_⟩
  refine List.forall_mem_cons.mpr ⟨ok_iadd C (show decode cL_law 1284 = .ok (.iadd, 1) from dk_at dq53_17 (i := 8) rfl) rfl, ?_⟩
  refine List.forall_mem_cons.mpr ⟨ok_sld C hX hb0 hb1 (show decode cL_law 1285 = .ok (.iaload, 1) from dk_at dq53_17 (i := 9) rfl) rfl, ?_⟩
  refine List.forall_mem_cons.mpr ⟨ok_aload_n C (show decode cL_law 1286 = .ok (.aload_n 0, 1) from dk_at dq53_17 (i := 10) rfl) rfl rfl, ?_⟩
  refine List.forall_mem_cons.mpr ⟨ok_iload C (show decode cL_law 1287 = .ok (.iload 4, 2) from dk_at dq53_17 (i := 11) rfl) rfl, ?_⟩
  refine List.forall_mem_cons.mpr ⟨ok_iconst C (show decode cL_law 1289 = .ok (.iconst 2, 1) from dk_at dq53_17 (i := 12) rfl) (by decide) rfl, ?_⟩
  refine List.forall_mem_cons.mpr ⟨ok_iadd C (show decode cL_law 1290 = .ok (.iadd, 1) from dk_at dq53_17 (i := 13) rfl) rfl, ?_⟩
  refine List.forall_mem_cons.mpr ⟨ok_sld C hX hb0 hb1 (show decode cL_law 1291 = .ok (.iaload, 1) from dk_at dq53_17 (i := 14) rfl) rfl, ?_⟩
  refine List.forall_mem_cons.mpr ⟨ok_aload_n C (show decode cL_law 1292 = .ok (.aload_n 0, 1) from dk_at dq53_17 (i := 15) rfl) rfl rfl, ?_⟩
  refine List.forall_mem_cons.mpr ⟨ok_iload C (show decode cL_law 1293 = .ok (.iload 4, 2) from dk_at dq53_17 (i := 16) rfl) rfl, ?_⟩
  refine List.forall_mem_cons.mpr ⟨ok_iconst C (show decode cL_law 1295 = .ok (.iconst 3, 1) from dk_at dq53_17 (i := 17) rfl) (by decide) rfl, ?_⟩
  refine List.forall_mem_cons.mpr ⟨ok_iadd C (show decode cL_law 1296 = .ok (.iadd, 1) from dk_at dq53_17 (i := 18) rfl) rfl, ?_⟩
  refine List.forall_mem_cons.mpr ⟨ok_sld C hX hb0 hb1 (show decode cL_law 1297 = .ok (.iaload, 1) from dk_at dq53_17 (i := 19) rfl) rfl, ?_⟩
  refine List.forall_mem_cons.mpr ⟨ok_callV C h_X11_odds ⟨rfl, rfl⟩ rfl kw_1648 kw_1645 kw_1646 kw_1647 kw_11 rfl ds_X11_odds ⟨by decide, by decide⟩ (show decode cL_law 1298 = .ok (.invokevirtual 165, 3) from dk_at dq53_17 (i := 20) rfl) rfl, ?_⟩
  refine List.forall_mem_cons.mpr ⟨ok_pop C (show decode cL_law 1301 = .ok (.pop, 1) from dk_at dq53_17 (i := 21) rfl) rfl, ?_⟩
  refine List.forall_mem_cons.mpr ⟨ok_goto C (show decode cL_law 1302 = .ok (.goto 166, 3) from dk_at dq53_17 (i := 22) rfl) (tg := 1468) (by decide) rfl, ?_⟩
  refine List.forall_mem_cons.mpr ⟨ok_aload_n C (show decode cL_law 1305 = .ok (.aload_n 1, 1) from dk_at dq53_17 (i := 23) rfl) rfl rfl, ?_⟩
  refine List.forall_mem_cons.mpr ⟨ok_aload_n C (show decode cL_law 1306 = .ok (.aload_n 0, 1) from dk_at dq53_17 (i := 24) rfl) rfl rfl, ?_⟩
  refine List.forall_mem_cons.mpr ⟨ok_iload C (show decode cL_law 1307 = .ok (.iload 4, 2) from dk_at dq53_17 (i := 25) rfl) rfl, ?_⟩
  refine List.forall_mem_cons.mpr ⟨ok_iconst C (show decode cL_law 1309 = .ok (.iconst 1, 1) from dk_at dq53_17 (i := 26) rfl) (by decide) rfl, ?_⟩
  refine List.forall_mem_cons.mpr ⟨ok_iadd C (show decode cL_law 1310 = .ok (.iadd, 1) from dk_at dq53_17 (i := 27) rfl) rfl, ?_⟩
  refine List.forall_mem_cons.mpr ⟨ok_sld C hX hb0 hb1 (show decode cL_law 1311 = .ok (.iaload, 1) from dk_at dq53_17 (i := 28) rfl) rfl, ?_⟩
  refine List.forall_mem_cons.mpr ⟨ok_callV C h_X10_log ⟨rfl, rfl⟩ rfl kw_909 kw_906 kw_907 kw_908 kw_1 rfl ds_X10_log ⟨by decide, by decide⟩ (show decode cL_law 1312 = .ok (.invokevirtual 166, 3) from dk_at dq53_17 (i := 29) rfl) rfl, ?_⟩
  refine List.forall_mem_cons.mpr ⟨ok_pop C (show decode cL_law 1315 = .ok (.pop, 1) from dk_at dq53_17 (i := 30) rfl) rfl, ?_⟩
  refine List.forall_mem_cons.mpr ⟨ok_aload_n C (show decode cL_law 1316 = .ok (.aload_n 2, 1) from dk_at dq53_17 (i := 31) rfl) rfl rfl, ?_⟩
  refine List.forall_mem_cons.mpr ⟨ok_aload_n C (show decode cL_law 1317 = .ok (.aload_n 0, 1) from dk_at dq53_17 (i := 32) rfl) rfl rfl, ?_⟩
  refine List.forall_mem_cons.mpr ⟨ok_iload C (show decode cL_law 1318 = .ok (.iload 4, 2) from dk_at dq53_17 (i := 33) rfl) rfl, ?_⟩
  refine List.forall_mem_cons.mpr ⟨ok_iconst C (show decode cL_law 1320 = .ok (.iconst 1, 1) from dk_at dq53_17 (i := 34) rfl) (by decide) rfl, ?_⟩
  refine List.forall_mem_cons.mpr ⟨ok_iadd C (show decode cL_law 1321 = .ok (.iadd, 1) from dk_at dq53_17 (i := 35) rfl) rfl, ?_⟩
  refine List.forall_mem_cons.mpr ⟨ok_sld C hX hb0 hb1 (show decode cL_law 1322 = .ok (.iaload, 1) from dk_at dq53_17 (i := 36) rfl) rfl, ?_⟩
  refine List.forall_mem_cons.mpr ⟨ok_callV C h_X11_log ⟨rfl, rfl⟩ rfl kw_1652 kw_1649 kw_1650 kw_1651 kw_11 rfl ds_X11_log ⟨by decide, by decide⟩ (show decode cL_law 1323 = .ok (.invokevirtual 169, 3) from dk_at dq53_17 (i := 37) rfl) rfl, ?_⟩
  refine List.forall_mem_cons.mpr ⟨ok_pop C (show decode cL_law 1326 = .ok (.pop, 1) from dk_at dq53_17 (i := 38) rfl) rfl, ?_⟩
  refine List.forall_mem_cons.mpr ⟨ok_goto C (show decode cL_law 1327 = .ok (.goto 141, 3) from dk_at dq53_17 (i := 39) rfl) (tg := 1468) (by decide) rfl, ?_⟩
  refine List.forall_mem_cons.mpr ⟨ok_aload_n C (show decode cL_law 1330 = .ok (.aload_n 1, 1) from dk_at dq53_17 (i := 40) rfl) rfl rfl, ?_⟩
  refine List.forall_mem_cons.mpr ⟨ok_aload_n C (show decode cL_law 1331 = .ok (.aload_n 0, 1) from dk_at dq53_17 (i := 41) rfl) rfl rfl, ?_⟩
  exact fun _ h => absurd h List.not_mem_nil
def L_law_9 (xs : Nat → Int32) (n : Nat) (f_X10_logged : List Value → ab_H → Option ab_O) (f_X11_logged : List Value → ab_H → Option ab_O) (f_X10_sentence : List Value → ab_H → Option ab_O) (f_X11_sentence : List Value → ab_H → Option ab_O) (f_X10_said : List Value → ab_H → Option ab_O) (f_X11_said : List Value → ab_H → Option ab_O) (f_X10_image : List Value → ab_H → Option ab_O) (f_X11_image : List Value → ab_H → Option ab_O) (f_X10_restore : List Value → ab_H → Option ab_O) (f_X11_restore : List Value → ab_H → Option ab_O) (f_X10_count : List Value → ab_H → Option ab_O) (f_X11_count : List Value → ab_H → Option ab_O) : List (Nat × ab_A) := [
  (1332, ab_nx 1334 (ab_iload 4)),
  (1334, ab_nx 1335 (ab_lit (.int 1))),
  (1335, ab_nx 1336 (ab_bin (fun x y => x + y))),
  (1336, ab_nx 1337 (ab_sld xs n)),
  (1337, ab_nx 1340 (ab_callV 2 10 f_X10_logged 0 0 709736 6966897)),
  (1340, ab_nx 1341 ab_pop),
  (1341, ab_nx 1342 (ab_aload 2)),
  (1342, ab_nx 1343 (ab_aload 0)),
  (1343, ab_nx 1345 (ab_iload 4)),
  (1345, ab_nx 1346 (ab_lit (.int 1))),
  (1346, ab_nx 1347 (ab_bin (fun x y => x + y))),
  (1347, ab_nx 1348 (ab_sld xs n)),
  (1348, ab_nx 1351 (ab_callV 2 11 f_X11_logged 0 0 709736 6966897)),
  (1351, ab_nx 1352 ab_pop),
  (1352, ab_goto 1468),
  (1355, ab_nx 1356 (ab_aload 1)),
  (1356, ab_nx 1359 (ab_callV 1 10 f_X10_sentence 0 0 709736 6966897)),
  (1359, ab_nx 1360 ab_pop),
  (1360, ab_nx 1361 (ab_aload 2)),
  (1361, ab_nx 1364 (ab_callV 1 11 f_X11_sentence 0 0 709736 6966897)),
  (1364, ab_nx 1365 ab_pop),
  (1365, ab_goto 1468),
  (1368, ab_nx 1369 (ab_aload 1)),
  (1369, ab_nx 1370 (ab_aload 0)),
  (1370, ab_nx 1372 (ab_iload 4)),
  (1372, ab_nx 1373 (ab_lit (.int 1))),
  (1373, ab_nx 1374 (ab_bin (fun x y => x + y))),
  (1374, ab_nx 1375 (ab_sld xs n)),
  (1375, ab_nx 1378 (ab_callV 2 10 f_X10_said 0 0 709736 6966897)),
  (1378, ab_nx 1379 ab_pop),
  (1379, ab_nx 1380 (ab_aload 2)),
  (1380, ab_nx 1381 (ab_aload 0)),
  (1381, ab_nx 1383 (ab_iload 4)),
  (1383, ab_nx 1384 (ab_lit (.int 1))),
  (1384, ab_nx 1385 (ab_bin (fun x y => x + y))),
  (1385, ab_nx 1386 (ab_sld xs n)),
  (1386, ab_nx 1389 (ab_callV 2 11 f_X11_said 0 0 709736 6966897)),
  (1389, ab_nx 1390 ab_pop),
  (1390, ab_goto 1468),
  (1393, ab_nx 1394 (ab_aload 1)),
  (1394, ab_nx 1395 (ab_aload 0)),
  (1395, ab_nx 1397 (ab_iload 4)),
  (1397, ab_nx 1398 (ab_lit (.int 1))),
  (1398, ab_nx 1399 (ab_bin (fun x y => x + y))),
  (1399, ab_nx 1400 (ab_sld xs n)),
  (1400, ab_nx 1403 (ab_callV 2 10 f_X10_image 21 410 709736 6966897)),
  (1403, ab_nx 1404 ab_pop),
  (1404, ab_nx 1405 (ab_aload 2)),
  (1405, ab_nx 1406 (ab_aload 0)),
  (1406, ab_nx 1408 (ab_iload 4)),
  (1408, ab_nx 1409 (ab_lit (.int 1))),
  (1409, ab_nx 1410 (ab_bin (fun x y => x + y))),
  (1410, ab_nx 1411 (ab_sld xs n)),
  (1411, ab_nx 1414 (ab_callV 2 11 f_X11_image 0 0 709736 6966897)),
  (1414, ab_nx 1415 ab_pop),
  (1415, ab_goto 1468),
  (1418, ab_nx 1419 (ab_aload 1)),
  (1419, ab_nx 1420 (ab_aload 0)),
  (1420, ab_nx 1422 (ab_iload 4)),
  (1422, ab_nx 1423 (ab_lit (.int 1))),
  (1423, ab_nx 1424 (ab_bin (fun x y => x + y))),
  (1424, ab_nx 1425 (ab_sld xs n)),
  (1425, ab_nx 1428 (ab_callV 2 10 f_X10_restore 0 0 709736 6966897)),
  (1428, ab_nx 1429 ab_pop),
  (1429, ab_nx 1430 (ab_aload 2)),
  (1430, ab_nx 1431 (ab_aload 0)),
  (1431, ab_nx 1433 (ab_iload 4)),
  (1433, ab_nx 1434 (ab_lit (.int 1))),
  (1434, ab_nx 1435 (ab_bin (fun x y => x + y))),
  (1435, ab_nx 1436 (ab_sld xs n)),
  (1436, ab_nx 1439 (ab_callV 2 11 f_X11_restore 0 0 709736 6966897)),
  (1439, ab_nx 1440 ab_pop),
  (1440, ab_goto 1468),
  (1443, ab_nx 1444 (ab_aload 1)),
  (1444, ab_nx 1445 (ab_aload 0)),
  (1445, ab_nx 1447 (ab_iload 4)),
  (1447, ab_nx 1448 (ab_lit (.int 1))),
  (1448, ab_nx 1449 (ab_bin (fun x y => x + y))),
  (1449, ab_nx 1450 (ab_sld xs n)),
  (1450, ab_nx 1453 (ab_callV 2 10 f_X10_count 0 0 709736 6966897)),
  (1453, ab_nx 1454 ab_pop),
  (1454, ab_nx 1455 (ab_aload 2)),
  (1455, ab_nx 1456 (ab_aload 0)),
  (1456, ab_nx 1458 (ab_iload 4)),
  (1458, ab_nx 1459 (ab_lit (.int 1))),
  (1459, ab_nx 1460 (ab_bin (fun x y => x + y))),
  (1460, ab_nx 1461 (ab_sld xs n)),
  (1461, ab_nx 1464 (ab_callV 2 11 f_X11_count 0 0 709736 6966897)),
  (1464, ab_nx 1465 ab_pop),
  (1465, ab_goto 1468)]
set_option maxRecDepth 100000 in
theorem dq53_18 : ([(1332, .iload 4, 2), (1334, .iconst 1, 1), (1335, .iadd, 1), (1336, .iaload, 1), (1337, .invokevirtual 170, 3), (1340, .pop, 1), (1341, .aload_n 2, 1), (1342, .aload_n 0, 1), (1343, .iload 4, 2), (1345, .iconst 1, 1), (1346, .iadd, 1), (1347, .iaload, 1), (1348, .invokevirtual 173, 3), (1351, .pop, 1), (1352, .goto 116, 3), (1355, .aload_n 1, 1), (1356, .invokevirtual 174, 3), (1359, .pop, 1), (1360, .aload_n 2, 1), (1361, .invokevirtual 177, 3), (1364, .pop, 1), (1365, .goto 103, 3), (1368, .aload_n 1, 1), (1369, .aload_n 0, 1), (1370, .iload 4, 2), (1372, .iconst 1, 1), (1373, .iadd, 1), (1374, .iaload, 1), (1375, .invokevirtual 178, 3), (1378, .pop, 1), (1379, .aload_n 2, 1), (1380, .aload_n 0, 1), (1381, .iload 4, 2), (1383, .iconst 1, 1), (1384, .iadd, 1), (1385, .iaload, 1), (1386, .invokevirtual 181, 3), (1389, .pop, 1), (1390, .goto 78, 3), (1393, .aload_n 1, 1), (1394, .aload_n 0, 1), (1395, .iload 4, 2), (1397, .iconst 1, 1), (1398, .iadd, 1), (1399, .iaload, 1), (1400, .invokevirtual 182, 3), (1403, .pop, 1), (1404, .aload_n 2, 1)] : List (Nat × Instr × Nat)).all (fun q => decide (decode cL_law q.1 = .ok q.2)) = true := by decide +kernel
set_option maxRecDepth 100000 in
theorem dq53_19 : ([(1405, .aload_n 0, 1), (1406, .iload 4, 2), (1408, .iconst 1, 1), (1409, .iadd, 1), (1410, .iaload, 1), (1411, .invokevirtual 185, 3), (1414, .pop, 1), (1415, .goto 53, 3), (1418, .aload_n 1, 1), (1419, .aload_n 0, 1), (1420, .iload 4, 2), (1422, .iconst 1, 1), (1423, .iadd, 1), (1424, .iaload, 1), (1425, .invokevirtual 186, 3), (1428, .pop, 1), (1429, .aload_n 2, 1), (1430, .aload_n 0, 1), (1431, .iload 4, 2), (1433, .iconst 1, 1), (1434, .iadd, 1), (1435, .iaload, 1), (1436, .invokevirtual 189, 3), (1439, .pop, 1), (1440, .goto 28, 3), (1443, .aload_n 1, 1), (1444, .aload_n 0, 1), (1445, .iload 4, 2), (1447, .iconst 1, 1), (1448, .iadd, 1), (1449, .iaload, 1), (1450, .invokevirtual 190, 3), (1453, .pop, 1), (1454, .aload_n 2, 1), (1455, .aload_n 0, 1), (1456, .iload 4, 2), (1458, .iconst 1, 1), (1459, .iadd, 1), (1460, .iaload, 1), (1461, .invokevirtual 193, 3), (1464, .pop, 1), (1465, .goto 3, 3)] : List (Nat × Instr × Nat)).all (fun q => decide (decode cL_law q.1 = .ok q.2)) = true := by decide +kernel
set_option maxRecDepth 100000 in
set_option maxHeartbeats 4000000 in
theorem law_9 {p : Program} {l : Launch} {e : Env} {s : State} {m : MethodId} {below : List Frame} {meth : Method} {c : Code} {cd : Cond} {b : ab_B} {D : va_G} {cA : Nat → ClassId} {o : ab_O} {xs : Nat → Int32} {n bb : Nat} {nm : String} (C : ab_cx p l e room_1 s m #[Value.ref bb] below meth c D ab_cl cA (ab_E0 b) (⟨RL, nm, "([I)Z"⟩ : MethodName) cL_law 7 ret (cd :: ab_G) room_1) (hX : va_X bb n xs s s.heap) (hb0 : b.2 0 = bb) (hb1 : b.1 = s.heap.size ∧ bb < s.heap.size) {f_X10_logged : List Value → ab_H → Option ab_O} (h_X10_logged : ab_M l b D ab_cl cA (ab_E0 b) yX10_logged (Cond.code yX10_logged cX10_logged 2 (some .int) :: ab_G) ({ frames := 1, cells := 0, slots := 0, locals := 100 } : Room) f_X10_logged) {f_X11_logged : List Value → ab_H → Option ab_O} (h_X11_logged : ab_M l b D ab_cl cA (ab_E0 b) yX11_logged (Cond.code yX11_logged cX11_logged 2 (some .int) :: ab_G) ({ frames := 2, cells := 0, slots := 0, locals := 200 } : Room) f_X11_logged) {f_X10_sentence : List Value → ab_H → Option ab_O} (h_X10_sentence : ab_M l b D ab_cl cA (ab_E0 b) yX10_sentence (Cond.code yX10_sentence cX10_sentence 2 (some .int) :: ab_G) ({ frames := 41, cells := 0, slots := 0, locals := 4100 } : Room) f_X10_sentence) {f_X11_sentence : List Value → ab_H → Option ab_O} (h_X11_sentence : ab_M l b D ab_cl cA (ab_E0 b) yX11_sentence (Cond.code yX11_sentence cX11_sentence 3 (some .int) :: ab_G) ({ frames := 5, cells := 0, slots := 0, locals := 500 } : Room) f_X11_sentence) {f_X10_said : List Value → ab_H → Option ab_O} (h_X10_said : ab_M l b D ab_cl cA (ab_E0 b) yX10_said (Cond.code yX10_said cX10_said 4 (some .int) :: ab_G) ({ frames := 6, cells := 0, slots := 0, locals := 600 } : Room) f_X10_said) {f_X11_said : List Value → ab_H → Option ab_O} (h_X11_said : ab_M l b D ab_cl cA (ab_E0 b) yX11_said (Cond.code yX11_said cX11_said 4 (some .int) :: ab_G) ({ frames := 6, cells := 0, slots := 0, locals := 600 } : Room) f_X11_said) {f_X10_image : List Value → ab_H → Option ab_O} (h_X10_image : ab_M l b D ab_cl cA (ab_E0 b) yX10_image (Cond.code yX10_image cX10_image 3 (some .boolean) :: ab_G) ({ frames := 4, cells := 21, slots := 410, locals := 400 } : Room) f_X10_image) {f_X11_image : List Value → ab_H → Option ab_O} (h_X11_image : ab_M l b D ab_cl cA (ab_E0 b) yX11_image (Cond.code yX11_image cX11_image 3 (some .boolean) :: ab_G) ({ frames := 2, cells := 0, slots := 0, locals := 200 } : Room) f_X11_image) {f_X10_restore : List Value → ab_H → Option ab_O} (h_X10_restore : ab_M l b D ab_cl cA (ab_E0 b) yX10_restore (Cond.code yX10_restore cX10_restore 3 (some .boolean) :: ab_G) ({ frames := 3, cells := 0, slots := 0, locals := 300 } : Room) f_X10_restore) {f_X11_restore : List Value → ab_H → Option ab_O} (h_X11_restore : ab_M l b D ab_cl cA (ab_E0 b) yX11_restore (Cond.code yX11_restore cX11_restore 3 (some .boolean) :: ab_G) ({ frames := 2, cells := 0, slots := 0, locals := 200 } : Room) f_X11_restore) {f_X10_count : List Value → ab_H → Option ab_O} (h_X10_count : ab_M l b D ab_cl cA (ab_E0 b) yX10_count (Cond.code yX10_count cX10_count 2 (some .int) :: ab_G) ({ frames := 1, cells := 0, slots := 0, locals := 100 } : Room) f_X10_count) {f_X11_count : List Value → ab_H → Option ab_O} (h_X11_count : ab_M l b D ab_cl cA (ab_E0 b) yX11_count (Cond.code yX11_count cX11_count 2 (some .int) :: ab_G) ({ frames := 2, cells := 0, slots := 0, locals := 200 } : Room) f_X11_count) : ∀ q ∈ L_law_9 xs n f_X10_logged f_X11_logged f_X10_sentence f_X11_sentence f_X10_said f_X11_said f_X10_image f_X11_image f_X10_restore f_X11_restore f_X10_count f_X11_count, ab_ok p l e room_1 s m #[Value.ref bb] below meth c (lw_Z below #[Value.ref bb] s) b D ab_cl cA 7 o (fun i => i) q.1 q.2 := by
  unfold L_law_9
  refine List.forall_mem_cons.mpr ⟨ok_iload C (show decode cL_law 1332 = .ok (.iload 4, 2) from dk_at dq53_18 (i := 0) rfl) rfl, ?_⟩
  refine List.forall_mem_cons.mpr ⟨ok_iconst C (show decode cL_law 1334 = .ok (.iconst 1, 1) from dk_at dq53_18 (i := 1) rfl) (by decide) rfl, ?_⟩
  refine List.forall_mem_cons.mpr ⟨ok_iadd C (show decode cL_law 1335 = .ok (.iadd, 1) from dk_at dq53_18 (i := 2) rfl) rfl, ?_⟩
  refine List.forall_mem_cons.mpr ⟨ok_sld C hX hb0 hb1 (show decode cL_law 1336 = .ok (.iaload, 1) from dk_at dq53_18 (i := 3) rfl) rfl, ?_⟩
  refine List.forall_mem_cons.mpr ⟨ok_callV C h_X10_logged ⟨rfl, rfl⟩ rfl kw_952 kw_949 kw_950 kw_951 kw_1 rfl ds_X10_logged ⟨by decide, by decide⟩ (show decode cL_law 1337 = .ok (.invokevirtual 170, 3) from dk_at dq53_18 (i := 4) rfl) rfl, ?_⟩
  refine List.forall_mem_cons.mpr ⟨ok_pop C (show decode cL_law 1340 = .ok (.pop, 1) from dk_at dq53_18 (i := 5) rfl) rfl, ?_⟩
  refine List.forall_mem_cons.mpr ⟨ok_aload_n C (show decode cL_law 1341 = .ok (.aload_n 2, 1) from dk_at dq53_18 (i := 6) rfl) rfl rfl, ?_⟩
  refine List.forall_mem_cons.mpr ⟨ok_aload_n C (show decode cL_law 1342 = .ok (.aload_n 0, 1) from dk_at dq53_18 (i := 7) rfl) rfl rfl, ?_⟩
  refine List.forall_mem_cons.mpr ⟨ok_iload C (show decode cL_law 1343 = .ok (.iload 4, 2) from dk_at dq53_18 (i := 8) rfl) rfl, ?_⟩
  refine List.forall_mem_cons.mpr ⟨ok_iconst C (show decode cL_law 1345 = .ok (.iconst 1, 1) from dk_at dq53_18 (i := 9) rfl) (by decide) rfl, ?_⟩
  refine List.forall_mem_cons.mpr ⟨ok_iadd C (show decode cL_law 1346 = .ok (.iadd, 1) from dk_at dq53_18 (i := 10) rfl) rfl, ?_⟩
  refine List.forall_mem_cons.mpr ⟨ok_sld C hX hb0 hb1 (show decode cL_law 1347 = .ok (.iaload, 1) from dk_at dq53_18 (i := 11) rfl) rfl, ?_⟩
  refine List.forall_mem_cons.mpr ⟨ok_callV C h_X11_logged ⟨rfl, rfl⟩ rfl kw_1664 kw_1661 kw_1662 kw_1663 kw_11 rfl ds_X11_logged ⟨by decide, by decide⟩ (show decode cL_law 1348 = .ok (.invokevirtual 173, 3) from dk_at dq53_18 (i := 12) rfl) rfl, ?_⟩
  refine List.forall_mem_cons.mpr ⟨ok_pop C (show decode cL_law 1351 = .ok (.pop, 1) from dk_at dq53_18 (i := 13) rfl) rfl, ?_⟩
  refine List.forall_mem_cons.mpr ⟨ok_goto C (show decode cL_law 1352 = .ok (.goto 116, 3) from dk_at dq53_18 (i := 14) rfl) (tg := 1468) (by decide) rfl, ?_⟩
  refine List.forall_mem_cons.mpr ⟨ok_aload_n C (show decode cL_law 1355 = .ok (.aload_n 1, 1) from dk_at dq53_18 (i := 15) rfl) rfl rfl, ?_⟩
  refine List.forall_mem_cons.mpr ⟨ok_callV C h_X10_sentence ⟨rfl, rfl⟩ rfl kw_956 kw_953 kw_954 kw_955 kw_1 rfl ds_X10_sentence ⟨by decide, by decide⟩ (show decode cL_law 1356 = .ok (.invokevirtual 174, 3) from dk_at dq53_18 (i := 16) rfl) rfl, ?_⟩
  refine List.forall_mem_cons.mpr ⟨ok_pop C (show decode cL_law 1359 = .ok (.pop, 1) from dk_at dq53_18 (i := 17) rfl) rfl, ?_⟩
  refine List.forall_mem_cons.mpr ⟨ok_aload_n C (show decode cL_law 1360 = .ok (.aload_n 2, 1) from dk_at dq53_18 (i := 18) rfl) rfl rfl, ?_⟩
  refine List.forall_mem_cons.mpr ⟨ok_callV C h_X11_sentence ⟨rfl, rfl⟩ rfl kw_1668 kw_1665 kw_1666 kw_1667 kw_11 rfl ds_X11_sentence ⟨by decide, by decide⟩ (show decode cL_law 1361 = .ok (.invokevirtual 177, 3) from dk_at dq53_18 (i := 19) rfl) rfl, ?_⟩
  refine List.forall_mem_cons.mpr ⟨ok_pop C (show decode cL_law 1364 = .ok (.pop, 1) from dk_at dq53_18 (i := 20) rfl) rfl, ?_⟩
  refine List.forall_mem_cons.mpr ⟨ok_goto C (show decode cL_law 1365 = .ok (.goto 103, 3) from dk_at dq53_18 (i := 21) rfl) (tg := 1468) (by decide) rfl, ?_⟩
  refine List.forall_mem_cons.mpr ⟨ok_aload_n C (show decode cL_law 1368 = .ok (.aload_n 1, 1) from dk_at dq53_18 (i := 22) rfl) rfl rfl, ?_⟩
  refine List.forall_mem_cons.mpr ⟨ok_aload_n C (show decode cL_law 1369 = .ok (.aload_n 0, 1) from dk_at dq53_18 (i := 23) rfl) rfl rfl, ?_⟩
  refine List.forall_mem_cons.mpr ⟨ok_iload C (show decode cL_law 1370 = .ok (.iload 4, 2) from dk_at dq53_18 (i := 24) rfl) rfl, ?_⟩
  refine List.forall_mem_cons.mpr ⟨ok_iconst C (show decode cL_law 1372 = .ok (.iconst 1, 1) from dk_at dq53_18 (i := 25) rfl) (by decide) rfl, ?_⟩
  refine List.forall_mem_cons.mpr ⟨ok_iadd C (show decode cL_law 1373 = .ok (.iadd, 1) from dk_at dq53_18 (i := 26) rfl) rfl, ?_⟩
  refine List.forall_mem_cons.mpr ⟨ok_sld C hX hb0 hb1 (show decode cL_law 1374 = .ok (.iaload, 1) from dk_at dq53_18 (i := 27) rfl) rfl, ?_⟩
  refine List.forall_mem_cons.mpr ⟨ok_callV C h_X10_said ⟨rfl, rfl⟩ rfl kw_995 kw_992 kw_993 kw_994 kw_1 rfl ds_X10_said ⟨by decide, by decide⟩ (show decode cL_law 1375 = .ok (.invokevirtual 178, 3) from dk_at dq53_18 (i := 28) rfl) rfl, ?_⟩
  refine List.forall_mem_cons.mpr ⟨ok_pop C (show decode cL_law 1378 = .ok (.pop, 1) from dk_at dq53_18 (i := 29) rfl) rfl, ?_⟩
  refine List.forall_mem_cons.mpr ⟨ok_aload_n C (show decode cL_law 1379 = .ok (.aload_n 2, 1) from dk_at dq53_18 (i := 30) rfl) rfl rfl, ?_⟩
  refine List.forall_mem_cons.mpr ⟨ok_aload_n C (show decode cL_law 1380 = .ok (.aload_n 0, 1) from dk_at dq53_18 (i := 31) rfl) rfl rfl, ?_⟩
  refine List.forall_mem_cons.mpr ⟨ok_iload C (show decode cL_law 1381 = .ok (.iload 4, 2) from dk_at dq53_18 (i := 32) rfl) rfl, ?_⟩
  refine List.forall_mem_cons.mpr ⟨ok_iconst C (show decode cL_law 1383 = .ok (.iconst 1, 1) from dk_at dq53_18 (i := 33) rfl) (by decide) rfl, ?_⟩
  refine List.forall_mem_cons.mpr ⟨ok_iadd C (show decode cL_law 1384 = .ok (.iadd, 1) from dk_at dq53_18 (i := 34) rfl) rfl, ?_⟩
  refine List.forall_mem_cons.mpr ⟨ok_sld C hX hb0 hb1 (show decode cL_law 1385 = .ok (.iaload, 1) from dk_at dq53_18 (i := 35) rfl) rfl, ?_⟩
  refine List.forall_mem_cons.mpr ⟨ok_callV C h_X11_said ⟨rfl, rfl⟩ rfl kw_1696 kw_1693 kw_1694 kw_1695 kw_11 rfl ds_X11_said ⟨by decide, by decide⟩ (show decode cL_law 1386 = .ok (.invokevirtual 181, 3) from dk_at dq53_18 (i := 36) rfl) rfl, ?_⟩
  refine List.forall_mem_cons.mpr ⟨ok_pop C (show decode cL_law 1389 = .ok (.pop, 1) from dk_at dq53_18 (i := 37) rfl) rfl, ?_⟩
  refine List.forall_mem_cons.mpr ⟨ok_goto C (show decode cL_law 1390 = .ok (.goto 78, 3) from dk_at dq53_18 (i := 38) rfl) (tg := 1468) (by decide) rfl, ?_⟩
  refine List.forall_mem_cons.mpr ⟨ok_aload_n C (show decode cL_law 1393 = .ok (.aload_n 1, 1) from dk_at dq53_18 (i := 39) rfl) rfl rfl, ?_⟩
  refine List.forall_mem_cons.mpr ⟨ok_aload_n C (show decode cL_law 1394 = .ok (.aload_n 0, 1) from dk_at dq53_18 (i := 40) rfl) rfl rfl, ?_⟩
  refine List.forall_mem_cons.mpr ⟨ok_iload C (show decode cL_law 1395 = .ok (.iload 4, 2) from dk_at dq53_18 (i := 41) rfl) rfl, ?_⟩
  refine List.forall_mem_cons.mpr ⟨ok_iconst C (show decode cL_law 1397 = .ok (.iconst 1, 1) from dk_at dq53_18 (i := 42) rfl) (by decide) rfl, ?_⟩
  refine List.forall_mem_cons.mpr ⟨ok_iadd C (show decode cL_law 1398 = .ok (.iadd, 1) from dk_at dq53_18 (i := 43) rfl) rfl, ?_⟩
  refine List.forall_mem_cons.mpr ⟨ok_sld C hX hb0 hb1 (show decode cL_law 1399 = .ok (.iaload, 1) from dk_at dq53_18 (i := 44) rfl) rfl, ?_⟩
  refine List.forall_mem_cons.mpr ⟨ok_callV C h_X10_image ⟨rfl, rfl⟩ rfl kw_1020 kw_1017 kw_1018 kw_1019 kw_1 rfl ds_X10_image ⟨by decide, by decide⟩ (show decode cL_law 1400 = .ok (.invokevirtual 182, 3) from dk_at dq53_18 (i := 45) rfl) rfl, ?_⟩
  refine List.forall_mem_cons.mpr ⟨ok_pop C (show decode cL_law 1403 = .ok (.pop, 1) from dk_at dq53_18 (i := 46) rfl) rfl, ?_⟩
  refine List.forall_mem_cons.mpr ⟨ok_aload_n C (show decode cL_law 1404 = .ok (.aload_n 2, 1) from dk_at dq53_18 (i := 47) rfl) rfl rfl, ?_⟩
  refine List.forall_mem_cons.mpr ⟨ok_aload_n C (show decode cL_law 1405 = .ok (.aload_n 0, 1) from dk_at dq53_19 (i := 0) rfl) rfl rfl, ?_⟩
  refine List.forall_mem_cons.mpr ⟨ok_iload C (show decode cL_law 1406 = .ok (.iload 4, 2) from dk_at dq53_19 (i := 1) rfl) rfl, ?_⟩
  refine List.forall_mem_cons.mpr ⟨ok_iconst C (show decode cL_law 1408 = .ok (.iconst 1, 1) from dk_at dq53_19 (i := 2) rfl) (by decide) rfl, ?_⟩
  refine List.forall_mem_cons.mpr ⟨ok_iadd C (show decode cL_law 1409 = .ok (.iadd, 1) from dk_at dq53_19 (i := 3) rfl) rfl, ?_⟩
  refine List.forall_mem_cons.mpr ⟨ok_sld C hX hb0 hb1 (show decode cL_law 1410 = .ok (.iaload, 1) from dk_at dq53_19 (i := 4) rfl) rfl, ?_⟩
  refine List.forall_mem_cons.mpr ⟨ok_callV C h_X11_image ⟨rfl, rfl⟩ rfl kw_1708 kw_1705 kw_1706 kw_1707 kw_11 rfl ds_X11_image ⟨by decide, by decide⟩ (show decode cL_law 1411 = .ok (.invokevirtual 185, 3) from dk_at dq53_19 (i := 5) rfl) rfl, ?_⟩
  refine List.forall_mem_cons.mpr ⟨ok_pop C (show decode cL_law 1414 = .ok (.pop, 1) from dk_at dq53_19 (i := 6) rfl) rfl, ?_⟩
  refine List.forall_mem_cons.mpr ⟨ok_goto C (show decode cL_law 1415 = .ok (.goto 53, 3) from dk_at dq53_19 (i := 7) rfl) (tg := 1468) (by decide) rfl, ?_⟩
  refine List.forall_mem_cons.mpr ⟨ok_aload_n C (show decode cL_law 1418 = .ok (.aload_n 1, 1) from dk_at dq53_19 (i := 8) rfl) rfl rfl, ?_⟩
  refine List.forall_mem_cons.mpr ⟨ok_aload_n C (show decode cL_law 1419 = .ok (.aload_n 0, 1) from dk_at dq53_19 (i := 9) rfl) rfl rfl, ?_⟩
  refine List.forall_mem_cons.mpr ⟨ok_iload C (show decode cL_law 1420 = .ok (.iload 4, 2) from dk_at dq53_19 (i := 10) rfl) rfl, ?_⟩
  refine List.forall_mem_cons.mpr ⟨ok_iconst C (show decode cL_law 1422 = .ok (.iconst 1, 1) from dk_at dq53_19 (i := 11) rfl) (by decide) rfl, ?_⟩
  refine List.forall_mem_cons.mpr ⟨ok_iadd C (show decode cL_law 1423 = .ok (.iadd, 1) from dk_at dq53_19 (i := 12) rfl) rfl, ?_⟩
  refine List.forall_mem_cons.mpr ⟨ok_sld C hX hb0 hb1 (show decode cL_law 1424 = .ok (.iaload, 1) from dk_at dq53_19 (i := 13) rfl) rfl, ?_⟩
  refine List.forall_mem_cons.mpr ⟨ok_callV C h_X10_restore ⟨rfl, rfl⟩ rfl kw_1058 kw_1055 kw_1056 kw_1057 kw_1 rfl ds_X10_restore ⟨by decide, by decide⟩ (show decode cL_law 1425 = .ok (.invokevirtual 186, 3) from dk_at dq53_19 (i := 14) rfl) rfl, ?_⟩
  refine List.forall_mem_cons.mpr ⟨ok_pop C (show decode cL_law 1428 = .ok (.pop, 1) from dk_at dq53_19 (i := 15) rfl) rfl, ?_⟩
  refine List.forall_mem_cons.mpr ⟨ok_aload_n C (show decode cL_law 1429 = .ok (.aload_n 2, 1) from dk_at dq53_19 (i := 16) rfl) rfl rfl, ?_⟩
  refine List.forall_mem_cons.mpr ⟨ok_aload_n C (show decode cL_law 1430 = .ok (.aload_n 0, 1) from dk_at dq53_19 (i := 17) rfl) rfl rfl, ?_⟩
  refine List.forall_mem_cons.mpr ⟨ok_iload C (show decode cL_law 1431 = .ok (.iload 4, 2) from dk_at dq53_19 (i := 18) rfl) rfl, ?_⟩
  refine List.forall_mem_cons.mpr ⟨ok_iconst C (show decode cL_law 1433 = .ok (.iconst 1, 1) from dk_at dq53_19 (i := 19) rfl) (by decide) rfl, ?_⟩
  refine List.forall_mem_cons.mpr ⟨ok_iadd C (show decode cL_law 1434 = .ok (.iadd, 1) from dk_at dq53_19 (i := 20) rfl) rfl, ?_⟩
  refine List.forall_mem_cons.mpr ⟨ok_sld C hX hb0 hb1 (show decode cL_law 1435 = .ok (.iaload, 1) from dk_at dq53_19 (i := 21) rfl) rfl, ?_⟩
  refine List.forall_mem_cons.mpr ⟨ok_callV C h_X11_restore ⟨rfl, rfl⟩ rfl kw_1712 kw_1709 kw_1710 kw_1711 kw_11 rfl ds_X11_restore ⟨by decide, by decide⟩ (show decode cL_law 1436 = .ok (.invokevirtual 189, 3) from dk_at dq53_19 (i := 22) rfl) rfl, ?_⟩
  refine List.forall_mem_cons.mpr ⟨ok_pop C (show decode cL_law 1439 = .ok (.pop, 1) from dk_at dq53_19 (i := 23) rfl) rfl, ?_⟩
  refine List.forall_mem_cons.mpr ⟨ok_goto C (show decode cL_law 1440 = .ok (.goto 28, 3) from dk_at dq53_19 (i := 24) rfl) (tg := 1468) (by decide) rfl, ?_⟩
  refine List.forall_mem_cons.mpr ⟨ok_aload_n C (show decode cL_law 1443 = .ok (.aload_n 1, 1) from dk_at dq53_19 (i := 25) rfl) rfl rfl, ?_⟩
  refine List.forall_mem_cons.mpr ⟨ok_aload_n C (show decode cL_law 1444 = .ok (.aload_n 0, 1) from dk_at dq53_19 (i := 26) rfl) rfl rfl, ?_⟩
  refine List.forall_mem_cons.mpr ⟨ok_iload C (show decode cL_law 1445 = .ok (.iload 4, 2) from dk_at dq53_19 (i := 27) rfl) rfl, ?_⟩
  refine List.forall_mem_cons.mpr ⟨ok_iconst C (show decode cL_law 1447 = .ok (.iconst 1, 1) from dk_at dq53_19 (i := 28) rfl) (by decide) rfl, ?_⟩
  refine List.forall_mem_cons.mpr ⟨ok_iadd C (show decode cL_law 1448 = .ok (.iadd, 1) from dk_at dq53_19 (i := 29) rfl) rfl, ?_⟩
  refine List.forall_mem_cons.mpr ⟨ok_sld C hX hb0 hb1 (show decode cL_law 1449 = .ok (.iaload, 1) from dk_at dq53_19 (i := 30) rfl) rfl, ?_⟩
  refine List.forall_mem_cons.mpr ⟨ok_callV C h_X10_count ⟨rfl, rfl⟩ rfl kw_696 kw_693 kw_694 kw_695 kw_1 rfl ds_X10_count ⟨by decide, by decide⟩ (show decode cL_law 1450 = .ok (.invokevirtual 190, 3) from dk_at dq53_19 (i := 31) rfl) rfl, ?_⟩
  refine List.forall_mem_cons.mpr ⟨ok_pop C (show decode cL_law 1453 = .ok (.pop, 1) from dk_at dq53_19 (i := 32) rfl) rfl, ?_⟩
  refine List.forall_mem_cons.mpr ⟨ok_aload_n C (show decode cL_law 1454 = .ok (.aload_n 2, 1) from dk_at dq53_19 (i := 33) rfl) rfl rfl, ?_⟩
  refine List.forall_mem_cons.mpr ⟨ok_aload_n C (show decode cL_law 1455 = .ok (.aload_n 0, 1) from dk_at dq53_19 (i := 34) rfl) rfl rfl, ?_⟩
  refine List.forall_mem_cons.mpr ⟨ok_iload C (show decode cL_law 1456 = .ok (.iload 4, 2) from dk_at dq53_19 (i := 35) rfl) rfl, ?_⟩
  refine List.forall_mem_cons.mpr ⟨ok_iconst C (show decode cL_law 1458 = .ok (.iconst 1, 1) from dk_at dq53_19 (i := 36) rfl) (by decide) rfl, ?_⟩
  refine List.forall_mem_cons.mpr ⟨ok_iadd C (show decode cL_law 1459 = .ok (.iadd, 1) from dk_at dq53_19 (i := 37) rfl) rfl, ?_⟩
  refine List.forall_mem_cons.mpr ⟨ok_sld C hX hb0 hb1 (show decode cL_law 1460 = .ok (.iaload, 1) from dk_at dq53_19 (i := 38) rfl) rfl, ?_⟩
  refine List.forall_mem_cons.mpr ⟨ok_callV C h_X11_count ⟨rfl, rfl⟩ rfl kw_1716 kw_1713 kw_1714 kw_1715 kw_11 rfl ds_X11_count ⟨by decide, by decide⟩ (show decode cL_law 1461 = .ok (.invokevirtual 193, 3) from dk_at dq53_19 (i := 39) rfl) rfl, ?_⟩
  refine List.forall_mem_cons.mpr ⟨ok_pop C (show decode cL_law 1464 = .ok (.pop, 1) from dk_at dq53_19 (i := 40) rfl) rfl, ?_⟩
  refine List.forall_mem_cons.mpr ⟨ok_goto C (show decode cL_law 1465 = .ok (.goto 3, 3) from dk_at dq53_19 (i := 41) rfl) (tg := 1468) (by decide) rfl, ?_⟩
  exact fun _ h => absurd h List.not_mem_nil
def L_law_10 (xs : Nat → Int32) (n : Nat) : List (Nat × ab_A) := [
  (1468, ab_nx 1471 (ab_iinc 4 6)),
  (1471, ab_goto 23),
  (1474, ab_nx 1475 (ab_lit (.int 1))),
  (1475, ab_lret)]
set_option maxRecDepth 100000 in
theorem dq53_20 : ([(1468, .iinc 4 6, 3), (1471, .goto (-1448), 3), (1474, .iconst 1, 1), (1475, .ireturn, 1)] : List (Nat × Instr × Nat)).all (fun q => decide (decode cL_law q.1 = .ok q.2)) = true := by decide +kernel
set_option maxRecDepth 100000 in
set_option maxHeartbeats 4000000 in
theorem law_10 {p : Program} {l : Launch} {e : Env} {s : State} {m : MethodId} {below : List Frame} {meth : Method} {c : Code} {cd : Cond} {b : ab_B} {D : va_G} {cA : Nat → ClassId} {o : ab_O} {xs : Nat → Int32} {n bb : Nat} {nm : String} (C : ab_cx p l e room_1 s m #[Value.ref bb] below meth c D ab_cl cA (ab_E0 b) (⟨RL, nm, "([I)Z"⟩ : MethodName) cL_law 7 ret (cd :: ab_G) room_1) (hX : va_X bb n xs s s.heap) (hb0 : b.2 0 = bb) (hb1 : b.1 = s.heap.size ∧ bb < s.heap.size) : ∀ q ∈ L_law_10 xs n, ab_ok p l e room_1 s m #[Value.ref bb] below meth c (lw_Z below #[Value.ref bb] s) b D ab_cl cA 7 o (fun i => i) q.1 q.2 := by
  unfold L_law_10
  refine List.forall_mem_cons.mpr ⟨ok_iinc C (show decode cL_law 1468 = .ok (.iinc 4 6, 3) from dk_at dq53_20 (i := 0) rfl) (by decide) (by decide) rfl, ?_⟩
  refine List.forall_mem_cons.mpr ⟨ok_goto C (show decode cL_law 1471 = .ok (.goto (-1448), 3) from dk_at dq53_20 (i := 1) rfl) (tg := 23) (by decide) rfl, ?_⟩
  refine List.forall_mem_cons.mpr ⟨ok_iconst C (show decode cL_law 1474 = .ok (.iconst 1, 1) from dk_at dq53_20 (i := 2) rfl) (by decide) rfl, ?_⟩
  refine List.forall_mem_cons.mpr ⟨ok_lret C hb1 (show decode cL_law 1475 = .ok (.ireturn, 1) from dk_at dq53_20 (i := 3) rfl), ?_⟩
  exact fun _ h => absurd h List.not_mem_nil
end
