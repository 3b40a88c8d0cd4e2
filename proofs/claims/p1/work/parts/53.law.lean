def L_law_0 (xs : Nat → Int32) (n : Nat) (f_X10_init : List Value → ab_H → Option ab_O) (f_X11_init : List Value → ab_H → Option ab_O) (f_X10_feed : List Value → ab_H → Option ab_O) (f_X11_feed : List Value → ab_H → Option ab_O) (f_X10_end : List Value → ab_H → Option ab_O) : List (Nat × ab_A) := [
  (0, ab_nx 3 (ab_new 10 19 [.null, .null, .null, .null, .null, .null, .null, .null, .null, .null, .null, .null, .null, .null, .null, .null, .null, .int 0, .int 0] 600002 7302231)),
  (3, ab_nx 4 ab_dup),
  (4, ab_nx 7 (ab_call 1 f_X10_init 68 4837 600002 7302231)),
  (7, ab_nx 8 (ab_astore 1)),
  (8, ab_nx 11 (ab_new 11 43 [.int 0, .null, .int 0, .int 0, .int 0, .int 0, .null, .null, .null, .null, .null, .int 0, .int 0, .int 0, .int 0, .int 0, .int 0, .long 0, .int 0, .int 0, .int 0, .null, .int 0, .null, .null, .int 0, .null, .null, .int 0, .int 0, .int 0, .null, .int 0, .null, .int 0, .int 0, .int 0, .int 0, .int 0, .null, .null, .null, .null] 600002 7302231)),
  (11, ab_nx 12 ab_dup),
  (12, ab_nx 15 (ab_call 1 f_X11_init 17 3972 600002 7302231)),
  (15, ab_nx 16 (ab_astore 2)),
  (16, ab_nx 17 (ab_lit (.int 1))),
  (17, ab_nx 19 (ab_newa 2 (fun n => (n, .inr (.inl (fun _ => 0)))) 600002 7302231)),
  (19, ab_nx 20 (ab_astore 3)),
  (20, ab_nx 21 (ab_lit (.int 0))),
  (21, ab_nx 23 (ab_istore 4)),
  (23, ab_nx 25 (ab_iload 4)),
  (25, ab_nx 26 (ab_aload 0)),
  (26, ab_nx 27 (ab_slen n)),
  (27, ab_nx 29 (ab_lit (.int 6))),
  (29, ab_nx 30 (ab_bin (fun x y => x - y))),
  (30, ab_icmp 33 1474 (fun x y => decide (y < x))),
  (33, ab_nx 34 (ab_aload 0)),
  (34, ab_nx 36 (ab_iload 4)),
  (36, ab_nx 37 (ab_sld xs n)),
  (37, ab_nx 39 (ab_lit (.int 63))),
  (39, ab_nx 40 (ab_bin (fun x y => x &&& y))),
  (40, ab_tab 0 [220, 293, 318, 331, 344, 393, 430, 498, 535, 560, 609, 658, 707, 732, 757, 770, 795, 820, 833, 858, 883, 920, 981, 1018, 1043, 1056, 1069, 1118, 1131, 1168, 1181, 1194, 1219, 1256, 1305, 1330, 1355, 1368, 1393, 1418, 1443] 1468),
  (220, ab_nx 221 (ab_aload 1)),
  (221, ab_nx 222 (ab_aload 0)),
  (222, ab_nx 224 (ab_iload 4)),
  (224, ab_nx 225 (ab_lit (.int 1))),
  (225, ab_nx 226 (ab_bin (fun x y => x + y))),
  (226, ab_nx 227 (ab_sld xs n)),
  (227, ab_nx 228 (ab_aload 0)),
  (228, ab_nx 230 (ab_iload 4)),
  (230, ab_nx 231 (ab_lit (.int 2))),
  (231, ab_nx 232 (ab_bin (fun x y => x + y))),
  (232, ab_nx 233 (ab_sld xs n)),
  (233, ab_nx 234 (ab_aload 0)),
  (234, ab_nx 236 (ab_iload 4)),
  (236, ab_nx 237 (ab_lit (.int 3))),
  (237, ab_nx 238 (ab_bin (fun x y => x + y))),
  (238, ab_nx 239 (ab_sld xs n)),
  (239, ab_nx 240 (ab_aload 0)),
  (240, ab_nx 242 (ab_iload 4)),
  (242, ab_nx 243 (ab_lit (.int 4))),
  (243, ab_nx 244 (ab_bin (fun x y => x + y))),
  (244, ab_nx 245 (ab_sld xs n)),
  (245, ab_nx 246 (ab_aload 0)),
  (246, ab_nx 248 (ab_iload 4)),
  (248, ab_nx 249 (ab_lit (.int 5))),
  (249, ab_nx 250 (ab_bin (fun x y => x + y))),
  (250, ab_nx 251 (ab_sld xs n)),
  (251, ab_nx 254 (ab_callV 6 10 f_X10_feed 0 0 600002 7302231)),
  (254, ab_nx 255 (ab_aload 2)),
  (255, ab_nx 256 (ab_aload 0)),
  (256, ab_nx 258 (ab_iload 4)),
  (258, ab_nx 259 (ab_lit (.int 1))),
  (259, ab_nx 260 (ab_bin (fun x y => x + y))),
  (260, ab_nx 261 (ab_sld xs n)),
  (261, ab_nx 262 (ab_aload 0)),
  (262, ab_nx 264 (ab_iload 4)),
  (264, ab_nx 265 (ab_lit (.int 2))),
  (265, ab_nx 266 (ab_bin (fun x y => x + y))),
  (266, ab_nx 267 (ab_sld xs n)),
  (267, ab_nx 268 (ab_aload 0)),
  (268, ab_nx 270 (ab_iload 4)),
  (270, ab_nx 271 (ab_lit (.int 3))),
  (271, ab_nx 272 (ab_bin (fun x y => x + y))),
  (272, ab_nx 273 (ab_sld xs n)),
  (273, ab_nx 274 (ab_aload 0)),
  (274, ab_nx 276 (ab_iload 4)),
  (276, ab_nx 277 (ab_lit (.int 4))),
  (277, ab_nx 278 (ab_bin (fun x y => x + y))),
  (278, ab_nx 279 (ab_sld xs n)),
  (279, ab_nx 280 (ab_aload 0)),
  (280, ab_nx 282 (ab_iload 4)),
  (282, ab_nx 283 (ab_lit (.int 5))),
  (283, ab_nx 284 (ab_bin (fun x y => x + y))),
  (284, ab_nx 285 (ab_sld xs n)),
  (285, ab_nx 288 (ab_callV 6 11 f_X11_feed 0 0 600002 7302231)),
  (288, ab_icmp 291 1468 (fun x y => decide (x = y))),
  (291, ab_nx 292 (ab_lit (.int 0))),
  (292, ab_lret),
  (293, ab_nx 294 (ab_aload 1)),
  (294, ab_nx 295 (ab_aload 0)),
  (295, ab_nx 297 (ab_iload 4)),
  (297, ab_nx 298 (ab_lit (.int 1))),
  (298, ab_nx 299 (ab_bin (fun x y => x + y))),
  (299, ab_nx 300 (ab_sld xs n)),
  (300, ab_nx 303 (ab_callV 2 10 f_X10_end 0 0 600002 7302231)),
  (303, ab_nx 304 (ab_aload 2))]
set_option maxRecDepth 100000 in
set_option maxHeartbeats 4000000 in
theorem law_0 {p : Program} {l : Launch} {e : Env} {s : State} {m : MethodId} {below : List Frame} {meth : Method} {c : Code} {cd : Cond} {b : ab_B} {D : va_G} {cA : Nat → ClassId} {o : ab_O} {xs : Nat → Int32} {n bb : Nat} {nm : String} (C : ab_cx p l e room_1 s m #[Value.ref bb] below meth c D ab_cl cA (ab_E0 b) (⟨RL, nm, "([I)Z"⟩ : MethodName) cL_law 7 ret (cd :: ab_G) room_1) (hX : va_X bb n xs s s.heap) (hb0 : b.2 0 = bb) (hb1 : b.1 = s.heap.size ∧ bb < s.heap.size) {f_X10_init : List Value → ab_H → Option ab_O} (h_X10_init : ab_M l b D ab_cl cA (ab_E0 b) yX10_init (Cond.code yX10_init cX10_init 1 none :: ab_G) ({ frames := 3, cells := 68, slots := 4837, locals := 300 } : Room) f_X10_init) (i_X10_init : ∀ v hp o2, f_X10_init [v] hp = some o2 → ∃ a, v = .ref a) {f_X11_init : List Value → ab_H → Option ab_O} (h_X11_init : ab_M l b D ab_cl cA (ab_E0 b) yX11_init (Cond.code yX11_init cX11_init 1 none :: ab_G) ({ frames := 2, cells := 17, slots := 3972, locals := 200 } : Room) f_X11_init) (i_X11_init : ∀ v hp o2, f_X11_init [v] hp = some o2 → ∃ a, v = .ref a) {f_X10_feed : List Value → ab_H → Option ab_O} (h_X10_feed : ab_M l b D ab_cl cA (ab_E0 b) yX10_feed (Cond.code yX10_feed cX10_feed 6 (some .int) :: ab_G) ({ frames := 2, cells := 0, slots := 0, locals := 200 } : Room) f_X10_feed) {f_X11_feed : List Value → ab_H → Option ab_O} (h_X11_feed : ab_M l b D ab_cl cA (ab_E0 b) yX11_feed (Cond.code yX11_feed cX11_feed 6 (some .int) :: ab_G) ({ frames := 2, cells := 0, slots := 0, locals := 200 } : Room) f_X11_feed) {f_X10_end : List Value → ab_H → Option ab_O} (h_X10_end : ab_M l b D ab_cl cA (ab_E0 b) yX10_end (Cond.code yX10_end cX10_end 2 (some .boolean) :: ab_G) ({ frames := 1, cells := 0, slots := 0, locals := 100 } : Room) f_X10_end) : ∀ q ∈ L_law_0 xs n f_X10_init f_X11_init f_X10_feed f_X11_feed f_X10_end, ab_ok p l e room_1 s m #[Value.ref bb] below meth c (lw_Z below #[Value.ref bb] s) b D ab_cl cA 7 o (fun i => i) q.1 q.2 := by
  unfold L_law_0
  refine List.forall_mem_cons.mpr ⟨ok_new C (wi_X10) tyX10 tyX10_ok rfl kw_24 kw_25 kw_1 (df_X10 _) (show decode cL_law 0 = .ok (.new 8, 3) by decide +kernel) rfl, ?_⟩
  refine List.forall_mem_cons.mpr ⟨ok_dup C (show decode cL_law 3 = .ok (.dup, 1) by decide +kernel) rfl, ?_⟩
  refine List.forall_mem_cons.mpr ⟨ok_callI C h_X10_init ⟨rfl, rfl⟩ i_X10_init kw_28 kw_26 kw_27 kw_1 rfl ds_X10_init ⟨by decide, by decide⟩ (show decode cL_law 4 = .ok (.invokespecial 15, 3) by decide +kernel) rfl, ?_⟩
  refine List.forall_mem_cons.mpr ⟨ok_astore_n C (show decode cL_law 7 = .ok (.astore_n 1, 1) by decide +kernel) rfl (by decide) rfl, ?_⟩
  refine List.forall_mem_cons.mpr ⟨ok_new C (wi_X11) tyX11 tyX11_ok rfl kw_1154 kw_1148 kw_11 (df_X11 _) (show decode cL_law 8 = .ok (.new 16, 3) by decide +kernel) rfl, ?_⟩
  refine List.forall_mem_cons.mpr ⟨ok_dup C (show decode cL_law 11 = .ok (.dup, 1) by decide +kernel) rfl, ?_⟩
  refine List.forall_mem_cons.mpr ⟨ok_callI C h_X11_init ⟨rfl, rfl⟩ i_X11_init kw_1157 kw_1155 kw_1156 kw_11 rfl ds_X11_init ⟨by decide, by decide⟩ (show decode cL_law 12 = .ok (.invokespecial 18, 3) by decide +kernel) rfl, ?_⟩
  refine List.forall_mem_cons.mpr ⟨ok_astore_n C (show decode cL_law 15 = .ok (.astore_n 2, 1) by decide +kernel) rfl (by decide) rfl, ?_⟩
  refine List.forall_mem_cons.mpr ⟨ok_iconst C (show decode cL_law 16 = .ok (.iconst 1, 1) by decide +kernel) (by decide) rfl, ?_⟩
  refine List.forall_mem_cons.mpr ⟨ok_newa_long C kw_98 (show decode cL_law 17 = .ok (.newarray .long, 2) by decide +kernel) rfl, ?_⟩
  refine List.forall_mem_cons.mpr ⟨ok_astore_n C (show decode cL_law 19 = .ok (.astore_n 3, 1) by decide +kernel) rfl (by decide) rfl, ?_⟩
  refine List.forall_mem_cons.mpr ⟨ok_iconst C (show decode cL_law 20 = .ok (.iconst 0, 1) by decide +kernel) (by decide) rfl, ?_⟩
  refine List.forall_mem_cons.mpr ⟨ok_istore C (show decode cL_law 21 = .ok (.istore 4, 2) by decide +kernel) (by decide) rfl, ?_⟩
  refine List.forall_mem_cons.mpr ⟨ok_iload C (show decode cL_law 23 = .ok (.iload 4, 2) by decide +kernel) rfl, ?_⟩
  refine List.forall_mem_cons.mpr ⟨ok_aload_n C (show decode cL_law 25 = .ok (.aload_n 0, 1) by decide +kernel) rfl rfl, ?_⟩
  refine List.forall_mem_cons.mpr ⟨ok_slen C hX hb0 hb1 (show decode cL_law 26 = .ok (.arraylength, 1) by decide +kernel) rfl, ?_⟩
  refine List.forall_mem_cons.mpr ⟨ok_bipush C (show decode cL_law 27 = .ok (.bipush 6, 2) by decide +kernel) (by decide) rfl, ?_⟩
  refine List.forall_mem_cons.mpr ⟨ok_isub C (show decode cL_law 29 = .ok (.isub, 1) by decide +kernel) rfl, ?_⟩
  refine List.forall_mem_cons.mpr ⟨ok_icmpgt C (show decode cL_law 30 = .ok (.if_icmp .gt 1444, 3) by decide +kernel) (tg := 1474) (by decide) rfl rfl, ?_⟩
  refine List.forall_mem_cons.mpr ⟨ok_aload_n C (show decode cL_law 33 = .ok (.aload_n 0, 1) by decide +kernel) rfl rfl, ?_⟩
  refine List.forall_mem_cons.mpr ⟨ok_iload C (show decode cL_law 34 = .ok (.iload 4, 2) by decide +kernel) rfl, ?_⟩
  refine List.forall_mem_cons.mpr ⟨ok_sld C hX hb0 hb1 (show decode cL_law 36 = .ok (.iaload, 1) by decide +kernel) rfl, ?_⟩
  refine List.forall_mem_cons.mpr ⟨ok_bipush C (show decode cL_law 37 = .ok (.bipush 63, 2) by decide +kernel) (by decide) rfl, ?_⟩
  refine List.forall_mem_cons.mpr ⟨ok_iand C (show decode cL_law 39 = .ok (.iand, 1) by decide +kernel) rfl, ?_⟩
  refine List.forall_mem_cons.mpr ⟨ok_tab C (show decode cL_law 40 = .ok (.tableswitch 1428 0 40 #[180, 253, 278, 291, 304, 353, 390, 458, 495, 520, 569, 618, 667, 692, 717, 730, 755, 780, 793, 818, 843, 880, 941, 978, 1003, 1016, 1029, 1078, 1091, 1128, 1141, 1154, 1179, 1216, 1265, 1290, 1315, 1328, 1353, 1378, 1403], 180) by decide +kernel) (by decide) (by decide) (by decide), ?_⟩
  refine List.forall_mem_cons.mpr ⟨ok_aload_n C (show decode cL_law 220 = .ok (.aload_n 1, 1) by decide +kernel) rfl rfl, ?_⟩
  refine List.forall_mem_cons.mpr ⟨ok_aload_n C (show decode cL_law 221 = .ok (.aload_n 0, 1) by decide +kernel) rfl rfl, ?_⟩
  refine List.forall_mem_cons.mpr ⟨ok_iload C (show decode cL_law 222 = .ok (.iload 4, 2) by decide +kernel) rfl, ?_⟩
  refine List.forall_mem_cons.mpr ⟨ok_iconst C (show decode cL_law 224 = .ok (.iconst 1, 1) by decide +kernel) (by decide) rfl, ?_⟩
  refine List.forall_mem_cons.mpr ⟨ok_iadd C (show decode cL_law 225 = .ok (.iadd, 1) by decide +kernel) rfl, ?_⟩
  refine List.forall_mem_cons.mpr ⟨ok_sld C hX hb0 hb1 (show decode cL_law 226 = .ok (.iaload, 1) by decide +kernel) rfl, ?_⟩
  refine List.forall_mem_cons.mpr ⟨ok_aload_n C (show decode cL_law 227 = .ok (.aload_n 0, 1) by decide +kernel) rfl rfl, ?_⟩
  refine List.forall_mem_cons.mpr ⟨ok_iload C (show decode cL_law 228 = .ok (.iload 4, 2) by decide +kernel) rfl, ?_⟩
  refine List.forall_mem_cons.mpr ⟨ok_iconst C (show decode cL_law 230 = .ok (.iconst 2, 1) by decide +kernel) (by decide) rfl, ?_⟩
  refine List.forall_mem_cons.mpr ⟨ok_iadd C (show decode cL_law 231 = .ok (.iadd, 1) by decide +kernel) rfl, ?_⟩
  refine List.forall_mem_cons.mpr ⟨ok_sld C hX hb0 hb1 (show decode cL_law 232 = .ok (.iaload, 1) by decide +kernel) rfl, ?_⟩
  refine List.forall_mem_cons.mpr ⟨ok_aload_n C (show decode cL_law 233 = .ok (.aload_n 0, 1) by decide +kernel) rfl rfl, ?_⟩
  refine List.forall_mem_cons.mpr ⟨ok_iload C (show decode cL_law 234 = .ok (.iload 4, 2) by decide +kernel) rfl, ?_⟩
  refine List.forall_mem_cons.mpr ⟨ok_iconst C (show decode cL_law 236 = .ok (.iconst 3, 1) by decide +kernel) (by decide) rfl, ?_⟩
  refine List.forall_mem_cons.mpr ⟨ok_iadd C (show decode cL_law 237 = .ok (.iadd, 1) by decide +kernel) rfl, ?_⟩
  refine List.forall_mem_cons.mpr ⟨ok_sld C hX hb0 hb1 (show decode cL_law 238 = .ok (.iaload, 1) by decide +kernel) rfl, ?_⟩
  refine List.forall_mem_cons.mpr ⟨ok_aload_n C (show decode cL_law 239 = .ok (.aload_n 0, 1) by decide +kernel) rfl rfl, ?_⟩
  refine List.forall_mem_cons.mpr ⟨ok_iload C (show decode cL_law 240 = .ok (.iload 4, 2) by decide +kernel) rfl, ?_⟩
  refine List.forall_mem_cons.mpr ⟨ok_iconst C (show decode cL_law 242 = .ok (.iconst 4, 1) by decide +kernel) (by decide) rfl, ?_⟩
  refine List.forall_mem_cons.mpr ⟨ok_iadd C (show decode cL_law 243 = .ok (.iadd, 1) by decide +kernel) rfl, ?_⟩
  refine List.forall_mem_cons.mpr ⟨ok_sld C hX hb0 hb1 (show decode cL_law 244 = .ok (.iaload, 1) by decide +kernel) rfl, ?_⟩
  refine List.forall_mem_cons.mpr ⟨ok_aload_n C (show decode cL_law 245 = .ok (.aload_n 0, 1) by decide +kernel) rfl rfl, ?_⟩
  refine List.forall_mem_cons.mpr ⟨ok_iload C (show decode cL_law 246 = .ok (.iload 4, 2) by decide +kernel) rfl, ?_⟩
  refine List.forall_mem_cons.mpr ⟨ok_iconst C (show decode cL_law 248 = .ok (.iconst 5, 1) by decide +kernel) (by decide) rfl, ?_⟩
  refine List.forall_mem_cons.mpr ⟨ok_iadd C (show decode cL_law 249 = .ok (.iadd, 1) by decide +kernel) rfl, ?_⟩
  refine List.forall_mem_cons.mpr ⟨ok_sld C hX hb0 hb1 (show decode cL_law 250 = .ok (.iaload, 1) by decide +kernel) rfl, ?_⟩
  refine List.forall_mem_cons.mpr ⟨ok_callV C h_X10_feed ⟨rfl, rfl⟩ rfl kw_376 kw_373 kw_374 kw_375 kw_1 rfl ds_X10_feed ⟨by decide, by decide⟩ (show decode cL_law 251 = .ok (.invokevirtual 19, 3) by decide +kernel) rfl, ?_⟩
  refine List.forall_mem_cons.mpr ⟨ok_aload_n C (show decode cL_law 254 = .ok (.aload_n 2, 1) by decide +kernel) rfl rfl, ?_⟩
  refine List.forall_mem_cons.mpr ⟨ok_aload_n C (show decode cL_law 255 = .ok (.aload_n 0, 1) by decide +kernel) rfl rfl, ?_⟩
  refine List.forall_mem_cons.mpr ⟨ok_iload C (show decode cL_law 256 = .ok (.iload 4, 2) by decide +kernel) rfl, ?_⟩
  refine List.forall_mem_cons.mpr ⟨ok_iconst C (show decode cL_law 258 = .ok (.iconst 1, 1) by decide +kernel) (by decide) rfl, ?_⟩
  refine List.forall_mem_cons.mpr ⟨ok_iadd C (show decode cL_law 259 = .ok (.iadd, 1) by decide +kernel) rfl, ?_⟩
  refine List.forall_mem_cons.mpr ⟨ok_sld C hX hb0 hb1 (show decode cL_law 260 = .ok (.iaload, 1) by decide +kernel) rfl, ?_⟩
  refine List.forall_mem_cons.mpr ⟨ok_aload_n C (show decode cL_law 261 = .ok (.aload_n 0, 1) by decide +kernel) rfl rfl, ?_⟩
  refine List.forall_mem_cons.mpr ⟨ok_iload C (show decode cL_law 262 = .ok (.iload 4, 2) by decide +kernel) rfl, ?_⟩
  refine List.forall_mem_cons.mpr ⟨ok_iconst C (show decode cL_law 264 = .ok (.iconst 2, 1) by decide +kernel) (by decide) rfl, ?_⟩
  refine List.forall_mem_cons.mpr ⟨ok_iadd C (show decode cL_law 265 = .ok (.iadd, 1) by decide +kernel) rfl, ?_⟩
  refine List.forall_mem_cons.mpr ⟨ok_sld C hX hb0 hb1 (show decode cL_law 266 = .ok (.iaload, 1) by decide +kernel) rfl, ?_⟩
  refine List.forall_mem_cons.mpr ⟨ok_aload_n C (show decode cL_law 267 = .ok (.aload_n 0, 1) by decide +kernel) rfl rfl, ?_⟩
  refine List.forall_mem_cons.mpr ⟨ok_iload C (show decode cL_law 268 = .ok (.iload 4, 2) by decide +kernel) rfl, ?_⟩
  refine List.forall_mem_cons.mpr ⟨ok_iconst C (show decode cL_law 270 = .ok (.iconst 3, 1) by decide +kernel) (by decide) rfl, ?_⟩
  refine List.forall_mem_cons.mpr ⟨ok_iadd C (show decode cL_law 271 = .ok (.iadd, 1) by decide +kernel) rfl, ?_⟩
  refine List.forall_mem_cons.mpr ⟨ok_sld C hX hb0 hb1 (show decode cL_law 272 = .ok (.iaload, 1) by decide +kernel) rfl, ?_⟩
  refine List.forall_mem_cons.mpr ⟨ok_aload_n C (show decode cL_law 273 = .ok (.aload_n 0, 1) by decide +kernel) rfl rfl, ?_⟩
  refine List.forall_mem_cons.mpr ⟨ok_iload C (show decode cL_law 274 = .ok (.iload 4, 2) by decide +kernel) rfl, ?_⟩
  refine List.forall_mem_cons.mpr ⟨ok_iconst C (show decode cL_law 276 = .ok (.iconst 4, 1) by decide +kernel) (by decide) rfl, ?_⟩
  refine List.forall_mem_cons.mpr ⟨ok_iadd C (show decode cL_law 277 = .ok (.iadd, 1) by decide +kernel) rfl, ?_⟩
  refine List.forall_mem_cons.mpr ⟨ok_sld C hX hb0 hb1 (show decode cL_law 278 = .ok (.iaload, 1) by decide +kernel) rfl, ?_⟩
  refine List.forall_mem_cons.mpr ⟨ok_aload_n C (show decode cL_law 279 = .ok (.aload_n 0, 1) by decide +kernel) rfl rfl, ?_⟩
  refine List.forall_mem_cons.mpr ⟨ok_iload C (show decode cL_law 280 = .ok (.iload 4, 2) by decide +kernel) rfl, ?_⟩
  refine List.forall_mem_cons.mpr ⟨ok_iconst C (show decode cL_law 282 = .ok (.iconst 5, 1) by decide +kernel) (by decide) rfl, ?_⟩
  refine List.forall_mem_cons.mpr ⟨ok_iadd C (show decode cL_law 283 = .ok (.iadd, 1) by decide +kernel) rfl, ?_⟩
  refine List.forall_mem_cons.mpr ⟨ok_sld C hX hb0 hb1 (show decode cL_law 284 = .ok (.iaload, 1) by decide +kernel) rfl, ?_⟩
  refine List.forall_mem_cons.mpr ⟨ok_callV C h_X11_feed ⟨rfl, rfl⟩ rfl kw_1144 kw_1141 kw_1142 kw_1143 kw_11 rfl ds_X11_feed ⟨by decide, by decide⟩ (show decode cL_law 285 = .ok (.invokevirtual 23, 3) by decide +kernel) rfl, ?_⟩
  refine List.forall_mem_cons.mpr ⟨ok_icmpeq C (show decode cL_law 288 = .ok (.if_icmp .eq 1180, 3) by decide +kernel) (tg := 1468) (by decide) rfl rfl, ?_⟩
  refine List.forall_mem_cons.mpr ⟨ok_iconst C (show decode cL_law 291 = .ok (.iconst 0, 1) by decide +kernel) (by decide) rfl, ?_⟩
  refine List.forall_mem_cons.mpr ⟨ok_lret C hb1 (show decode cL_law 292 = .ok (.ireturn, 1) by decide +kernel), ?_⟩
  refine List.forall_mem_cons.mpr ⟨ok_aload_n C (show decode cL_law 293 = .ok (.aload_n 1, 1) by decide +kernel) rfl rfl, ?_⟩
  refine List.forall_mem_cons.mpr ⟨ok_aload_n C (show decode cL_law 294 = .ok (.aload_n 0, 1) by decide +kernel) rfl rfl, ?_⟩
  refine List.forall_mem_cons.mpr ⟨ok_iload C (show decode cL_law 295 = .ok (.iload 4, 2) by decide +kernel) rfl, ?_⟩
  refine List.forall_mem_cons.mpr ⟨ok_iconst C (show decode cL_law 297 = .ok (.iconst 1, 1) by decide +kernel) (by decide) rfl, ?_⟩
  refine List.forall_mem_cons.mpr ⟨ok_iadd C (show decode cL_law 298 = .ok (.iadd, 1) by decide +kernel) rfl, ?_⟩
  refine List.forall_mem_cons.mpr ⟨ok_sld C hX hb0 hb1 (show decode cL_law 299 = .ok (.iaload, 1) by decide +kernel) rfl, ?_⟩
  refine List.forall_mem_cons.mpr ⟨ok_callV C h_X10_end ⟨rfl, rfl⟩ rfl kw_384 kw_381 kw_382 kw_383 kw_1 rfl ds_X10_end ⟨by decide, by decide⟩ (show decode cL_law 300 = .ok (.invokevirtual 24, 3) by decide +kernel) rfl, ?_⟩
  refine List.forall_mem_cons.mpr ⟨ok_aload_n C (show decode cL_law 303 = .ok (.aload_n 2, 1) by decide +kernel) rfl rfl, ?_⟩
  exact fun _ h => absurd h List.not_mem_nil
def L_law_1 (xs : Nat → Int32) (n : Nat) (f_X11_end : List Value → ab_H → Option ab_O) (f_X10_strait : List Value → ab_H → Option ab_O) (f_X11_strait : List Value → ab_H → Option ab_O) (f_X10_fault : List Value → ab_H → Option ab_O) (f_X11_fault : List Value → ab_H → Option ab_O) (f_X10_good : List Value → ab_H → Option ab_O) (f_X11_good : List Value → ab_H → Option ab_O) (f_X10_crossed : List Value → ab_H → Option ab_O) (f_X11_crossed : List Value → ab_H → Option ab_O) : List (Nat × ab_A) := [
  (304, ab_nx 305 (ab_aload 0)),
  (305, ab_nx 307 (ab_iload 4)),
  (307, ab_nx 308 (ab_lit (.int 1))),
  (308, ab_nx 309 (ab_bin (fun x y => x + y))),
  (309, ab_nx 310 (ab_sld xs n)),
  (310, ab_nx 313 (ab_callV 2 11 f_X11_end 0 0 600002 7302231)),
  (313, ab_icmp 316 1468 (fun x y => decide (x = y))),
  (316, ab_nx 317 (ab_lit (.int 0))),
  (317, ab_lret),
  (318, ab_nx 319 (ab_aload 1)),
  (319, ab_nx 322 (ab_callV 1 10 f_X10_strait 0 0 600002 7302231)),
  (322, ab_nx 323 (ab_aload 2)),
  (323, ab_nx 326 (ab_callV 1 11 f_X11_strait 0 0 600002 7302231)),
  (326, ab_icmp 329 1468 (fun x y => decide (x = y))),
  (329, ab_nx 330 (ab_lit (.int 0))),
  (330, ab_lret),
  (331, ab_nx 332 (ab_aload 1)),
  (332, ab_nx 335 (ab_callV 1 10 f_X10_fault 0 0 600002 7302231)),
  (335, ab_nx 336 (ab_aload 2)),
  (336, ab_nx 339 (ab_callV 1 11 f_X11_fault 0 0 600002 7302231)),
  (339, ab_icmp 342 1468 (fun x y => decide (x = y))),
  (342, ab_nx 343 (ab_lit (.int 0))),
  (343, ab_lret),
  (344, ab_nx 345 (ab_aload 1)),
  (345, ab_nx 346 (ab_aload 0)),
  (346, ab_nx 348 (ab_iload 4)),
  (348, ab_nx 349 (ab_lit (.int 1))),
  (349, ab_nx 350 (ab_bin (fun x y => x + y))),
  (350, ab_nx 351 (ab_sld xs n)),
  (351, ab_nx 352 (ab_aload 0)),
  (352, ab_nx 354 (ab_iload 4)),
  (354, ab_nx 355 (ab_lit (.int 2))),
  (355, ab_nx 356 (ab_bin (fun x y => x + y))),
  (356, ab_nx 357 (ab_sld xs n)),
  (357, ab_nx 358 (ab_aload 0)),
  (358, ab_nx 360 (ab_iload 4)),
  (360, ab_nx 361 (ab_lit (.int 3))),
  (361, ab_nx 362 (ab_bin (fun x y => x + y))),
  (362, ab_nx 363 (ab_sld xs n)),
  (363, ab_nx 366 (ab_callV 4 10 f_X10_good 0 0 600002 7302231)),
  (366, ab_nx 367 (ab_aload 2)),
  (367, ab_nx 368 (ab_aload 0)),
  (368, ab_nx 370 (ab_iload 4)),
  (370, ab_nx 371 (ab_lit (.int 1))),
  (371, ab_nx 372 (ab_bin (fun x y => x + y))),
  (372, ab_nx 373 (ab_sld xs n)),
  (373, ab_nx 374 (ab_aload 0)),
  (374, ab_nx 376 (ab_iload 4)),
  (376, ab_nx 377 (ab_lit (.int 2))),
  (377, ab_nx 378 (ab_bin (fun x y => x + y))),
  (378, ab_nx 379 (ab_sld xs n)),
  (379, ab_nx 380 (ab_aload 0)),
  (380, ab_nx 382 (ab_iload 4)),
  (382, ab_nx 383 (ab_lit (.int 3))),
  (383, ab_nx 384 (ab_bin (fun x y => x + y))),
  (384, ab_nx 385 (ab_sld xs n)),
  (385, ab_nx 388 (ab_callV 4 11 f_X11_good 0 0 600002 7302231)),
  (388, ab_icmp 391 1468 (fun x y => decide (x = y))),
  (391, ab_nx 392 (ab_lit (.int 0))),
  (392, ab_lret),
  (393, ab_nx 394 (ab_aload 1)),
  (394, ab_nx 395 (ab_aload 0)),
  (395, ab_nx 397 (ab_iload 4)),
  (397, ab_nx 398 (ab_lit (.int 1))),
  (398, ab_nx 399 (ab_bin (fun x y => x + y))),
  (399, ab_nx 400 (ab_sld xs n)),
  (400, ab_nx 401 (ab_aload 0)),
  (401, ab_nx 403 (ab_iload 4)),
  (403, ab_nx 404 (ab_lit (.int 2))),
  (404, ab_nx 405 (ab_bin (fun x y => x + y))),
  (405, ab_nx 406 (ab_sld xs n)),
  (406, ab_nx 409 (ab_callV 3 10 f_X10_crossed 0 0 600002 7302231)),
  (409, ab_nx 410 (ab_aload 2)),
  (410, ab_nx 411 (ab_aload 0)),
  (411, ab_nx 413 (ab_iload 4)),
  (413, ab_nx 414 (ab_lit (.int 1))),
  (414, ab_nx 415 (ab_bin (fun x y => x + y))),
  (415, ab_nx 416 (ab_sld xs n)),
  (416, ab_nx 417 (ab_aload 0)),
  (417, ab_nx 419 (ab_iload 4)),
  (419, ab_nx 420 (ab_lit (.int 2))),
  (420, ab_nx 421 (ab_bin (fun x y => x + y))),
  (421, ab_nx 422 (ab_sld xs n)),
  (422, ab_nx 425 (ab_callV 3 11 f_X11_crossed 0 0 600002 7302231)),
  (425, ab_icmp 428 1468 (fun x y => decide (x = y))),
  (428, ab_nx 429 (ab_lit (.int 0))),
  (429, ab_lret),
  (430, ab_nx 431 (ab_aload 1)),
  (431, ab_nx 432 (ab_aload 0)),
  (432, ab_nx 434 (ab_iload 4))]
set_option maxRecDepth 100000 in
set_option maxHeartbeats 4000000 in
theorem law_1 {p : Program} {l : Launch} {e : Env} {s : State} {m : MethodId} {below : List Frame} {meth : Method} {c : Code} {cd : Cond} {b : ab_B} {D : va_G} {cA : Nat → ClassId} {o : ab_O} {xs : Nat → Int32} {n bb : Nat} {nm : String} (C : ab_cx p l e room_1 s m #[Value.ref bb] below meth c D ab_cl cA (ab_E0 b) (⟨RL, nm, "([I)Z"⟩ : MethodName) cL_law 7 ret (cd :: ab_G) room_1) (hX : va_X bb n xs s s.heap) (hb0 : b.2 0 = bb) (hb1 : b.1 = s.heap.size ∧ bb < s.heap.size) {f_X11_end : List Value → ab_H → Option ab_O} (h_X11_end : ab_M l b D ab_cl cA (ab_E0 b) yX11_end (Cond.code yX11_end cX11_end 2 (some .boolean) :: ab_G) ({ frames := 1, cells := 0, slots := 0, locals := 100 } : Room) f_X11_end) {f_X10_strait : List Value → ab_H → Option ab_O} (h_X10_strait : ab_M l b D ab_cl cA (ab_E0 b) yX10_strait (Cond.code yX10_strait cX10_strait 3 (some .int) :: ab_G) ({ frames := 7, cells := 0, slots := 0, locals := 700 } : Room) f_X10_strait) {f_X11_strait : List Value → ab_H → Option ab_O} (h_X11_strait : ab_M l b D ab_cl cA (ab_E0 b) yX11_strait (Cond.code yX11_strait cX11_strait 2 (some .int) :: ab_G) ({ frames := 7, cells := 0, slots := 0, locals := 700 } : Room) f_X11_strait) {f_X10_fault : List Value → ab_H → Option ab_O} (h_X10_fault : ab_M l b D ab_cl cA (ab_E0 b) yX10_fault (Cond.code yX10_fault cX10_fault 1 (some .int) :: ab_G) ({ frames := 1, cells := 0, slots := 0, locals := 100 } : Room) f_X10_fault) {f_X11_fault : List Value → ab_H → Option ab_O} (h_X11_fault : ab_M l b D ab_cl cA (ab_E0 b) yX11_fault (Cond.code yX11_fault cX11_fault 1 (some .int) :: ab_G) ({ frames := 1, cells := 0, slots := 0, locals := 100 } : Room) f_X11_fault) {f_X10_good : List Value → ab_H → Option ab_O} (h_X10_good : ab_M l b D ab_cl cA (ab_E0 b) yX10_good (Cond.code yX10_good cX10_good 5 (some .int) :: ab_G) ({ frames := 3, cells := 0, slots := 0, locals := 300 } : Room) f_X10_good) {f_X11_good : List Value → ab_H → Option ab_O} (h_X11_good : ab_M l b D ab_cl cA (ab_E0 b) yX11_good (Cond.code yX11_good cX11_good 5 (some .int) :: ab_G) ({ frames := 4, cells := 0, slots := 0, locals := 400 } : Room) f_X11_good) {f_X10_crossed : List Value → ab_H → Option ab_O} (h_X10_crossed : ab_M l b D ab_cl cA (ab_E0 b) yX10_crossed (Cond.code yX10_crossed cX10_crossed 3 (some .int) :: ab_G) ({ frames := 3, cells := 0, slots := 0, locals := 300 } : Room) f_X10_crossed) {f_X11_crossed : List Value → ab_H → Option ab_O} (h_X11_crossed : ab_M l b D ab_cl cA (ab_E0 b) yX11_crossed (Cond.code yX11_crossed cX11_crossed 3 (some .int) :: ab_G) ({ frames := 4, cells := 0, slots := 0, locals := 400 } : Room) f_X11_crossed) : ∀ q ∈ L_law_1 xs n f_X11_end f_X10_strait f_X11_strait f_X10_fault f_X11_fault f_X10_good f_X11_good f_X10_crossed f_X11_crossed, ab_ok p l e room_1 s m #[Value.ref bb] below meth c (lw_Z below #[Value.ref bb] s) b D ab_cl cA 7 o (fun i => i) q.1 q.2 := by
  unfold L_law_1
  refine List.forall_mem_cons.mpr ⟨ok_aload_n C (show decode cL_law 304 = .ok (.aload_n 0, 1) by decide +kernel) rfl rfl, ?_⟩
  refine List.forall_mem_cons.mpr ⟨ok_iload C (show decode cL_law 305 = .ok (.iload 4, 2) by decide +kernel) rfl, ?_⟩
  refine List.forall_mem_cons.mpr ⟨ok_iconst C (show decode cL_law 307 = .ok (.iconst 1, 1) by decide +kernel) (by decide) rfl, ?_⟩
  refine List.forall_mem_cons.mpr ⟨ok_iadd C (show decode cL_law 308 = .ok (.iadd, 1) by decide +kernel) rfl, ?_⟩
  refine List.forall_mem_cons.mpr ⟨ok_sld C hX hb0 hb1 (show decode cL_law 309 = .ok (.iaload, 1) by decide +kernel) rfl, ?_⟩
  refine List.forall_mem_cons.mpr ⟨ok_callV C h_X11_end ⟨rfl, rfl⟩ rfl kw_1153 kw_1150 kw_1151 kw_1152 kw_11 rfl ds_X11_end ⟨by decide, by decide⟩ (show decode cL_law 310 = .ok (.invokevirtual 28, 3) by decide +kernel) rfl, ?_⟩
  refine List.forall_mem_cons.mpr ⟨ok_icmpeq C (show decode cL_law 313 = .ok (.if_icmp .eq 1155, 3) by decide +kernel) (tg := 1468) (by decide) rfl rfl, ?_⟩
  refine List.forall_mem_cons.mpr ⟨ok_iconst C (show decode cL_law 316 = .ok (.iconst 0, 1) by decide +kernel) (by decide) rfl, ?_⟩
  refine List.forall_mem_cons.mpr ⟨ok_lret C hb1 (show decode cL_law 317 = .ok (.ireturn, 1) by decide +kernel), ?_⟩
  refine List.forall_mem_cons.mpr ⟨ok_aload_n C (show decode cL_law 318 = .ok (.aload_n 1, 1) by decide +kernel) rfl rfl, ?_⟩
  refine List.forall_mem_cons.mpr ⟨ok_callV C h_X10_strait ⟨rfl, rfl⟩ rfl kw_388 kw_385 kw_386 kw_387 kw_1 rfl ds_X10_strait ⟨by decide, by decide⟩ (show decode cL_law 319 = .ok (.invokevirtual 29, 3) by decide +kernel) rfl, ?_⟩
  refine List.forall_mem_cons.mpr ⟨ok_aload_n C (show decode cL_law 322 = .ok (.aload_n 2, 1) by decide +kernel) rfl rfl, ?_⟩
  refine List.forall_mem_cons.mpr ⟨ok_callV C h_X11_strait ⟨rfl, rfl⟩ rfl kw_1318 kw_1315 kw_1316 kw_1317 kw_11 rfl ds_X11_strait ⟨by decide, by decide⟩ (show decode cL_law 323 = .ok (.invokevirtual 33, 3) by decide +kernel) rfl, ?_⟩
  refine List.forall_mem_cons.mpr ⟨ok_icmpeq C (show decode cL_law 326 = .ok (.if_icmp .eq 1142, 3) by decide +kernel) (tg := 1468) (by decide) rfl rfl, ?_⟩
  refine List.forall_mem_cons.mpr ⟨ok_iconst C (show decode cL_law 329 = .ok (.iconst 0, 1) by decide +kernel) (by decide) rfl, ?_⟩
  refine List.forall_mem_cons.mpr ⟨ok_lret C hb1 (show decode cL_law 330 = .ok (.ireturn, 1) by decide +kernel), ?_⟩
  refine List.forall_mem_cons.mpr ⟨ok_aload_n C (show decode cL_law 331 = .ok (.aload_n 1, 1) by decide +kernel) rfl rfl, ?_⟩
  refine List.forall_mem_cons.mpr ⟨ok_callV C h_X10_fault ⟨rfl, rfl⟩ rfl kw_584 kw_581 kw_582 kw_583 kw_1 rfl ds_X10_fault ⟨by decide, by decide⟩ (show decode cL_law 332 = .ok (.invokevirtual 34, 3) by decide +kernel) rfl, ?_⟩
  refine List.forall_mem_cons.mpr ⟨ok_aload_n C (show decode cL_law 335 = .ok (.aload_n 2, 1) by decide +kernel) rfl rfl, ?_⟩
  refine List.forall_mem_cons.mpr ⟨ok_callV C h_X11_fault ⟨rfl, rfl⟩ rfl kw_1398 kw_1395 kw_1396 kw_1397 kw_11 rfl ds_X11_fault ⟨by decide, by decide⟩ (show decode cL_law 336 = .ok (.invokevirtual 37, 3) by decide +kernel) rfl, ?_⟩
  refine List.forall_mem_cons.mpr ⟨ok_icmpeq C (show decode cL_law 339 = .ok (.if_icmp .eq 1129, 3) by decide +kernel) (tg := 1468) (by decide) rfl rfl, ?_⟩
  refine List.forall_mem_cons.mpr ⟨ok_iconst C (show decode cL_law 342 = .ok (.iconst 0, 1) by decide +kernel) (by decide) rfl, ?_⟩
  refine List.forall_mem_cons.mpr ⟨ok_lret C hb1 (show decode cL_law 343 = .ok (.ireturn, 1) by decide +kernel), ?_⟩
  refine List.forall_mem_cons.mpr ⟨ok_aload_n C (show decode cL_law 344 = .ok (.aload_n 1, 1) by decide +kernel) rfl rfl, ?_⟩
  refine List.forall_mem_cons.mpr ⟨ok_aload_n C (show decode cL_law 345 = .ok (.aload_n 0, 1) by decide +kernel) rfl rfl, ?_⟩
  refine List.forall_mem_cons.mpr ⟨ok_iload C (show decode cL_law 346 = .ok (.iload 4, 2) by decide +kernel) rfl, ?_⟩
  refine List.forall_mem_cons.mpr ⟨ok_iconst C (show decode cL_law 348 = .ok (.iconst 1, 1) by decide +kernel) (by decide) rfl, ?_⟩
  refine List.forall_mem_cons.mpr ⟨ok_iadd C (show decode cL_law 349 = .ok (.iadd, 1) by decide +kernel) rfl, ?_⟩
  refine List.forall_mem_cons.mpr ⟨ok_sld C hX hb0 hb1 (show decode cL_law 350 = .ok (.iaload, 1) by decide +kernel) rfl, ?_⟩
  refine List.forall_mem_cons.mpr ⟨ok_aload_n C (show decode cL_law 351 = .ok (.aload_n 0, 1) by decide +kernel) rfl rfl, ?_⟩
  refine List.forall_mem_cons.mpr ⟨ok_iload C (show decode cL_law 352 = .ok (.iload 4, 2) by decide +kernel) rfl, ?_⟩
  refine List.forall_mem_cons.mpr ⟨ok_iconst C (show decode cL_law 354 = .ok (.iconst 2, 1) by decide +kernel) (by decide) rfl, ?_⟩
  refine List.forall_mem_cons.mpr ⟨ok_iadd C (show decode cL_law 355 = .ok (.iadd, 1) by decide +kernel) rfl, ?_⟩
  refine List.forall_mem_cons.mpr ⟨ok_sld C hX hb0 hb1 (show decode cL_law 356 = .ok (.iaload, 1) by decide +kernel) rfl, ?_⟩
  refine List.forall_mem_cons.mpr ⟨ok_aload_n C (show decode cL_law 357 = .ok (.aload_n 0, 1) by decide +kernel) rfl rfl, ?_⟩
  refine List.forall_mem_cons.mpr ⟨ok_iload C (show decode cL_law 358 = .ok (.iload 4, 2) by decide +kernel) rfl, ?_⟩
  refine List.forall_mem_cons.mpr ⟨ok_iconst C (show decode cL_law 360 = .ok (.iconst 3, 1) by decide +kernel) (by decide) rfl, ?_⟩
  refine List.forall_mem_cons.mpr ⟨ok_iadd C (show decode cL_law 361 = .ok (.iadd, 1) by decide +kernel) rfl, ?_⟩
  refine List.forall_mem_cons.mpr ⟨ok_sld C hX hb0 hb1 (show decode cL_law 362 = .ok (.iaload, 1) by decide +kernel) rfl, ?_⟩
  refine List.forall_mem_cons.mpr ⟨ok_callV C h_X10_good ⟨rfl, rfl⟩ rfl kw_588 kw_585 kw_586 kw_587 kw_1 rfl ds_X10_good ⟨by decide, by decide⟩ (show decode cL_law 363 = .ok (.invokevirtual 38, 3) by decide +kernel) rfl, ?_⟩
  refine List.forall_mem_cons.mpr ⟨ok_aload_n C (show decode cL_law 366 = .ok (.aload_n 2, 1) by decide +kernel) rfl rfl, ?_⟩
  refine List.forall_mem_cons.mpr ⟨ok_aload_n C (show decode cL_law 367 = .ok (.aload_n 0, 1) by decide +kernel) rfl rfl, ?_⟩
  refine List.forall_mem_cons.mpr ⟨ok_iload C (show decode cL_law 368 = .ok (.iload 4, 2) by decide +kernel) rfl, ?_⟩
  refine List.forall_mem_cons.mpr ⟨ok_iconst C (show decode cL_law 370 = .ok (.iconst 1, 1) by decide +kernel) (by decide) rfl, ?_⟩
  refine List.forall_mem_cons.mpr ⟨ok_iadd C (show decode cL_law 371 = .ok (.iadd, 1) by decide +kernel) rfl, ?_⟩
  refine List.forall_mem_cons.mpr ⟨ok_sld C hX hb0 hb1 (show decode cL_law 372 = .ok (.iaload, 1) by decide +kernel) rfl, ?_⟩
  refine List.forall_mem_cons.mpr ⟨ok_aload_n C (show decode cL_law 373 = .ok (.aload_n 0, 1) by decide +kernel) rfl rfl, ?_⟩
  refine List.forall_mem_cons.mpr ⟨ok_iload C (show decode cL_law 374 = .ok (.iload 4, 2) by decide +kernel) rfl, ?_⟩
  refine List.forall_mem_cons.mpr ⟨ok_iconst C (show decode cL_law 376 = .ok (.iconst 2, 1) by decide +kernel) (by decide) rfl, ?_⟩
  refine List.forall_mem_cons.mpr ⟨ok_iadd C (show decode cL_law 377 = .ok (.iadd, 1) by decide +kernel) rfl, ?_⟩
  refine List.forall_mem_cons.mpr ⟨ok_sld C hX hb0 hb1 (show decode cL_law 378 = .ok (.iaload, 1) by decide +kernel) rfl, ?_⟩
  refine List.forall_mem_cons.mpr ⟨ok_aload_n C (show decode cL_law 379 = .ok (.aload_n 0, 1) by decide +kernel) rfl rfl, ?_⟩
  refine List.forall_mem_cons.mpr ⟨ok_iload C (show decode cL_law 380 = .ok (.iload 4, 2) by decide +kernel) rfl, ?_⟩
  refine List.forall_mem_cons.mpr ⟨ok_iconst C (show decode cL_law 382 = .ok (.iconst 3, 1) by decide +kernel) (by decide) rfl, ?_⟩
  refine List.forall_mem_cons.mpr ⟨ok_iadd C (show decode cL_law 383 = .ok (.iadd, 1) by decide +kernel) rfl, ?_⟩
  refine List.forall_mem_cons.mpr ⟨ok_sld C hX hb0 hb1 (show decode cL_law 384 = .ok (.iaload, 1) by decide +kernel) rfl, ?_⟩
  refine List.forall_mem_cons.mpr ⟨ok_callV C h_X11_good ⟨rfl, rfl⟩ rfl kw_1402 kw_1399 kw_1400 kw_1401 kw_11 rfl ds_X11_good ⟨by decide, by decide⟩ (show decode cL_law 385 = .ok (.invokevirtual 42, 3) by decide +kernel) rfl, ?_⟩
  refine List.forall_mem_cons.mpr ⟨ok_icmpeq C (show decode cL_law 388 = .ok (.if_icmp .eq 1080, 3) by decide +kernel) (tg := 1468) (by decide) rfl rfl, ?_⟩
  refine List.forall_mem_cons.mpr ⟨ok_iconst C (show decode cL_law 391 = .ok (.iconst 0, 1) by decide +kernel) (by decide) rfl, ?_⟩
  refine List.forall_mem_cons.mpr ⟨ok_lret C hb1 (show decode cL_law 392 = .ok (.ireturn, 1) by decide +kernel), ?_⟩
  refine List.forall_mem_cons.mpr ⟨ok_aload_n C (show decode cL_law 393 = .ok (.aload_n 1, 1) by decide +kernel) rfl rfl, ?_⟩
  refine List.forall_mem_cons.mpr ⟨ok_aload_n C (show decode cL_law 394 = .ok (.aload_n 0, 1) by decide +kernel) rfl rfl, ?_⟩
  refine List.forall_mem_cons.mpr ⟨ok_iload C (show decode cL_law 395 = .ok (.iload 4, 2) by decide +kernel) rfl, ?_⟩
  refine List.forall_mem_cons.mpr ⟨ok_iconst C (show decode cL_law 397 = .ok (.iconst 1, 1) by decide +kernel) (by decide) rfl, ?_⟩
  refine List.forall_mem_cons.mpr ⟨ok_iadd C (show decode cL_law 398 = .ok (.iadd, 1) by decide +kernel) rfl, ?_⟩
  refine List.forall_mem_cons.mpr ⟨ok_sld C hX hb0 hb1 (show decode cL_law 399 = .ok (.iaload, 1) by decide +kernel) rfl, ?_⟩
  refine List.forall_mem_cons.mpr ⟨ok_aload_n C (show decode cL_law 400 = .ok (.aload_n 0, 1) by decide +kernel) rfl rfl, ?_⟩
  refine List.forall_mem_cons.mpr ⟨ok_iload C (show decode cL_law 401 = .ok (.iload 4, 2) by decide +kernel) rfl, ?_⟩
  refine List.forall_mem_cons.mpr ⟨ok_iconst C (show decode cL_law 403 = .ok (.iconst 2, 1) by decide +kernel) (by decide) rfl, ?_⟩
  refine List.forall_mem_cons.mpr ⟨ok_iadd C (show decode cL_law 404 = .ok (.iadd, 1) by decide +kernel) rfl, ?_⟩
  refine List.forall_mem_cons.mpr ⟨ok_sld C hX hb0 hb1 (show decode cL_law 405 = .ok (.iaload, 1) by decide +kernel) rfl, ?_⟩
  refine List.forall_mem_cons.mpr ⟨ok_callV C h_X10_crossed ⟨rfl, rfl⟩ rfl kw_616 kw_613 kw_614 kw_615 kw_1 rfl ds_X10_crossed ⟨by decide, by decide⟩ (show decode cL_law 406 = .ok (.invokevirtual 43, 3) by decide +kernel) rfl, ?_⟩
  refine List.forall_mem_cons.mpr ⟨ok_aload_n C (show decode cL_law 409 = .ok (.aload_n 2, 1) by decide +kernel) rfl rfl, ?_⟩
  refine List.forall_mem_cons.mpr ⟨ok_aload_n C (show decode cL_law 410 = .ok (.aload_n 0, 1) by decide +kernel) rfl rfl, ?_⟩
  refine List.forall_mem_cons.mpr ⟨ok_iload C (show decode cL_law 411 = .ok (.iload 4, 2) by decide +kernel) rfl, ?_⟩
  refine List.forall_mem_cons.mpr ⟨ok_iconst C (show decode cL_law 413 = .ok (.iconst 1, 1) by decide +kernel) (by decide) rfl, ?_⟩
  refine List.forall_mem_cons.mpr ⟨ok_iadd C (show decode cL_law 414 = .ok (.iadd, 1) by decide +kernel) rfl, ?_⟩
  refine List.forall_mem_cons.mpr ⟨ok_sld C hX hb0 hb1 (show decode cL_law 415 = .ok (.iaload, 1) by decide +kernel) rfl, ?_⟩
  refine List.forall_mem_cons.mpr ⟨ok_aload_n C (show decode cL_law 416 = .ok (.aload_n 0, 1) by decide +kernel) rfl rfl, ?_⟩
  refine List.forall_mem_cons.mpr ⟨ok_iload C (show decode cL_law 417 = .ok (.iload 4, 2) by decide +kernel) rfl, ?_⟩
  refine List.forall_mem_cons.mpr ⟨ok_iconst C (show decode cL_law 419 = .ok (.iconst 2, 1) by decide +kernel) (by decide) rfl, ?_⟩
  refine List.forall_mem_cons.mpr ⟨ok_iadd C (show decode cL_law 420 = .ok (.iadd, 1) by decide +kernel) rfl, ?_⟩
  refine List.forall_mem_cons.mpr ⟨ok_sld C hX hb0 hb1 (show decode cL_law 421 = .ok (.iaload, 1) by decide +kernel) rfl, ?_⟩
  refine List.forall_mem_cons.mpr ⟨ok_callV C h_X11_crossed ⟨rfl, rfl⟩ rfl kw_1429 kw_1426 kw_1427 kw_1428 kw_11 rfl ds_X11_crossed ⟨by decide, by decide⟩ (show decode cL_law 422 = .ok (.invokevirtual 46, 3) by decide +kernel) rfl, ?_⟩
  refine List.forall_mem_cons.mpr ⟨ok_icmpeq C (show decode cL_law 425 = .ok (.if_icmp .eq 1043, 3) by decide +kernel) (tg := 1468) (by decide) rfl rfl, ?_⟩
  refine List.forall_mem_cons.mpr ⟨ok_iconst C (show decode cL_law 428 = .ok (.iconst 0, 1) by decide +kernel) (by decide) rfl, ?_⟩
  refine List.forall_mem_cons.mpr ⟨ok_lret C hb1 (show decode cL_law 429 = .ok (.ireturn, 1) by decide +kernel), ?_⟩
  refine List.forall_mem_cons.mpr ⟨ok_aload_n C (show decode cL_law 430 = .ok (.aload_n 1, 1) by decide +kernel) rfl rfl, ?_⟩
  refine List.forall_mem_cons.mpr ⟨ok_aload_n C (show decode cL_law 431 = .ok (.aload_n 0, 1) by decide +kernel) rfl rfl, ?_⟩
  refine List.forall_mem_cons.mpr ⟨ok_iload C (show decode cL_law 432 = .ok (.iload 4, 2) by decide +kernel) rfl, ?_⟩
  exact fun _ h => absurd h List.not_mem_nil
def L_law_2 (xs : Nat → Int32) (n : Nat) (f_L_man : List Value → ab_H → Option ab_O) (f_X11_man : List Value → ab_H → Option ab_O) (f_X11_thrown : List Value → ab_H → Option ab_O) (f_X10_apart : List Value → ab_H → Option ab_O) (f_X11_apart : List Value → ab_H → Option ab_O) (f_X10_now : List Value → ab_H → Option ab_O) (f_X11_now : List Value → ab_H → Option ab_O) : List (Nat × ab_A) := [
  (434, ab_nx 435 (ab_lit (.int 1))),
  (435, ab_nx 436 (ab_bin (fun x y => x + y))),
  (436, ab_nx 437 (ab_sld xs n)),
  (437, ab_nx 438 (ab_aload 0)),
  (438, ab_nx 440 (ab_iload 4)),
  (440, ab_nx 441 (ab_lit (.int 2))),
  (441, ab_nx 442 (ab_bin (fun x y => x + y))),
  (442, ab_nx 443 (ab_sld xs n)),
  (443, ab_nx 444 (ab_aload 3)),
  (444, ab_nx 447 (ab_call 4 f_L_man 1 6 600002 7302231)),
  (447, ab_nx 449 (ab_istore 5)),
  (449, ab_nx 450 (ab_aload 2)),
  (450, ab_nx 451 (ab_aload 0)),
  (451, ab_nx 453 (ab_iload 4)),
  (453, ab_nx 454 (ab_lit (.int 1))),
  (454, ab_nx 455 (ab_bin (fun x y => x + y))),
  (455, ab_nx 456 (ab_sld xs n)),
  (456, ab_nx 457 (ab_aload 0)),
  (457, ab_nx 459 (ab_iload 4)),
  (459, ab_nx 460 (ab_lit (.int 2))),
  (460, ab_nx 461 (ab_bin (fun x y => x + y))),
  (461, ab_nx 462 (ab_sld xs n)),
  (462, ab_nx 465 (ab_callV 3 11 f_X11_man 0 0 600002 7302231)),
  (465, ab_nx 467 (ab_istore 6)),
  (467, ab_nx 468 (ab_aload 2)),
  (468, ab_nx 471 (ab_callV 1 11 f_X11_thrown 0 0 600002 7302231)),
  (471, ab_nx 473 (ab_iload 5)),
  (473, ab_icmp 476 478 (fun x y => decide (x = y))),
  (476, ab_nx 477 (ab_lit (.int 0))),
  (477, ab_lret),
  (478, ab_nx 480 (ab_iload 5)),
  (480, ab_if 483 495 (fun x => !decide (x = 0))),
  (483, ab_nx 484 (ab_aload 3)),
  (484, ab_nx 485 (ab_lit (.int 0))),
  (485, ab_nx 486 ab_lald),
  (486, ab_nx 488 (ab_iload 6)),
  (488, ab_nx 489 ab_i2l),
  (489, ab_nx 490 ab_lcmp),
  (490, ab_if 493 495 (fun x => decide (x = 0))),
  (493, ab_nx 494 (ab_lit (.int 0))),
  (494, ab_lret),
  (495, ab_goto 1468),
  (498, ab_nx 499 (ab_aload 1)),
  (499, ab_nx 500 (ab_aload 0)),
  (500, ab_nx 502 (ab_iload 4)),
  (502, ab_nx 503 (ab_lit (.int 1))),
  (503, ab_nx 504 (ab_bin (fun x y => x + y))),
  (504, ab_nx 505 (ab_sld xs n)),
  (505, ab_nx 506 (ab_aload 0)),
  (506, ab_nx 508 (ab_iload 4)),
  (508, ab_nx 509 (ab_lit (.int 2))),
  (509, ab_nx 510 (ab_bin (fun x y => x + y))),
  (510, ab_nx 511 (ab_sld xs n)),
  (511, ab_nx 514 (ab_callV 3 10 f_X10_apart 0 0 600002 7302231)),
  (514, ab_nx 515 (ab_aload 2)),
  (515, ab_nx 516 (ab_aload 0)),
  (516, ab_nx 518 (ab_iload 4)),
  (518, ab_nx 519 (ab_lit (.int 1))),
  (519, ab_nx 520 (ab_bin (fun x y => x + y))),
  (520, ab_nx 521 (ab_sld xs n)),
  (521, ab_nx 522 (ab_aload 0)),
  (522, ab_nx 524 (ab_iload 4)),
  (524, ab_nx 525 (ab_lit (.int 2))),
  (525, ab_nx 526 (ab_bin (fun x y => x + y))),
  (526, ab_nx 527 (ab_sld xs n)),
  (527, ab_nx 530 (ab_callV 3 11 f_X11_apart 0 0 600002 7302231)),
  (530, ab_icmp 533 1468 (fun x y => decide (x = y))),
  (533, ab_nx 534 (ab_lit (.int 0))),
  (534, ab_lret),
  (535, ab_nx 536 (ab_aload 1)),
  (536, ab_nx 537 (ab_aload 0)),
  (537, ab_nx 539 (ab_iload 4)),
  (539, ab_nx 540 (ab_lit (.int 1))),
  (540, ab_nx 541 (ab_bin (fun x y => x + y))),
  (541, ab_nx 542 (ab_sld xs n)),
  (542, ab_nx 545 (ab_callV 2 10 f_X10_now 0 0 600002 7302231)),
  (545, ab_nx 546 (ab_aload 2)),
  (546, ab_nx 547 (ab_aload 0)),
  (547, ab_nx 549 (ab_iload 4)),
  (549, ab_nx 550 (ab_lit (.int 1))),
  (550, ab_nx 551 (ab_bin (fun x y => x + y))),
  (551, ab_nx 552 (ab_sld xs n)),
  (552, ab_nx 555 (ab_callV 2 11 f_X11_now 0 0 600002 7302231)),
  (555, ab_icmp 558 1468 (fun x y => decide (x = y))),
  (558, ab_nx 559 (ab_lit (.int 0))),
  (559, ab_lret),
  (560, ab_nx 561 (ab_aload 1)),
  (561, ab_nx 562 (ab_aload 0)),
  (562, ab_nx 564 (ab_iload 4)),
  (564, ab_nx 565 (ab_lit (.int 1)))]
set_option maxRecDepth 100000 in
set_option maxHeartbeats 4000000 in
theorem law_2 {p : Program} {l : Launch} {e : Env} {s : State} {m : MethodId} {below : List Frame} {meth : Method} {c : Code} {cd : Cond} {b : ab_B} {D : va_G} {cA : Nat → ClassId} {o : ab_O} {xs : Nat → Int32} {n bb : Nat} {nm : String} (C : ab_cx p l e room_1 s m #[Value.ref bb] below meth c D ab_cl cA (ab_E0 b) (⟨RL, nm, "([I)Z"⟩ : MethodName) cL_law 7 ret (cd :: ab_G) room_1) (hX : va_X bb n xs s s.heap) (hb0 : b.2 0 = bb) (hb1 : b.1 = s.heap.size ∧ bb < s.heap.size) {f_L_man : List Value → ab_H → Option ab_O} (h_L_man : ab_M l b D ab_cl cA (ab_E0 b) yL_man (Cond.codeWith yL_man cL_man 5 (some .int) [(0, 10, 13, 13)] :: ab_G) ({ frames := 9, cells := 1, slots := 6, locals := 900 } : Room) f_L_man) {f_X11_man : List Value → ab_H → Option ab_O} (h_X11_man : ab_M l b D ab_cl cA (ab_E0 b) yX11_man (Cond.code yX11_man cX11_man 3 (some .int) :: ab_G) ({ frames := 6, cells := 0, slots := 0, locals := 600 } : Room) f_X11_man) {f_X11_thrown : List Value → ab_H → Option ab_O} (h_X11_thrown : ab_M l b D ab_cl cA (ab_E0 b) yX11_thrown (Cond.code yX11_thrown cX11_thrown 1 (some .int) :: ab_G) ({ frames := 1, cells := 0, slots := 0, locals := 100 } : Room) f_X11_thrown) {f_X10_apart : List Value → ab_H → Option ab_O} (h_X10_apart : ab_M l b D ab_cl cA (ab_E0 b) yX10_apart (Cond.code yX10_apart cX10_apart 3 (some .int) :: ab_G) ({ frames := 3, cells := 0, slots := 0, locals := 300 } : Room) f_X10_apart) {f_X11_apart : List Value → ab_H → Option ab_O} (h_X11_apart : ab_M l b D ab_cl cA (ab_E0 b) yX11_apart (Cond.code yX11_apart cX11_apart 3 (some .int) :: ab_G) ({ frames := 3, cells := 0, slots := 0, locals := 300 } : Room) f_X11_apart) {f_X10_now : List Value → ab_H → Option ab_O} (h_X10_now : ab_M l b D ab_cl cA (ab_E0 b) yX10_now (Cond.code yX10_now cX10_now 2 (some .int) :: ab_G) ({ frames := 2, cells := 0, slots := 0, locals := 200 } : Room) f_X10_now) {f_X11_now : List Value → ab_H → Option ab_O} (h_X11_now : ab_M l b D ab_cl cA (ab_E0 b) yX11_now (Cond.code yX11_now cX11_now 2 (some .int) :: ab_G) ({ frames := 4, cells := 0, slots := 0, locals := 400 } : Room) f_X11_now) : ∀ q ∈ L_law_2 xs n f_L_man f_X11_man f_X11_thrown f_X10_apart f_X11_apart f_X10_now f_X11_now, ab_ok p l e room_1 s m #[Value.ref bb] below meth c (lw_Z below #[Value.ref bb] s) b D ab_cl cA 7 o (fun i => i) q.1 q.2 := by
  unfold L_law_2
  refine List.forall_mem_cons.mpr ⟨ok_iconst C (show decode cL_law 434 = .ok (.iconst 1, 1) by decide +kernel) (by decide) rfl, ?_⟩
  refine List.forall_mem_cons.mpr ⟨ok_iadd C (show decode cL_law 435 = .ok (.iadd, 1) by decide +kernel) rfl, ?_⟩
  refine List.forall_mem_cons.mpr ⟨ok_sld C hX hb0 hb1 (show decode cL_law 436 = .ok (.iaload, 1) by decide +kernel) rfl, ?_⟩
  refine List.forall_mem_cons.mpr ⟨ok_aload_n C (show decode cL_law 437 = .ok (.aload_n 0, 1) by decide +kernel) rfl rfl, ?_⟩
  refine List.forall_mem_cons.mpr ⟨ok_iload C (show decode cL_law 438 = .ok (.iload 4, 2) by decide +kernel) rfl, ?_⟩
  refine List.forall_mem_cons.mpr ⟨ok_iconst C (show decode cL_law 440 = .ok (.iconst 2, 1) by decide +kernel) (by decide) rfl, ?_⟩
  refine List.forall_mem_cons.mpr ⟨ok_iadd C (show decode cL_law 441 = .ok (.iadd, 1) by decide +kernel) rfl, ?_⟩
  refine List.forall_mem_cons.mpr ⟨ok_sld C hX hb0 hb1 (show decode cL_law 442 = .ok (.iaload, 1) by decide +kernel) rfl, ?_⟩
  refine List.forall_mem_cons.mpr ⟨ok_aload_n C (show decode cL_law 443 = .ok (.aload_n 3, 1) by decide +kernel) rfl rfl, ?_⟩
  refine List.forall_mem_cons.mpr ⟨ok_callSW C h_L_man ⟨rfl, rfl⟩ kw_1061 kw_1059 kw_1060 kw_0 ds_L_man ⟨by decide, by decide⟩ (show decode cL_law 444 = .ok (.invokestatic 47, 3) by decide +kernel) rfl, ?_⟩
  refine List.forall_mem_cons.mpr ⟨ok_istore C (show decode cL_law 447 = .ok (.istore 5, 2) by decide +kernel) (by decide) rfl, ?_⟩
  refine List.forall_mem_cons.mpr ⟨ok_aload_n C (show decode cL_law 449 = .ok (.aload_n 2, 1) by decide +kernel) rfl rfl, ?_⟩
  refine List.forall_mem_cons.mpr ⟨ok_aload_n C (show decode cL_law 450 = .ok (.aload_n 0, 1) by decide +kernel) rfl rfl, ?_⟩
  refine List.forall_mem_cons.mpr ⟨ok_iload C (show decode cL_law 451 = .ok (.iload 4, 2) by decide +kernel) rfl, ?_⟩
  refine List.forall_mem_cons.mpr ⟨ok_iconst C (show decode cL_law 453 = .ok (.iconst 1, 1) by decide +kernel) (by decide) rfl, ?_⟩
  refine List.forall_mem_cons.mpr ⟨ok_iadd C (show decode cL_law 454 = .ok (.iadd, 1) by decide +kernel) rfl, ?_⟩
  refine List.forall_mem_cons.mpr ⟨ok_sld C hX hb0 hb1 (show decode cL_law 455 = .ok (.iaload, 1) by decide +kernel) rfl, ?_⟩
  refine List.forall_mem_cons.mpr ⟨ok_aload_n C (show decode cL_law 456 = .ok (.aload_n 0, 1) by decide +kernel) rfl rfl, ?_⟩
  refine List.forall_mem_cons.mpr ⟨ok_iload C (show decode cL_law 457 = .ok (.iload 4, 2) by decide +kernel) rfl, ?_⟩
  refine List.forall_mem_cons.mpr ⟨ok_iconst C (show decode cL_law 459 = .ok (.iconst 2, 1) by decide +kernel) (by decide) rfl, ?_⟩
  refine List.forall_mem_cons.mpr ⟨ok_iadd C (show decode cL_law 460 = .ok (.iadd, 1) by decide +kernel) rfl, ?_⟩
  refine List.forall_mem_cons.mpr ⟨ok_sld C hX hb0 hb1 (show decode cL_law 461 = .ok (.iaload, 1) by decide +kernel) rfl, ?_⟩
  refine List.forall_mem_cons.mpr ⟨ok_callV C h_X11_man ⟨rfl, rfl⟩ rfl kw_1433 kw_1430 kw_1431 kw_1432 kw_11 rfl ds_X11_man ⟨by decide, by decide⟩ (show decode cL_law 462 = .ok (.invokevirtual 52, 3) by decide +kernel) rfl, ?_⟩
  refine List.forall_mem_cons.mpr ⟨ok_istore C (show decode cL_law 465 = .ok (.istore 6, 2) by decide +kernel) (by decide) rfl, ?_⟩
  refine List.forall_mem_cons.mpr ⟨ok_aload_n C (show decode cL_law 467 = .ok (.aload_n 2, 1) by decide +kernel) rfl rfl, ?_⟩
  refine List.forall_mem_cons.mpr ⟨ok_callV C h_X11_thrown ⟨rfl, rfl⟩ rfl kw_1140 kw_1137 kw_1138 kw_1139 kw_11 rfl ds_X11_thrown ⟨by decide, by decide⟩ (show decode cL_law 468 = .ok (.invokevirtual 53, 3) by decide +kernel) rfl, ?_⟩
  refine List.forall_mem_cons.mpr ⟨ok_iload C (show decode cL_law 471 = .ok (.iload 5, 2) by decide +kernel) rfl, ?_⟩
  refine List.forall_mem_cons.mpr ⟨ok_icmpeq C (show decode cL_law 473 = .ok (.if_icmp .eq 5, 3) by decide +kernel) (tg := 478) (by decide) rfl rfl, ?_⟩
  refine List.forall_mem_cons.mpr ⟨ok_iconst C (show decode cL_law 476 = .ok (.iconst 0, 1) by decide +kernel) (by decide) rfl, ?_⟩
  refine List.forall_mem_cons.mpr ⟨ok_lret C hb1 (show decode cL_law 477 = .ok (.ireturn, 1) by decide +kernel), ?_⟩
  refine List.forall_mem_cons.mpr ⟨ok_iload C (show decode cL_law 478 = .ok (.iload 5, 2) by decide +kernel) rfl, ?_⟩
  refine List.forall_mem_cons.mpr ⟨ok_ifne C (show decode cL_law 480 = .ok (.ifCond .ne 15, 3) by decide +kernel) (tg := 495) (by decide) rfl rfl, ?_⟩
  refine List.forall_mem_cons.mpr ⟨ok_aload_n C (show decode cL_law 483 = .ok (.aload_n 3, 1) by decide +kernel) rfl rfl, ?_⟩
  refine List.forall_mem_cons.mpr ⟨ok_iconst C (show decode cL_law 484 = .ok (.iconst 0, 1) by decide +kernel) (by decide) rfl, ?_⟩
  refine List.forall_mem_cons.mpr ⟨ok_laload C (show decode cL_law 485 = .ok (.laload, 1) by decide +kernel) rfl, ?_⟩
  refine List.forall_mem_cons.mpr ⟨ok_iload C (show decode cL_law 486 = .ok (.iload 6, 2) by decide +kernel) rfl, ?_⟩
  refine List.forall_mem_cons.mpr ⟨ok_i2l C (show decode cL_law 488 = .ok (.i2l, 1) by decide +kernel) rfl, ?_⟩
  refine List.forall_mem_cons.mpr ⟨ok_lcmp C (show decode cL_law 489 = .ok (.lcmp, 1) by decide +kernel) rfl, ?_⟩
  refine List.forall_mem_cons.mpr ⟨ok_ifeq C (show decode cL_law 490 = .ok (.ifCond .eq 5, 3) by decide +kernel) (tg := 495) (by decide) rfl rfl, ?_⟩
  refine List.forall_mem_cons.mpr ⟨ok_iconst C (show decode cL_law 493 = .ok (.iconst 0, 1) by decide +kernel) (by decide) rfl, ?_⟩
  refine List.forall_mem_cons.mpr ⟨ok_lret C hb1 (show decode cL_law 494 = .ok (.ireturn, 1) by decide +kernel), ?_⟩
  refine List.forall_mem_cons.mpr ⟨ok_goto C (show decode cL_law 495 = .ok (.goto 973, 3) by decide +kernel) (tg := 1468) (by decide) rfl, ?_⟩
  refine List.forall_mem_cons.mpr ⟨ok_aload_n C (show decode cL_law 498 = .ok (.aload_n 1, 1) by decide +kernel) rfl rfl, ?_⟩
  refine List.forall_mem_cons.mpr ⟨ok_aload_n C (show decode cL_law 499 = .ok (.aload_n 0, 1) by decide +kernel) rfl rfl, ?_⟩
  refine List.forall_mem_cons.mpr ⟨ok_iload C (show decode cL_law 500 = .ok (.iload 4, 2) by decide +kernel) rfl, ?_⟩
  refine List.forall_mem_cons.mpr ⟨ok_iconst C (show decode cL_law 502 = .ok (.iconst 1, 1) by decide +kernel) (by decide) rfl, ?_⟩
  refine List.forall_mem_cons.mpr ⟨ok_iadd C (show decode cL_law 503 = .ok (.iadd, 1) by decide +kernel) rfl, ?_⟩
  refine List.forall_mem_cons.mpr ⟨ok_sld C hX hb0 hb1 (show decode cL_law 504 = .ok (.iaload, 1) by decide +kernel) rfl, ?_⟩
  refine List.forall_mem_cons.mpr ⟨ok_aload_n C (show decode cL_law 505 = .ok (.aload_n 0, 1) by decide +kernel) rfl rfl, ?_⟩
  refine List.forall_mem_cons.mpr ⟨ok_iload C (show decode cL_law 506 = .ok (.iload 4, 2) by decide +kernel) rfl, ?_⟩
  refine List.forall_mem_cons.mpr ⟨ok_iconst C (show decode cL_law 508 = .ok (.iconst 2, 1) by decide +kernel) (by decide) rfl, ?_⟩
  refine List.forall_mem_cons.mpr ⟨ok_iadd C (show decode cL_law 509 = .ok (.iadd, 1) by decide +kernel) rfl, ?_⟩
  refine List.forall_mem_cons.mpr ⟨ok_sld C hX hb0 hb1 (show decode cL_law 510 = .ok (.iaload, 1) by decide +kernel) rfl, ?_⟩
  refine List.forall_mem_cons.mpr ⟨ok_callV C h_X10_apart ⟨rfl, rfl⟩ rfl kw_620 kw_617 kw_618 kw_619 kw_1 rfl ds_X10_apart ⟨by decide, by decide⟩ (show decode cL_law 511 = .ok (.invokevirtual 56, 3) by decide +kernel) rfl, ?_⟩
  refine List.forall_mem_cons.mpr ⟨ok_aload_n C (show decode cL_law 514 = .ok (.aload_n 2, 1) by decide +kernel) rfl rfl, ?_⟩
  refine List.forall_mem_cons.mpr ⟨ok_aload_n C (show decode cL_law 515 = .ok (.aload_n 0, 1) by decide +kernel) rfl rfl, ?_⟩
  refine List.forall_mem_cons.mpr ⟨ok_iload C (show decode cL_law 516 = .ok (.iload 4, 2) by decide +kernel) rfl, ?_⟩
  refine List.forall_mem_cons.mpr ⟨ok_iconst C (show decode cL_law 518 = .ok (.iconst 1, 1) by decide +kernel) (by decide) rfl, ?_⟩
  refine List.forall_mem_cons.mpr ⟨ok_iadd C (show decode cL_law 519 = .ok (.iadd, 1) by decide +kernel) rfl, ?_⟩
  refine List.forall_mem_cons.mpr ⟨ok_sld C hX hb0 hb1 (show decode cL_law 520 = .ok (.iaload, 1) by decide +kernel) rfl, ?_⟩
  refine List.forall_mem_cons.mpr ⟨ok_aload_n C (show decode cL_law 521 = .ok (.aload_n 0, 1) by decide +kernel) rfl rfl, ?_⟩
  refine List.forall_mem_cons.mpr ⟨ok_iload C (show decode cL_law 522 = .ok (.iload 4, 2) by decide +kernel) rfl, ?_⟩
  refine List.forall_mem_cons.mpr ⟨ok_iconst C (show decode cL_law 524 = .ok (.iconst 2, 1) by decide +kernel) (by decide) rfl, ?_⟩
  refine List.forall_mem_cons.mpr ⟨ok_iadd C (show decode cL_law 525 = .ok (.iadd, 1) by decide +kernel) rfl, ?_⟩
  refine List.forall_mem_cons.mpr ⟨ok_sld C hX hb0 hb1 (show decode cL_law 526 = .ok (.iaload, 1) by decide +kernel) rfl, ?_⟩
  refine List.forall_mem_cons.mpr ⟨ok_callV C h_X11_apart ⟨rfl, rfl⟩ rfl kw_1465 kw_1462 kw_1463 kw_1464 kw_11 rfl ds_X11_apart ⟨by decide, by decide⟩ (show decode cL_law 527 = .ok (.invokevirtual 59, 3) by decide +kernel) rfl, ?_⟩
  refine List.forall_mem_cons.mpr ⟨ok_icmpeq C (show decode cL_law 530 = .ok (.if_icmp .eq 938, 3) by decide +kernel) (tg := 1468) (by decide) rfl rfl, ?_⟩
  refine List.forall_mem_cons.mpr ⟨ok_iconst C (show decode cL_law 533 = .ok (.iconst 0, 1) by decide +kernel) (by decide) rfl, ?_⟩
  refine List.forall_mem_cons.mpr ⟨ok_lret C hb1 (show decode cL_law 534 = .ok (.ireturn, 1) by decide +kernel), ?_⟩
  refine List.forall_mem_cons.mpr ⟨ok_aload_n C (show decode cL_law 535 = .ok (.aload_n 1, 1) by decide +kernel) rfl rfl, ?_⟩
  refine List.forall_mem_cons.mpr ⟨ok_aload_n C (show decode cL_law 536 = .ok (.aload_n 0, 1) by decide +kernel) rfl rfl, ?_⟩
  refine List.forall_mem_cons.mpr ⟨ok_iload C (show decode cL_law 537 = .ok (.iload 4, 2) by decide +kernel) rfl, ?_⟩
  refine List.forall_mem_cons.mpr ⟨ok_iconst C (show decode cL_law 539 = .ok (.iconst 1, 1) by decide +kernel) (by decide) rfl, ?_⟩
  refine List.forall_mem_cons.mpr ⟨ok_iadd C (show decode cL_law 540 = .ok (.iadd, 1) by decide +kernel) rfl, ?_⟩
  refine List.forall_mem_cons.mpr ⟨ok_sld C hX hb0 hb1 (show decode cL_law 541 = .ok (.iaload, 1) by decide +kernel) rfl, ?_⟩
  refine List.forall_mem_cons.mpr ⟨ok_callV C h_X10_now ⟨rfl, rfl⟩ rfl kw_640 kw_637 kw_638 kw_639 kw_1 rfl ds_X10_now ⟨by decide, by decide⟩ (show decode cL_law 542 = .ok (.invokevirtual 60, 3) by decide +kernel) rfl, ?_⟩
  refine List.forall_mem_cons.mpr ⟨ok_aload_n C (show decode cL_law 545 = .ok (.aload_n 2, 1) by decide +kernel) rfl rfl, ?_⟩
  refine List.forall_mem_cons.mpr ⟨ok_aload_n C (show decode cL_law 546 = .ok (.aload_n 0, 1) by decide +kernel) rfl rfl, ?_⟩
  refine List.forall_mem_cons.mpr ⟨ok_iload C (show decode cL_law 547 = .ok (.iload 4, 2) by decide +kernel) rfl, ?_⟩
  refine List.forall_mem_cons.mpr ⟨ok_iconst C (show decode cL_law 549 = .ok (.iconst 1, 1) by decide +kernel) (by decide) rfl, ?_⟩
  refine List.forall_mem_cons.mpr ⟨ok_iadd C (show decode cL_law 550 = .ok (.iadd, 1) by decide +kernel) rfl, ?_⟩
  refine List.forall_mem_cons.mpr ⟨ok_sld C hX hb0 hb1 (show decode cL_law 551 = .ok (.iaload, 1) by decide +kernel) rfl, ?_⟩
  refine List.forall_mem_cons.mpr ⟨ok_callV C h_X11_now ⟨rfl, rfl⟩ rfl kw_1469 kw_1466 kw_1467 kw_1468 kw_11 rfl ds_X11_now ⟨by decide, by decide⟩ (show decode cL_law 552 = .ok (.invokevirtual 64, 3) by decide +kernel) rfl, ?_⟩
  refine List.forall_mem_cons.mpr ⟨ok_icmpeq C (show decode cL_law 555 = .ok (.if_icmp .eq 913, 3) by decide +kernel) (tg := 1468) (by decide) rfl rfl, ?_⟩
  refine List.forall_mem_cons.mpr ⟨ok_iconst C (show decode cL_law 558 = .ok (.iconst 0, 1) by decide +kernel) (by decide) rfl, ?_⟩
  refine List.forall_mem_cons.mpr ⟨ok_lret C hb1 (show decode cL_law 559 = .ok (.ireturn, 1) by decide +kernel), ?_⟩
  refine List.forall_mem_cons.mpr ⟨ok_aload_n C (show decode cL_law 560 = .ok (.aload_n 1, 1) by decide +kernel) rfl rfl, ?_⟩
  refine List.forall_mem_cons.mpr ⟨ok_aload_n C (show decode cL_law 561 = .ok (.aload_n 0, 1) by decide +kernel) rfl rfl, ?_⟩
  refine List.forall_mem_cons.mpr ⟨ok_iload C (show decode cL_law 562 = .ok (.iload 4, 2) by decide +kernel) rfl, ?_⟩
  refine List.forall_mem_cons.mpr ⟨ok_iconst C (show decode cL_law 564 = .ok (.iconst 1, 1) by decide +kernel) (by decide) rfl, ?_⟩
  exact fun _ h => absurd h List.not_mem_nil
def L_law_3 (xs : Nat → Int32) (n : Nat) (f_X10_hoard : List Value → ab_H → Option ab_O) (f_X11_hoard : List Value → ab_H → Option ab_O) (f_X10_bare : List Value → ab_H → Option ab_O) (f_X11_bare : List Value → ab_H → Option ab_O) (f_X10_waste : List Value → ab_H → Option ab_O) : List (Nat × ab_A) := [
  (565, ab_nx 566 (ab_bin (fun x y => x + y))),
  (566, ab_nx 567 (ab_sld xs n)),
  (567, ab_nx 568 (ab_aload 0)),
  (568, ab_nx 570 (ab_iload 4)),
  (570, ab_nx 571 (ab_lit (.int 2))),
  (571, ab_nx 572 (ab_bin (fun x y => x + y))),
  (572, ab_nx 573 (ab_sld xs n)),
  (573, ab_nx 574 (ab_aload 0)),
  (574, ab_nx 576 (ab_iload 4)),
  (576, ab_nx 577 (ab_lit (.int 3))),
  (577, ab_nx 578 (ab_bin (fun x y => x + y))),
  (578, ab_nx 579 (ab_sld xs n)),
  (579, ab_nx 582 (ab_callV 4 10 f_X10_hoard 8 138 600002 7302231)),
  (582, ab_nx 583 (ab_aload 2)),
  (583, ab_nx 584 (ab_aload 0)),
  (584, ab_nx 586 (ab_iload 4)),
  (586, ab_nx 587 (ab_lit (.int 1))),
  (587, ab_nx 588 (ab_bin (fun x y => x + y))),
  (588, ab_nx 589 (ab_sld xs n)),
  (589, ab_nx 590 (ab_aload 0)),
  (590, ab_nx 592 (ab_iload 4)),
  (592, ab_nx 593 (ab_lit (.int 2))),
  (593, ab_nx 594 (ab_bin (fun x y => x + y))),
  (594, ab_nx 595 (ab_sld xs n)),
  (595, ab_nx 596 (ab_aload 0)),
  (596, ab_nx 598 (ab_iload 4)),
  (598, ab_nx 599 (ab_lit (.int 3))),
  (599, ab_nx 600 (ab_bin (fun x y => x + y))),
  (600, ab_nx 601 (ab_sld xs n)),
  (601, ab_nx 604 (ab_callV 4 11 f_X11_hoard 0 0 600002 7302231)),
  (604, ab_icmp 607 1468 (fun x y => decide (x = y))),
  (607, ab_nx 608 (ab_lit (.int 0))),
  (608, ab_lret),
  (609, ab_nx 610 (ab_aload 1)),
  (610, ab_nx 611 (ab_aload 0)),
  (611, ab_nx 613 (ab_iload 4)),
  (613, ab_nx 614 (ab_lit (.int 1))),
  (614, ab_nx 615 (ab_bin (fun x y => x + y))),
  (615, ab_nx 616 (ab_sld xs n)),
  (616, ab_nx 617 (ab_aload 0)),
  (617, ab_nx 619 (ab_iload 4)),
  (619, ab_nx 620 (ab_lit (.int 2))),
  (620, ab_nx 621 (ab_bin (fun x y => x + y))),
  (621, ab_nx 622 (ab_sld xs n)),
  (622, ab_nx 623 (ab_aload 0)),
  (623, ab_nx 625 (ab_iload 4)),
  (625, ab_nx 626 (ab_lit (.int 3))),
  (626, ab_nx 627 (ab_bin (fun x y => x + y))),
  (627, ab_nx 628 (ab_sld xs n)),
  (628, ab_nx 631 (ab_callV 4 10 f_X10_bare 8 138 600002 7302231)),
  (631, ab_nx 632 (ab_aload 2)),
  (632, ab_nx 633 (ab_aload 0)),
  (633, ab_nx 635 (ab_iload 4)),
  (635, ab_nx 636 (ab_lit (.int 1))),
  (636, ab_nx 637 (ab_bin (fun x y => x + y))),
  (637, ab_nx 638 (ab_sld xs n)),
  (638, ab_nx 639 (ab_aload 0)),
  (639, ab_nx 641 (ab_iload 4)),
  (641, ab_nx 642 (ab_lit (.int 2))),
  (642, ab_nx 643 (ab_bin (fun x y => x + y))),
  (643, ab_nx 644 (ab_sld xs n)),
  (644, ab_nx 645 (ab_aload 0)),
  (645, ab_nx 647 (ab_iload 4)),
  (647, ab_nx 648 (ab_lit (.int 3))),
  (648, ab_nx 649 (ab_bin (fun x y => x + y))),
  (649, ab_nx 650 (ab_sld xs n)),
  (650, ab_nx 653 (ab_callV 4 11 f_X11_bare 0 0 600002 7302231)),
  (653, ab_icmp 656 1468 (fun x y => decide (x = y))),
  (656, ab_nx 657 (ab_lit (.int 0))),
  (657, ab_lret),
  (658, ab_nx 659 (ab_aload 1)),
  (659, ab_nx 660 (ab_aload 0)),
  (660, ab_nx 662 (ab_iload 4)),
  (662, ab_nx 663 (ab_lit (.int 1))),
  (663, ab_nx 664 (ab_bin (fun x y => x + y))),
  (664, ab_nx 665 (ab_sld xs n)),
  (665, ab_nx 666 (ab_aload 0)),
  (666, ab_nx 668 (ab_iload 4)),
  (668, ab_nx 669 (ab_lit (.int 2))),
  (669, ab_nx 670 (ab_bin (fun x y => x + y))),
  (670, ab_nx 671 (ab_sld xs n)),
  (671, ab_nx 672 (ab_aload 0)),
  (672, ab_nx 674 (ab_iload 4)),
  (674, ab_nx 675 (ab_lit (.int 3))),
  (675, ab_nx 676 (ab_bin (fun x y => x + y))),
  (676, ab_nx 677 (ab_sld xs n)),
  (677, ab_nx 680 (ab_callV 4 10 f_X10_waste 8 138 600002 7302231)),
  (680, ab_nx 681 (ab_aload 2)),
  (681, ab_nx 682 (ab_aload 0)),
  (682, ab_nx 684 (ab_iload 4))]
set_option maxRecDepth 100000 in
set_option maxHeartbeats 4000000 in
theorem law_3 {p : Program} {l : Launch} {e : Env} {s : State} {m : MethodId} {below : List Frame} {meth : Method} {c : Code} {cd : Cond} {b : ab_B} {D : va_G} {cA : Nat → ClassId} {o : ab_O} {xs : Nat → Int32} {n bb : Nat} {nm : String} (C : ab_cx p l e room_1 s m #[Value.ref bb] below meth c D ab_cl cA (ab_E0 b) (⟨RL, nm, "([I)Z"⟩ : MethodName) cL_law 7 ret (cd :: ab_G) room_1) (hX : va_X bb n xs s s.heap) (hb0 : b.2 0 = bb) (hb1 : b.1 = s.heap.size ∧ bb < s.heap.size) {f_X10_hoard : List Value → ab_H → Option ab_O} (h_X10_hoard : ab_M l b D ab_cl cA (ab_E0 b) yX10_hoard (Cond.code yX10_hoard cX10_hoard 4 (some .int) :: ab_G) ({ frames := 5, cells := 8, slots := 138, locals := 500 } : Room) f_X10_hoard) {f_X11_hoard : List Value → ab_H → Option ab_O} (h_X11_hoard : ab_M l b D ab_cl cA (ab_E0 b) yX11_hoard (Cond.code yX11_hoard cX11_hoard 4 (some .int) :: ab_G) ({ frames := 4, cells := 0, slots := 0, locals := 400 } : Room) f_X11_hoard) {f_X10_bare : List Value → ab_H → Option ab_O} (h_X10_bare : ab_M l b D ab_cl cA (ab_E0 b) yX10_bare (Cond.code yX10_bare cX10_bare 4 (some .int) :: ab_G) ({ frames := 5, cells := 8, slots := 138, locals := 500 } : Room) f_X10_bare) {f_X11_bare : List Value → ab_H → Option ab_O} (h_X11_bare : ab_M l b D ab_cl cA (ab_E0 b) yX11_bare (Cond.code yX11_bare cX11_bare 5 (some .int) :: ab_G) ({ frames := 4, cells := 0, slots := 0, locals := 400 } : Room) f_X11_bare) {f_X10_waste : List Value → ab_H → Option ab_O} (h_X10_waste : ab_M l b D ab_cl cA (ab_E0 b) yX10_waste (Cond.code yX10_waste cX10_waste 4 (some .int) :: ab_G) ({ frames := 5, cells := 8, slots := 138, locals := 500 } : Room) f_X10_waste) : ∀ q ∈ L_law_3 xs n f_X10_hoard f_X11_hoard f_X10_bare f_X11_bare f_X10_waste, ab_ok p l e room_1 s m #[Value.ref bb] below meth c (lw_Z below #[Value.ref bb] s) b D ab_cl cA 7 o (fun i => i) q.1 q.2 := by
  unfold L_law_3
  refine List.forall_mem_cons.mpr ⟨ok_iadd C (show decode cL_law 565 = .ok (.iadd, 1) by decide +kernel) rfl, ?_⟩
  refine List.forall_mem_cons.mpr ⟨ok_sld C hX hb0 hb1 (show decode cL_law 566 = .ok (.iaload, 1) by decide +kernel) rfl, ?_⟩
  refine List.forall_mem_cons.mpr ⟨ok_aload_n C (show decode cL_law 567 = .ok (.aload_n 0, 1) by decide +kernel) rfl rfl, ?_⟩
  refine List.forall_mem_cons.mpr ⟨ok_iload C (show decode cL_law 568 = .ok (.iload 4, 2) by decide +kernel) rfl, ?_⟩
  refine List.forall_mem_cons.mpr ⟨ok_iconst C (show decode cL_law 570 = .ok (.iconst 2, 1) by decide +kernel) (by decide) rfl, ?_⟩
  refine List.forall_mem_cons.mpr ⟨ok_iadd C (show decode cL_law 571 = .ok (.iadd, 1) by decide +kernel) rfl, ?_⟩
  refine List.forall_mem_cons.mpr ⟨ok_sld C hX hb0 hb1 (show decode cL_law 572 = .ok (.iaload, 1) by decide +kernel) rfl, ?_⟩
  refine List.forall_mem_cons.mpr ⟨ok_aload_n C (show decode cL_law 573 = .ok (.aload_n 0, 1) by decide +kernel) rfl rfl, ?_⟩
  refine List.forall_mem_cons.mpr ⟨ok_iload C (show decode cL_law 574 = .ok (.iload 4, 2) by decide +kernel) rfl, ?_⟩
  refine List.forall_mem_cons.mpr ⟨ok_iconst C (show decode cL_law 576 = .ok (.iconst 3, 1) by decide +kernel) (by decide) rfl, ?_⟩
  refine List.forall_mem_cons.mpr ⟨ok_iadd C (show decode cL_law 577 = .ok (.iadd, 1) by decide +kernel) rfl, ?_⟩
  refine List.forall_mem_cons.mpr ⟨ok_sld C hX hb0 hb1 (show decode cL_law 578 = .ok (.iaload, 1) by decide +kernel) rfl, ?_⟩
  refine List.forall_mem_cons.mpr ⟨ok_callV C h_X10_hoard ⟨rfl, rfl⟩ rfl kw_700 kw_697 kw_698 kw_699 kw_1 rfl ds_X10_hoard ⟨by decide, by decide⟩ (show decode cL_law 579 = .ok (.invokevirtual 65, 3) by decide +kernel) rfl, ?_⟩
  refine List.forall_mem_cons.mpr ⟨ok_aload_n C (show decode cL_law 582 = .ok (.aload_n 2, 1) by decide +kernel) rfl rfl, ?_⟩
  refine List.forall_mem_cons.mpr ⟨ok_aload_n C (show decode cL_law 583 = .ok (.aload_n 0, 1) by decide +kernel) rfl rfl, ?_⟩
  refine List.forall_mem_cons.mpr ⟨ok_iload C (show decode cL_law 584 = .ok (.iload 4, 2) by decide +kernel) rfl, ?_⟩
  refine List.forall_mem_cons.mpr ⟨ok_iconst C (show decode cL_law 586 = .ok (.iconst 1, 1) by decide +kernel) (by decide) rfl, ?_⟩
  refine List.forall_mem_cons.mpr ⟨ok_iadd C (show decode cL_law 587 = .ok (.iadd, 1) by decide +kernel) rfl, ?_⟩
  refine List.forall_mem_cons.mpr ⟨ok_sld C hX hb0 hb1 (show decode cL_law 588 = .ok (.iaload, 1) by decide +kernel) rfl, ?_⟩
  refine List.forall_mem_cons.mpr ⟨ok_aload_n C (show decode cL_law 589 = .ok (.aload_n 0, 1) by decide +kernel) rfl rfl, ?_⟩
  refine List.forall_mem_cons.mpr ⟨ok_iload C (show decode cL_law 590 = .ok (.iload 4, 2) by decide +kernel) rfl, ?_⟩
  refine List.forall_mem_cons.mpr ⟨ok_iconst C (show decode cL_law 592 = .ok (.iconst 2, 1) by decide +kernel) (by decide) rfl, ?_⟩
  refine List.forall_mem_cons.mpr ⟨ok_iadd C (show decode cL_law 593 = .ok (.iadd, 1) by decide +kernel) rfl, ?_⟩
  refine List.forall_mem_cons.mpr ⟨ok_sld C hX hb0 hb1 (show decode cL_law 594 = .ok (.iaload, 1) by decide +kernel) rfl, ?_⟩
  refine List.forall_mem_cons.mpr ⟨ok_aload_n C (show decode cL_law 595 = .ok (.aload_n 0, 1) by decide +kernel) rfl rfl, ?_⟩
  refine List.forall_mem_cons.mpr ⟨ok_iload C (show decode cL_law 596 = .ok (.iload 4, 2) by decide +kernel) rfl, ?_⟩
  refine List.forall_mem_cons.mpr ⟨ok_iconst C (show decode cL_law 598 = .ok (.iconst 3, 1) by decide +kernel) (by decide) rfl, ?_⟩
  refine List.forall_mem_cons.mpr ⟨ok_iadd C (show decode cL_law 599 = .ok (.iadd, 1) by decide +kernel) rfl, ?_⟩
  refine List.forall_mem_cons.mpr ⟨ok_sld C hX hb0 hb1 (show decode cL_law 600 = .ok (.iaload, 1) by decide +kernel) rfl, ?_⟩
  refine List.forall_mem_cons.mpr ⟨ok_callV C h_X11_hoard ⟨rfl, rfl⟩ rfl kw_1477 kw_1474 kw_1475 kw_1476 kw_11 rfl ds_X11_hoard ⟨by decide, by decide⟩ (show decode cL_law 601 = .ok (.invokevirtual 68, 3) by decide +kernel) rfl, ?_⟩
  refine List.forall_mem_cons.mpr ⟨ok_icmpeq C (show decode cL_law 604 = .ok (.if_icmp .eq 864, 3) by decide +kernel) (tg := 1468) (by decide) rfl rfl, ?_⟩
  refine List.forall_mem_cons.mpr ⟨ok_iconst C (show decode cL_law 607 = .ok (.iconst 0, 1) by decide +kernel) (by decide) rfl, ?_⟩
  refine List.forall_mem_cons.mpr ⟨ok_lret C hb1 (show decode cL_law 608 = .ok (.ireturn, 1) by decide +kernel), ?_⟩
  refine List.forall_mem_cons.mpr ⟨ok_aload_n C (show decode cL_law 609 = .ok (.aload_n 1, 1) by decide +kernel) rfl rfl, ?_⟩
  refine List.forall_mem_cons.mpr ⟨ok_aload_n C (show decode cL_law 610 = .ok (.aload_n 0, 1) by decide +kernel) rfl rfl, ?_⟩
  refine List.forall_mem_cons.mpr ⟨ok_iload C (show decode cL_law 611 = .ok (.iload 4, 2) by decide +kernel) rfl, ?_⟩
  refine List.forall_mem_cons.mpr ⟨ok_iconst C (show decode cL_law 613 = .ok (.iconst 1, 1) by decide +kernel) (by decide) rfl, ?_⟩
  refine List.forall_mem_cons.mpr ⟨ok_iadd C (show decode cL_law 614 = .ok (.iadd, 1) by decide +kernel) rfl, ?_⟩
  refine List.forall_mem_cons.mpr ⟨ok_sld C hX hb0 hb1 (show decode cL_law 615 = .ok (.iaload, 1) by decide +kernel) rfl, ?_⟩
  refine List.forall_mem_cons.mpr ⟨ok_aload_n C (show decode cL_law 616 = .ok (.aload_n 0, 1) by decide +kernel) rfl rfl, ?_⟩
  refine List.forall_mem_cons.mpr ⟨ok_iload C (show decode cL_law 617 = .ok (.iload 4, 2) by decide +kernel) rfl, ?_⟩
  refine List.forall_mem_cons.mpr ⟨ok_iconst C (show decode cL_law 619 = .ok (.iconst 2, 1) by decide +kernel) (by decide) rfl, ?_⟩
  refine List.forall_mem_cons.mpr ⟨ok_iadd C (show decode cL_law 620 = .ok (.iadd, 1) by decide +kernel) rfl, ?_⟩
  refine List.forall_mem_cons.mpr ⟨ok_sld C hX hb0 hb1 (show decode cL_law 621 = .ok (.iaload, 1) by decide +kernel) rfl, ?_⟩
  refine List.forall_mem_cons.mpr ⟨ok_aload_n C (show decode cL_law 622 = .ok (.aload_n 0, 1) by decide +kernel) rfl rfl, ?_⟩
  refine List.forall_mem_cons.mpr ⟨ok_iload C (show decode cL_law 623 = .ok (.iload 4, 2) by decide +kernel) rfl, ?_⟩
  refine List.forall_mem_cons.mpr ⟨ok_iconst C (show decode cL_law 625 = .ok (.iconst 3, 1) by decide +kernel) (by decide) rfl, ?_⟩
  refine List.forall_mem_cons.mpr ⟨ok_iadd C (show decode cL_law 626 = .ok (.iadd, 1) by decide +kernel) rfl, ?_⟩
  refine List.forall_mem_cons.mpr ⟨ok_sld C hX hb0 hb1 (show decode cL_law 627 = .ok (.iaload, 1) by decide +kernel) rfl, ?_⟩
  refine List.forall_mem_cons.mpr ⟨ok_callV C h_X10_bare ⟨rfl, rfl⟩ rfl kw_735 kw_732 kw_733 kw_734 kw_1 rfl ds_X10_bare ⟨by decide, by decide⟩ (show decode cL_law 628 = .ok (.invokevirtual 69, 3) by decide +kernel) rfl, ?_⟩
  refine List.forall_mem_cons.mpr ⟨ok_aload_n C (show decode cL_law 631 = .ok (.aload_n 2, 1) by decide +kernel) rfl rfl, ?_⟩
  refine List.forall_mem_cons.mpr ⟨ok_aload_n C (show decode cL_law 632 = .ok (.aload_n 0, 1) by decide +kernel) rfl rfl, ?_⟩
  refine List.forall_mem_cons.mpr ⟨ok_iload C (show decode cL_law 633 = .ok (.iload 4, 2) by decide +kernel) rfl, ?_⟩
  refine List.forall_mem_cons.mpr ⟨ok_iconst C (show decode cL_law 635 = .ok (.iconst 1, 1) by decide +kernel) (by decide) rfl, ?_⟩
  refine List.forall_mem_cons.mpr ⟨ok_iadd C (show decode cL_law 636 = .ok (.iadd, 1) by decide +kernel) rfl, ?_⟩
  refine List.forall_mem_cons.mpr ⟨ok_sld C hX hb0 hb1 (show decode cL_law 637 = .ok (.iaload, 1) by decide +kernel) rfl, ?_⟩
  refine List.forall_mem_cons.mpr ⟨ok_aload_n C (show decode cL_law 638 = .ok (.aload_n 0, 1) by decide +kernel) rfl rfl, ?_⟩
  refine List.forall_mem_cons.mpr ⟨ok_iload C (show decode cL_law 639 = .ok (.iload 4, 2) by decide +kernel) rfl, ?_⟩
  refine List.forall_mem_cons.mpr ⟨ok_iconst C (show decode cL_law 641 = .ok (.iconst 2, 1) by decide +kernel) (by decide) rfl, ?_⟩
  refine List.forall_mem_cons.mpr ⟨ok_iadd C (show decode cL_law 642 = .ok (.iadd, 1) by decide +kernel) rfl, ?_⟩
  refine List.forall_mem_cons.mpr ⟨ok_sld C hX hb0 hb1 (show decode cL_law 643 = .ok (.iaload, 1) by decide +kernel) rfl, ?_⟩
  refine List.forall_mem_cons.mpr ⟨ok_aload_n C (show decode cL_law 644 = .ok (.aload_n 0, 1) by decide +kernel) rfl rfl, ?_⟩
  refine List.forall_mem_cons.mpr ⟨ok_iload C (show decode cL_law 645 = .ok (.iload 4, 2) by decide +kernel) rfl, ?_⟩
  refine List.forall_mem_cons.mpr ⟨ok_iconst C (show decode cL_law 647 = .ok (.iconst 3, 1) by decide +kernel) (by decide) rfl, ?_⟩
  refine List.forall_mem_cons.mpr ⟨ok_iadd C (show decode cL_law 648 = .ok (.iadd, 1) by decide +kernel) rfl, ?_⟩
  refine List.forall_mem_cons.mpr ⟨ok_sld C hX hb0 hb1 (show decode cL_law 649 = .ok (.iaload, 1) by decide +kernel) rfl, ?_⟩
  refine List.forall_mem_cons.mpr ⟨ok_callV C h_X11_bare ⟨rfl, rfl⟩ rfl kw_1493 kw_1490 kw_1491 kw_1492 kw_11 rfl ds_X11_bare ⟨by decide, by decide⟩ (show decode cL_law 650 = .ok (.invokevirtual 72, 3) by decide +kernel) rfl, ?_⟩
  refine List.forall_mem_cons.mpr ⟨ok_icmpeq C (show decode cL_law 653 = .ok (.if_icmp .eq 815, 3) by decide +kernel) (tg := 1468) (by decide) rfl rfl, ?_⟩
  refine List.forall_mem_cons.mpr ⟨ok_iconst C (show decode cL_law 656 = .ok (.iconst 0, 1) by decide +kernel) (by decide) rfl, ?_⟩
  refine List.forall_mem_cons.mpr ⟨ok_lret C hb1 (show decode cL_law 657 = .ok (.ireturn, 1) by decide +kernel), ?_⟩
  refine List.forall_mem_cons.mpr ⟨ok_aload_n C (show decode cL_law 658 = .ok (.aload_n 1, 1) by decide +kernel) rfl rfl, ?_⟩
  refine List.forall_mem_cons.mpr ⟨ok_aload_n C (show decode cL_law 659 = .ok (.aload_n 0, 1) by decide +kernel) rfl rfl, ?_⟩
  refine List.forall_mem_cons.mpr ⟨ok_iload C (show decode cL_law 660 = .ok (.iload 4, 2) by decide +kernel) rfl, ?_⟩
  refine List.forall_mem_cons.mpr ⟨ok_iconst C (show decode cL_law 662 = .ok (.iconst 1, 1) by decide +kernel) (by decide) rfl, ?_⟩
  refine List.forall_mem_cons.mpr ⟨ok_iadd C (show decode cL_law 663 = .ok (.iadd, 1) by decide +kernel) rfl, ?_⟩
  refine List.forall_mem_cons.mpr ⟨ok_sld C hX hb0 hb1 (show decode cL_law 664 = .ok (.iaload, 1) by decide +kernel) rfl, ?_⟩
  refine List.forall_mem_cons.mpr ⟨ok_aload_n C (show decode cL_law 665 = .ok (.aload_n 0, 1) by decide +kernel) rfl rfl, ?_⟩
  refine List.forall_mem_cons.mpr ⟨ok_iload C (show decode cL_law 666 = .ok (.iload 4, 2) by decide +kernel) rfl, ?_⟩
  refine List.forall_mem_cons.mpr ⟨ok_iconst C (show decode cL_law 668 = .ok (.iconst 2, 1) by decide +kernel) (by decide) rfl, ?_⟩
  refine List.forall_mem_cons.mpr ⟨ok_iadd C (show decode cL_law 669 = .ok (.iadd, 1) by decide +kernel) rfl, ?_⟩
  refine List.forall_mem_cons.mpr ⟨ok_sld C hX hb0 hb1 (show decode cL_law 670 = .ok (.iaload, 1) by decide +kernel) rfl, ?_⟩
  refine List.forall_mem_cons.mpr ⟨ok_aload_n C (show decode cL_law 671 = .ok (.aload_n 0, 1) by decide +kernel) rfl rfl, ?_⟩
  refine List.forall_mem_cons.mpr ⟨ok_iload C (show decode cL_law 672 = .ok (.iload 4, 2) by decide +kernel) rfl, ?_⟩
  refine List.forall_mem_cons.mpr ⟨ok_iconst C (show decode cL_law 674 = .ok (.iconst 3, 1) by decide +kernel) (by decide) rfl, ?_⟩
  refine List.forall_mem_cons.mpr ⟨ok_iadd C (show decode cL_law 675 = .ok (.iadd, 1) by decide +kernel) rfl, ?_⟩
  refine List.forall_mem_cons.mpr ⟨ok_sld C hX hb0 hb1 (show decode cL_law 676 = .ok (.iaload, 1) by decide +kernel) rfl, ?_⟩
  refine List.forall_mem_cons.mpr ⟨ok_callV C h_X10_waste ⟨rfl, rfl⟩ rfl kw_739 kw_736 kw_737 kw_738 kw_1 rfl ds_X10_waste ⟨by decide, by decide⟩ (show decode cL_law 677 = .ok (.invokevirtual 73, 3) by decide +kernel) rfl, ?_⟩
  refine List.forall_mem_cons.mpr ⟨ok_aload_n C (show decode cL_law 680 = .ok (.aload_n 2, 1) by decide +kernel) rfl rfl, ?_⟩
  refine List.forall_mem_cons.mpr ⟨ok_aload_n C (show decode cL_law 681 = .ok (.aload_n 0, 1) by decide +kernel) rfl rfl, ?_⟩
  refine List.forall_mem_cons.mpr ⟨ok_iload C (show decode cL_law 682 = .ok (.iload 4, 2) by decide +kernel) rfl, ?_⟩
  exact fun _ h => absurd h List.not_mem_nil
def L_law_4 (xs : Nat → Int32) (n : Nat) (f_X11_waste : List Value → ab_H → Option ab_O) (f_X10_die : List Value → ab_H → Option ab_O) (f_X11_die : List Value → ab_H → Option ab_O) (f_X10_days : List Value → ab_H → Option ab_O) (f_X11_days : List Value → ab_H → Option ab_O) (f_X10_undo : List Value → ab_H → Option ab_O) (f_X11_undo : List Value → ab_H → Option ab_O) (f_X10_lacks : List Value → ab_H → Option ab_O) (f_X11_lacks : List Value → ab_H → Option ab_O) (f_X10_falses : List Value → ab_H → Option ab_O) (f_X11_falses : List Value → ab_H → Option ab_O) : List (Nat × ab_A) := [
  (684, ab_nx 685 (ab_lit (.int 1))),
  (685, ab_nx 686 (ab_bin (fun x y => x + y))),
  (686, ab_nx 687 (ab_sld xs n)),
  (687, ab_nx 688 (ab_aload 0)),
  (688, ab_nx 690 (ab_iload 4)),
  (690, ab_nx 691 (ab_lit (.int 2))),
  (691, ab_nx 692 (ab_bin (fun x y => x + y))),
  (692, ab_nx 693 (ab_sld xs n)),
  (693, ab_nx 694 (ab_aload 0)),
  (694, ab_nx 696 (ab_iload 4)),
  (696, ab_nx 697 (ab_lit (.int 3))),
  (697, ab_nx 698 (ab_bin (fun x y => x + y))),
  (698, ab_nx 699 (ab_sld xs n)),
  (699, ab_nx 702 (ab_callV 4 11 f_X11_waste 0 0 600002 7302231)),
  (702, ab_icmp 705 1468 (fun x y => decide (x = y))),
  (705, ab_nx 706 (ab_lit (.int 0))),
  (706, ab_lret),
  (707, ab_nx 708 (ab_aload 1)),
  (708, ab_nx 709 (ab_aload 0)),
  (709, ab_nx 711 (ab_iload 4)),
  (711, ab_nx 712 (ab_lit (.int 1))),
  (712, ab_nx 713 (ab_bin (fun x y => x + y))),
  (713, ab_nx 714 (ab_sld xs n)),
  (714, ab_nx 717 (ab_callV 2 10 f_X10_die 8 138 600002 7302231)),
  (717, ab_nx 718 (ab_aload 2)),
  (718, ab_nx 719 (ab_aload 0)),
  (719, ab_nx 721 (ab_iload 4)),
  (721, ab_nx 722 (ab_lit (.int 1))),
  (722, ab_nx 723 (ab_bin (fun x y => x + y))),
  (723, ab_nx 724 (ab_sld xs n)),
  (724, ab_nx 727 (ab_callV 2 11 f_X11_die 0 0 600002 7302231)),
  (727, ab_icmp 730 1468 (fun x y => decide (x = y))),
  (730, ab_nx 731 (ab_lit (.int 0))),
  (731, ab_lret),
  (732, ab_nx 733 (ab_aload 1)),
  (733, ab_nx 734 (ab_aload 0)),
  (734, ab_nx 736 (ab_iload 4)),
  (736, ab_nx 737 (ab_lit (.int 1))),
  (737, ab_nx 738 (ab_bin (fun x y => x + y))),
  (738, ab_nx 739 (ab_sld xs n)),
  (739, ab_nx 742 (ab_callV 2 10 f_X10_days 8 138 600002 7302231)),
  (742, ab_nx 743 (ab_aload 2)),
  (743, ab_nx 744 (ab_aload 0)),
  (744, ab_nx 746 (ab_iload 4)),
  (746, ab_nx 747 (ab_lit (.int 1))),
  (747, ab_nx 748 (ab_bin (fun x y => x + y))),
  (748, ab_nx 749 (ab_sld xs n)),
  (749, ab_nx 752 (ab_callV 2 11 f_X11_days 0 0 600002 7302231)),
  (752, ab_icmp 755 1468 (fun x y => decide (x = y))),
  (755, ab_nx 756 (ab_lit (.int 0))),
  (756, ab_lret),
  (757, ab_nx 758 (ab_aload 1)),
  (758, ab_nx 761 (ab_callV 1 10 f_X10_undo 0 0 600002 7302231)),
  (761, ab_nx 762 (ab_aload 2)),
  (762, ab_nx 765 (ab_callV 1 11 f_X11_undo 0 0 600002 7302231)),
  (765, ab_icmp 768 1468 (fun x y => decide (x = y))),
  (768, ab_nx 769 (ab_lit (.int 0))),
  (769, ab_lret),
  (770, ab_nx 771 (ab_aload 1)),
  (771, ab_nx 772 (ab_aload 0)),
  (772, ab_nx 774 (ab_iload 4)),
  (774, ab_nx 775 (ab_lit (.int 1))),
  (775, ab_nx 776 (ab_bin (fun x y => x + y))),
  (776, ab_nx 777 (ab_sld xs n)),
  (777, ab_nx 780 (ab_callV 2 10 f_X10_lacks 0 0 600002 7302231)),
  (780, ab_nx 781 (ab_aload 2)),
  (781, ab_nx 782 (ab_aload 0)),
  (782, ab_nx 784 (ab_iload 4)),
  (784, ab_nx 785 (ab_lit (.int 1))),
  (785, ab_nx 786 (ab_bin (fun x y => x + y))),
  (786, ab_nx 787 (ab_sld xs n)),
  (787, ab_nx 790 (ab_callV 2 11 f_X11_lacks 0 0 600002 7302231)),
  (790, ab_icmp 793 1468 (fun x y => decide (x = y))),
  (793, ab_nx 794 (ab_lit (.int 0))),
  (794, ab_lret),
  (795, ab_nx 796 (ab_aload 1)),
  (796, ab_nx 797 (ab_aload 0)),
  (797, ab_nx 799 (ab_iload 4)),
  (799, ab_nx 800 (ab_lit (.int 1))),
  (800, ab_nx 801 (ab_bin (fun x y => x + y))),
  (801, ab_nx 802 (ab_sld xs n)),
  (802, ab_nx 805 (ab_callV 2 10 f_X10_falses 0 0 600002 7302231)),
  (805, ab_nx 806 (ab_aload 2)),
  (806, ab_nx 807 (ab_aload 0)),
  (807, ab_nx 809 (ab_iload 4)),
  (809, ab_nx 810 (ab_lit (.int 1))),
  (810, ab_nx 811 (ab_bin (fun x y => x + y))),
  (811, ab_nx 812 (ab_sld xs n)),
  (812, ab_nx 815 (ab_callV 2 11 f_X11_falses 0 0 600002 7302231)),
  (815, ab_icmp 818 1468 (fun x y => decide (x = y)))]
set_option maxRecDepth 100000 in
set_option maxHeartbeats 4000000 in
theorem law_4 {p : Program} {l : Launch} {e : Env} {s : State} {m : MethodId} {below : List Frame} {meth : Method} {c : Code} {cd : Cond} {b : ab_B} {D : va_G} {cA : Nat → ClassId} {o : ab_O} {xs : Nat → Int32} {n bb : Nat} {nm : String} (C : ab_cx p l e room_1 s m #[Value.ref bb] below meth c D ab_cl cA (ab_E0 b) (⟨RL, nm, "([I)Z"⟩ : MethodName) cL_law 7 ret (cd :: ab_G) room_1) (hX : va_X bb n xs s s.heap) (hb0 : b.2 0 = bb) (hb1 : b.1 = s.heap.size ∧ bb < s.heap.size) {f_X11_waste : List Value → ab_H → Option ab_O} (h_X11_waste : ab_M l b D ab_cl cA (ab_E0 b) yX11_waste (Cond.code yX11_waste cX11_waste 4 (some .int) :: ab_G) ({ frames := 4, cells := 0, slots := 0, locals := 400 } : Room) f_X11_waste) {f_X10_die : List Value → ab_H → Option ab_O} (h_X10_die : ab_M l b D ab_cl cA (ab_E0 b) yX10_die (Cond.code yX10_die cX10_die 3 (some .int) :: ab_G) ({ frames := 4, cells := 8, slots := 138, locals := 400 } : Room) f_X10_die) {f_X11_die : List Value → ab_H → Option ab_O} (h_X11_die : ab_M l b D ab_cl cA (ab_E0 b) yX11_die (Cond.code yX11_die cX11_die 2 (some .int) :: ab_G) ({ frames := 3, cells := 0, slots := 0, locals := 300 } : Room) f_X11_die) {f_X10_days : List Value → ab_H → Option ab_O} (h_X10_days : ab_M l b D ab_cl cA (ab_E0 b) yX10_days (Cond.code yX10_days cX10_days 2 (some .int) :: ab_G) ({ frames := 6, cells := 8, slots := 138, locals := 600 } : Room) f_X10_days) {f_X11_days : List Value → ab_H → Option ab_O} (h_X11_days : ab_M l b D ab_cl cA (ab_E0 b) yX11_days (Cond.code yX11_days cX11_days 2 (some .int) :: ab_G) ({ frames := 9, cells := 0, slots := 0, locals := 900 } : Room) f_X11_days) {f_X10_undo : List Value → ab_H → Option ab_O} (h_X10_undo : ab_M l b D ab_cl cA (ab_E0 b) yX10_undo (Cond.code yX10_undo cX10_undo 1 (some .int) :: ab_G) ({ frames := 4, cells := 0, slots := 0, locals := 400 } : Room) f_X10_undo) {f_X11_undo : List Value → ab_H → Option ab_O} (h_X11_undo : ab_M l b D ab_cl cA (ab_E0 b) yX11_undo (Cond.code yX11_undo cX11_undo 2 (some .int) :: ab_G) ({ frames := 1, cells := 0, slots := 0, locals := 100 } : Room) f_X11_undo) {f_X10_lacks : List Value → ab_H → Option ab_O} (h_X10_lacks : ab_M l b D ab_cl cA (ab_E0 b) yX10_lacks (Cond.code yX10_lacks cX10_lacks 4 (some .int) :: ab_G) ({ frames := 3, cells := 0, slots := 0, locals := 300 } : Room) f_X10_lacks) {f_X11_lacks : List Value → ab_H → Option ab_O} (h_X11_lacks : ab_M l b D ab_cl cA (ab_E0 b) yX11_lacks (Cond.code yX11_lacks cX11_lacks 4 (some .int) :: ab_G) ({ frames := 3, cells := 0, slots := 0, locals := 300 } : Room) f_X11_lacks) {f_X10_falses : List Value → ab_H → Option ab_O} (h_X10_falses : ab_M l b D ab_cl cA (ab_E0 b) yX10_falses (Cond.code yX10_falses cX10_falses 4 (some .int) :: ab_G) ({ frames := 3, cells := 0, slots := 0, locals := 300 } : Room) f_X10_falses) {f_X11_falses : List Value → ab_H → Option ab_O} (h_X11_falses : ab_M l b D ab_cl cA (ab_E0 b) yX11_falses (Cond.code yX11_falses cX11_falses 4 (some .int) :: ab_G) ({ frames := 4, cells := 0, slots := 0, locals := 400 } : Room) f_X11_falses) : ∀ q ∈ L_law_4 xs n f_X11_waste f_X10_die f_X11_die f_X10_days f_X11_days f_X10_undo f_X11_undo f_X10_lacks f_X11_lacks f_X10_falses f_X11_falses, ab_ok p l e room_1 s m #[Value.ref bb] below meth c (lw_Z below #[Value.ref bb] s) b D ab_cl cA 7 o (fun i => i) q.1 q.2 := by
  unfold L_law_4
  refine List.forall_mem_cons.mpr ⟨ok_iconst C (show decode cL_law 684 = .ok (.iconst 1, 1) by decide +kernel) (by decide) rfl, ?_⟩
  refine List.forall_mem_cons.mpr ⟨ok_iadd C (show decode cL_law 685 = .ok (.iadd, 1) by decide +kernel) rfl, ?_⟩
  refine List.forall_mem_cons.mpr ⟨ok_sld C hX hb0 hb1 (show decode cL_law 686 = .ok (.iaload, 1) by decide +kernel) rfl, ?_⟩
  refine List.forall_mem_cons.mpr ⟨ok_aload_n C (show decode cL_law 687 = .ok (.aload_n 0, 1) by decide +kernel) rfl rfl, ?_⟩
  refine List.forall_mem_cons.mpr ⟨ok_iload C (show decode cL_law 688 = .ok (.iload 4, 2) by decide +kernel) rfl, ?_⟩
  refine List.forall_mem_cons.mpr ⟨ok_iconst C (show decode cL_law 690 = .ok (.iconst 2, 1) by decide +kernel) (by decide) rfl, ?_⟩
  refine List.forall_mem_cons.mpr ⟨ok_iadd C (show decode cL_law 691 = .ok (.iadd, 1) by decide +kernel) rfl, ?_⟩
  refine List.forall_mem_cons.mpr ⟨ok_sld C hX hb0 hb1 (show decode cL_law 692 = .ok (.iaload, 1) by decide +kernel) rfl, ?_⟩
  refine List.forall_mem_cons.mpr ⟨ok_aload_n C (show decode cL_law 693 = .ok (.aload_n 0, 1) by decide +kernel) rfl rfl, ?_⟩
  refine List.forall_mem_cons.mpr ⟨ok_iload C (show decode cL_law 694 = .ok (.iload 4, 2) by decide +kernel) rfl, ?_⟩
  refine List.forall_mem_cons.mpr ⟨ok_iconst C (show decode cL_law 696 = .ok (.iconst 3, 1) by decide +kernel) (by decide) rfl, ?_⟩
  refine List.forall_mem_cons.mpr ⟨ok_iadd C (show decode cL_law 697 = .ok (.iadd, 1) by decide +kernel) rfl, ?_⟩
  refine List.forall_mem_cons.mpr ⟨ok_sld C hX hb0 hb1 (show decode cL_law 698 = .ok (.iaload, 1) by decide +kernel) rfl, ?_⟩
  refine List.forall_mem_cons.mpr ⟨ok_callV C h_X11_waste ⟨rfl, rfl⟩ rfl kw_1501 kw_1498 kw_1499 kw_1500 kw_11 rfl ds_X11_waste ⟨by decide, by decide⟩ (show decode cL_law 699 = .ok (.invokevirtual 76, 3) by decide +kernel) rfl, ?_⟩
  refine List.forall_mem_cons.mpr ⟨ok_icmpeq C (show decode cL_law 702 = .ok (.if_icmp .eq 766, 3) by decide +kernel) (tg := 1468) (by decide) rfl rfl, ?_⟩
  refine List.forall_mem_cons.mpr ⟨ok_iconst C (show decode cL_law 705 = .ok (.iconst 0, 1) by decide +kernel) (by decide) rfl, ?_⟩
  refine List.forall_mem_cons.mpr ⟨ok_lret C hb1 (show decode cL_law 706 = .ok (.ireturn, 1) by decide +kernel), ?_⟩
  refine List.forall_mem_cons.mpr ⟨ok_aload_n C (show decode cL_law 707 = .ok (.aload_n 1, 1) by decide +kernel) rfl rfl, ?_⟩
  refine List.forall_mem_cons.mpr ⟨ok_aload_n C (show decode cL_law 708 = .ok (.aload_n 0, 1) by decide +kernel) rfl rfl, ?_⟩
  refine List.forall_mem_cons.mpr ⟨ok_iload C (show decode cL_law 709 = .ok (.iload 4, 2) by decide +kernel) rfl, ?_⟩
  refine List.forall_mem_cons.mpr ⟨ok_iconst C (show decode cL_law 711 = .ok (.iconst 1, 1) by decide +kernel) (by decide) rfl, ?_⟩
  refine List.forall_mem_cons.mpr ⟨ok_iadd C (show decode cL_law 712 = .ok (.iadd, 1) by decide +kernel) rfl, ?_⟩
  refine List.forall_mem_cons.mpr ⟨ok_sld C hX hb0 hb1 (show decode cL_law 713 = .ok (.iaload, 1) by decide +kernel) rfl, ?_⟩
  refine List.forall_mem_cons.mpr ⟨ok_callV C h_X10_die ⟨rfl, rfl⟩ rfl kw_743 kw_740 kw_741 kw_742 kw_1 rfl ds_X10_die ⟨by decide, by decide⟩ (show decode cL_law 714 = .ok (.invokevirtual 77, 3) by decide +kernel) rfl, ?_⟩
  refine List.forall_mem_cons.mpr ⟨ok_aload_n C (show decode cL_law 717 = .ok (.aload_n 2, 1) by decide +kernel) rfl rfl, ?_⟩
  refine List.forall_mem_cons.mpr ⟨ok_aload_n C (show decode cL_law 718 = .ok (.aload_n 0, 1) by decide +kernel) rfl rfl, ?_⟩
  refine List.forall_mem_cons.mpr ⟨ok_iload C (show decode cL_law 719 = .ok (.iload 4, 2) by decide +kernel) rfl, ?_⟩
  refine List.forall_mem_cons.mpr ⟨ok_iconst C (show decode cL_law 721 = .ok (.iconst 1, 1) by decide +kernel) (by decide) rfl, ?_⟩
  refine List.forall_mem_cons.mpr ⟨ok_iadd C (show decode cL_law 722 = .ok (.iadd, 1) by decide +kernel) rfl, ?_⟩
  refine List.forall_mem_cons.mpr ⟨ok_sld C hX hb0 hb1 (show decode cL_law 723 = .ok (.iaload, 1) by decide +kernel) rfl, ?_⟩
  refine List.forall_mem_cons.mpr ⟨ok_callV C h_X11_die ⟨rfl, rfl⟩ rfl kw_1505 kw_1502 kw_1503 kw_1504 kw_11 rfl ds_X11_die ⟨by decide, by decide⟩ (show decode cL_law 724 = .ok (.invokevirtual 80, 3) by decide +kernel) rfl, ?_⟩
  refine List.forall_mem_cons.mpr ⟨ok_icmpeq C (show decode cL_law 727 = .ok (.if_icmp .eq 741, 3) by decide +kernel) (tg := 1468) (by decide) rfl rfl, ?_⟩
  refine List.forall_mem_cons.mpr ⟨ok_iconst C (show decode cL_law 730 = .ok (.iconst 0, 1) by decide +kernel) (by decide) rfl, ?_⟩
  refine List.forall_mem_cons.mpr ⟨ok_lret C hb1 (show decode cL_law 731 = .ok (.ireturn, 1) by decide +kernel), ?_⟩
  refine List.forall_mem_cons.mpr ⟨ok_aload_n C (show decode cL_law 732 = .ok (.aload_n 1, 1) by decide +kernel) rfl rfl, ?_⟩
  refine List.forall_mem_cons.mpr ⟨ok_aload_n C (show decode cL_law 733 = .ok (.aload_n 0, 1) by decide +kernel) rfl rfl, ?_⟩
  refine List.forall_mem_cons.mpr ⟨ok_iload C (show decode cL_law 734 = .ok (.iload 4, 2) by decide +kernel) rfl, ?_⟩
  refine List.forall_mem_cons.mpr ⟨ok_iconst C (show decode cL_law 736 = .ok (.iconst 1, 1) by decide +kernel) (by decide) rfl, ?_⟩
  refine List.forall_mem_cons.mpr ⟨ok_iadd C (show decode cL_law 737 = .ok (.iadd, 1) by decide +kernel) rfl, ?_⟩
  refine List.forall_mem_cons.mpr ⟨ok_sld C hX hb0 hb1 (show decode cL_law 738 = .ok (.iaload, 1) by decide +kernel) rfl, ?_⟩
  refine List.forall_mem_cons.mpr ⟨ok_callV C h_X10_days ⟨rfl, rfl⟩ rfl kw_747 kw_744 kw_745 kw_746 kw_1 rfl ds_X10_days ⟨by decide, by decide⟩ (show decode cL_law 739 = .ok (.invokevirtual 81, 3) by decide +kernel) rfl, ?_⟩
  refine List.forall_mem_cons.mpr ⟨ok_aload_n C (show decode cL_law 742 = .ok (.aload_n 2, 1) by decide +kernel) rfl rfl, ?_⟩
  refine List.forall_mem_cons.mpr ⟨ok_aload_n C (show decode cL_law 743 = .ok (.aload_n 0, 1) by decide +kernel) rfl rfl, ?_⟩
  refine List.forall_mem_cons.mpr ⟨ok_iload C (show decode cL_law 744 = .ok (.iload 4, 2) by decide +kernel) rfl, ?_⟩
  refine List.forall_mem_cons.mpr ⟨ok_iconst C (show decode cL_law 746 = .ok (.iconst 1, 1) by decide +kernel) (by decide) rfl, ?_⟩
  refine List.forall_mem_cons.mpr ⟨ok_iadd C (show decode cL_law 747 = .ok (.iadd, 1) by decide +kernel) rfl, ?_⟩
  refine List.forall_mem_cons.mpr ⟨ok_sld C hX hb0 hb1 (show decode cL_law 748 = .ok (.iaload, 1) by decide +kernel) rfl, ?_⟩
  refine List.forall_mem_cons.mpr ⟨ok_callV C h_X11_days ⟨rfl, rfl⟩ rfl kw_1509 kw_1506 kw_1507 kw_1508 kw_11 rfl ds_X11_days ⟨by decide, by decide⟩ (show decode cL_law 749 = .ok (.invokevirtual 84, 3) by decide +kernel) rfl, ?_⟩
  refine List.forall_mem_cons.mpr ⟨ok_icmpeq C (show decode cL_law 752 = .ok (.if_icmp .eq 716, 3) by decide +kernel) (tg := 1468) (by decide) rfl rfl, ?_⟩
  refine List.forall_mem_cons.mpr ⟨ok_iconst C (show decode cL_law 755 = .ok (.iconst 0, 1) by decide +kernel) (by decide) rfl, ?_⟩
  refine List.forall_mem_cons.mpr ⟨ok_lret C hb1 (show decode cL_law 756 = .ok (.ireturn, 1) by decide +kernel), ?_⟩
  refine List.forall_mem_cons.mpr ⟨ok_aload_n C (show decode cL_law 757 = .ok (.aload_n 1, 1) by decide +kernel) rfl rfl, ?_⟩
  refine List.forall_mem_cons.mpr ⟨ok_callV C h_X10_undo ⟨rfl, rfl⟩ rfl kw_788 kw_785 kw_786 kw_787 kw_1 rfl ds_X10_undo ⟨by decide, by decide⟩ (show decode cL_law 758 = .ok (.invokevirtual 85, 3) by decide +kernel) rfl, ?_⟩
  refine List.forall_mem_cons.mpr ⟨ok_aload_n C (show decode cL_law 761 = .ok (.aload_n 2, 1) by decide +kernel) rfl rfl, ?_⟩
  refine List.forall_mem_cons.mpr ⟨ok_callV C h_X11_undo ⟨rfl, rfl⟩ rfl kw_1536 kw_1533 kw_1534 kw_1535 kw_11 rfl ds_X11_undo ⟨by decide, by decide⟩ (show decode cL_law 762 = .ok (.invokevirtual 88, 3) by decide +kernel) rfl, ?_⟩
  refine List.forall_mem_cons.mpr ⟨ok_icmpeq C (show decode cL_law 765 = .ok (.if_icmp .eq 703, 3) by decide +kernel) (tg := 1468) (by decide) rfl rfl, ?_⟩
  refine List.forall_mem_cons.mpr ⟨ok_iconst C (show decode cL_law 768 = .ok (.iconst 0, 1) by decide +kernel) (by decide) rfl, ?_⟩
  refine List.forall_mem_cons.mpr ⟨ok_lret C hb1 (show decode cL_law 769 = .ok (.ireturn, 1) by decide +kernel), ?_⟩
  refine List.forall_mem_cons.mpr ⟨ok_aload_n C (show decode cL_law 770 = .ok (.aload_n 1, 1) by decide +kernel) rfl rfl, ?_⟩
  refine List.forall_mem_cons.mpr ⟨ok_aload_n C (show decode cL_law 771 = .ok (.aload_n 0, 1) by decide +kernel) rfl rfl, ?_⟩
  refine List.forall_mem_cons.mpr ⟨ok_iload C (show decode cL_law 772 = .ok (.iload 4, 2) by decide +kernel) rfl, ?_⟩
  refine List.forall_mem_cons.mpr ⟨ok_iconst C (show decode cL_law 774 = .ok (.iconst 1, 1) by decide +kernel) (by decide) rfl, ?_⟩
  refine List.forall_mem_cons.mpr ⟨ok_iadd C (show decode cL_law 775 = .ok (.iadd, 1) by decide +kernel) rfl, ?_⟩
  refine List.forall_mem_cons.mpr ⟨ok_sld C hX hb0 hb1 (show decode cL_law 776 = .ok (.iaload, 1) by decide +kernel) rfl, ?_⟩
  refine List.forall_mem_cons.mpr ⟨ok_callV C h_X10_lacks ⟨rfl, rfl⟩ rfl kw_656 kw_653 kw_654 kw_655 kw_1 rfl ds_X10_lacks ⟨by decide, by decide⟩ (show decode cL_law 777 = .ok (.invokevirtual 89, 3) by decide +kernel) rfl, ?_⟩
  refine List.forall_mem_cons.mpr ⟨ok_aload_n C (show decode cL_law 780 = .ok (.aload_n 2, 1) by decide +kernel) rfl rfl, ?_⟩
  refine List.forall_mem_cons.mpr ⟨ok_aload_n C (show decode cL_law 781 = .ok (.aload_n 0, 1) by decide +kernel) rfl rfl, ?_⟩
  refine List.forall_mem_cons.mpr ⟨ok_iload C (show decode cL_law 782 = .ok (.iload 4, 2) by decide +kernel) rfl, ?_⟩
  refine List.forall_mem_cons.mpr ⟨ok_iconst C (show decode cL_law 784 = .ok (.iconst 1, 1) by decide +kernel) (by decide) rfl, ?_⟩
  refine List.forall_mem_cons.mpr ⟨ok_iadd C (show decode cL_law 785 = .ok (.iadd, 1) by decide +kernel) rfl, ?_⟩
  refine List.forall_mem_cons.mpr ⟨ok_sld C hX hb0 hb1 (show decode cL_law 786 = .ok (.iaload, 1) by decide +kernel) rfl, ?_⟩
  refine List.forall_mem_cons.mpr ⟨ok_callV C h_X11_lacks ⟨rfl, rfl⟩ rfl kw_1540 kw_1537 kw_1538 kw_1539 kw_11 rfl ds_X11_lacks ⟨by decide, by decide⟩ (show decode cL_law 787 = .ok (.invokevirtual 92, 3) by decide +kernel) rfl, ?_⟩
  refine List.forall_mem_cons.mpr ⟨ok_icmpeq C (show decode cL_law 790 = .ok (.if_icmp .eq 678, 3) by decide +kernel) (tg := 1468) (by decide) rfl rfl, ?_⟩
  refine List.forall_mem_cons.mpr ⟨ok_iconst C (show decode cL_law 793 = .ok (.iconst 0, 1) by decide +kernel) (by decide) rfl, ?_⟩
  refine List.forall_mem_cons.mpr ⟨ok_lret C hb1 (show decode cL_law 794 = .ok (.ireturn, 1) by decide +kernel), ?_⟩
  refine List.forall_mem_cons.mpr ⟨ok_aload_n C (show decode cL_law 795 = .ok (.aload_n 1, 1) by decide +kernel) rfl rfl, ?_⟩
  refine List.forall_mem_cons.mpr ⟨ok_aload_n C (show decode cL_law 796 = .ok (.aload_n 0, 1) by decide +kernel) rfl rfl, ?_⟩
  refine List.forall_mem_cons.mpr ⟨ok_iload C (show decode cL_law 797 = .ok (.iload 4, 2) by decide +kernel) rfl, ?_⟩
  refine List.forall_mem_cons.mpr ⟨ok_iconst C (show decode cL_law 799 = .ok (.iconst 1, 1) by decide +kernel) (by decide) rfl, ?_⟩
  refine List.forall_mem_cons.mpr ⟨ok_iadd C (show decode cL_law 800 = .ok (.iadd, 1) by decide +kernel) rfl, ?_⟩
  refine List.forall_mem_cons.mpr ⟨ok_sld C hX hb0 hb1 (show decode cL_law 801 = .ok (.iaload, 1) by decide +kernel) rfl, ?_⟩
  refine List.forall_mem_cons.mpr ⟨ok_callV C h_X10_falses ⟨rfl, rfl⟩ rfl kw_660 kw_657 kw_658 kw_659 kw_1 rfl ds_X10_falses ⟨by decide, by decide⟩ (show decode cL_law 802 = .ok (.invokevirtual 93, 3) by decide +kernel) rfl, ?_⟩
  refine List.forall_mem_cons.mpr ⟨ok_aload_n C (show decode cL_law 805 = .ok (.aload_n 2, 1) by decide +kernel) rfl rfl, ?_⟩
  refine List.forall_mem_cons.mpr ⟨ok_aload_n C (show decode cL_law 806 = .ok (.aload_n 0, 1) by decide +kernel) rfl rfl, ?_⟩
  refine List.forall_mem_cons.mpr ⟨ok_iload C (show decode cL_law 807 = .ok (.iload 4, 2) by decide +kernel) rfl, ?_⟩
  refine List.forall_mem_cons.mpr ⟨ok_iconst C (show decode cL_law 809 = .ok (.iconst 1, 1) by decide +kernel) (by decide) rfl, ?_⟩
  refine List.forall_mem_cons.mpr ⟨ok_iadd C (show decode cL_law 810 = .ok (.iadd, 1) by decide +kernel) rfl, ?_⟩
  refine List.forall_mem_cons.mpr ⟨ok_sld C hX hb0 hb1 (show decode cL_law 811 = .ok (.iaload, 1) by decide +kernel) rfl, ?_⟩
  refine List.forall_mem_cons.mpr ⟨ok_callV C h_X11_falses ⟨rfl, rfl⟩ rfl kw_1544 kw_1541 kw_1542 kw_1543 kw_11 rfl ds_X11_falses ⟨by decide, by decide⟩ (show decode cL_law 812 = .ok (.invokevirtual 96, 3) by decide +kernel) rfl, ?_⟩
  refine List.forall_mem_cons.mpr ⟨ok_icmpeq C (show decode cL_law 815 = .ok (.if_icmp .eq 653, 3) by decide +kernel) (tg := 1468) (by decide) rfl rfl, ?_⟩
  exact fun _ h => absurd h List.not_mem_nil
def L_law_5 (xs : Nat → Int32) (n : Nat) (f_X10_going : List Value → ab_H → Option ab_O) (f_X11_going : List Value → ab_H → Option ab_O) (f_X10_goes : List Value → ab_H → Option ab_O) (f_X11_goes : List Value → ab_H → Option ab_O) (f_X10_crosses : List Value → ab_H → Option ab_O) (f_X11_crosses : List Value → ab_H → Option ab_O) (f_X10_comes : List Value → ab_H → Option ab_O) (f_X11_comes : List Value → ab_H → Option ab_O) : List (Nat × ab_A) := [
  (818, ab_nx 819 (ab_lit (.int 0))),
  (819, ab_lret),
  (820, ab_nx 821 (ab_aload 1)),
  (821, ab_nx 824 (ab_callV 1 10 f_X10_going 0 0 600002 7302231)),
  (824, ab_nx 825 (ab_aload 2)),
  (825, ab_nx 828 (ab_callV 1 11 f_X11_going 0 0 600002 7302231)),
  (828, ab_icmp 831 1468 (fun x y => decide (x = y))),
  (831, ab_nx 832 (ab_lit (.int 0))),
  (832, ab_lret),
  (833, ab_nx 834 (ab_aload 1)),
  (834, ab_nx 835 (ab_aload 0)),
  (835, ab_nx 837 (ab_iload 4)),
  (837, ab_nx 838 (ab_lit (.int 1))),
  (838, ab_nx 839 (ab_bin (fun x y => x + y))),
  (839, ab_nx 840 (ab_sld xs n)),
  (840, ab_nx 843 (ab_callV 2 10 f_X10_goes 0 0 600002 7302231)),
  (843, ab_nx 844 (ab_aload 2)),
  (844, ab_nx 845 (ab_aload 0)),
  (845, ab_nx 847 (ab_iload 4)),
  (847, ab_nx 848 (ab_lit (.int 1))),
  (848, ab_nx 849 (ab_bin (fun x y => x + y))),
  (849, ab_nx 850 (ab_sld xs n)),
  (850, ab_nx 853 (ab_callV 2 11 f_X11_goes 0 0 600002 7302231)),
  (853, ab_icmp 856 1468 (fun x y => decide (x = y))),
  (856, ab_nx 857 (ab_lit (.int 0))),
  (857, ab_lret),
  (858, ab_nx 859 (ab_aload 1)),
  (859, ab_nx 860 (ab_aload 0)),
  (860, ab_nx 862 (ab_iload 4)),
  (862, ab_nx 863 (ab_lit (.int 1))),
  (863, ab_nx 864 (ab_bin (fun x y => x + y))),
  (864, ab_nx 865 (ab_sld xs n)),
  (865, ab_nx 868 (ab_callV 2 10 f_X10_crosses 0 0 600002 7302231)),
  (868, ab_nx 869 (ab_aload 2)),
  (869, ab_nx 870 (ab_aload 0)),
  (870, ab_nx 872 (ab_iload 4)),
  (872, ab_nx 873 (ab_lit (.int 1))),
  (873, ab_nx 874 (ab_bin (fun x y => x + y))),
  (874, ab_nx 875 (ab_sld xs n)),
  (875, ab_nx 878 (ab_callV 2 11 f_X11_crosses 0 0 600002 7302231)),
  (878, ab_icmp 881 1468 (fun x y => decide (x = y))),
  (881, ab_nx 882 (ab_lit (.int 0))),
  (882, ab_lret),
  (883, ab_nx 884 (ab_aload 1)),
  (884, ab_nx 885 (ab_aload 0)),
  (885, ab_nx 887 (ab_iload 4)),
  (887, ab_nx 888 (ab_lit (.int 1))),
  (888, ab_nx 889 (ab_bin (fun x y => x + y))),
  (889, ab_nx 890 (ab_sld xs n)),
  (890, ab_nx 891 (ab_aload 0)),
  (891, ab_nx 893 (ab_iload 4)),
  (893, ab_nx 894 (ab_lit (.int 2))),
  (894, ab_nx 895 (ab_bin (fun x y => x + y))),
  (895, ab_nx 896 (ab_sld xs n)),
  (896, ab_nx 899 (ab_callV 3 10 f_X10_comes 0 0 600002 7302231)),
  (899, ab_nx 900 (ab_aload 2)),
  (900, ab_nx 901 (ab_aload 0)),
  (901, ab_nx 903 (ab_iload 4)),
  (903, ab_nx 904 (ab_lit (.int 1))),
  (904, ab_nx 905 (ab_bin (fun x y => x + y))),
  (905, ab_nx 906 (ab_sld xs n)),
  (906, ab_nx 907 (ab_aload 0)),
  (907, ab_nx 909 (ab_iload 4)),
  (909, ab_nx 910 (ab_lit (.int 2))),
  (910, ab_nx 911 (ab_bin (fun x y => x + y))),
  (911, ab_nx 912 (ab_sld xs n)),
  (912, ab_nx 915 (ab_callV 3 11 f_X11_comes 0 0 600002 7302231)),
  (915, ab_icmp 918 1468 (fun x y => decide (x = y))),
  (918, ab_nx 919 (ab_lit (.int 0))),
  (919, ab_lret),
  (920, ab_nx 921 (ab_aload 1)),
  (921, ab_nx 922 (ab_aload 0)),
  (922, ab_nx 924 (ab_iload 4)),
  (924, ab_nx 925 (ab_lit (.int 1))),
  (925, ab_nx 926 (ab_bin (fun x y => x + y))),
  (926, ab_nx 927 (ab_sld xs n)),
  (927, ab_nx 928 (ab_aload 0)),
  (928, ab_nx 930 (ab_iload 4)),
  (930, ab_nx 931 (ab_lit (.int 2))),
  (931, ab_nx 932 (ab_bin (fun x y => x + y))),
  (932, ab_nx 933 (ab_sld xs n)),
  (933, ab_nx 934 (ab_aload 0)),
  (934, ab_nx 936 (ab_iload 4)),
  (936, ab_nx 937 (ab_lit (.int 3))),
  (937, ab_nx 938 (ab_bin (fun x y => x + y))),
  (938, ab_nx 939 (ab_sld xs n)),
  (939, ab_nx 940 (ab_aload 0)),
  (940, ab_nx 942 (ab_iload 4)),
  (942, ab_nx 943 (ab_lit (.int 4))),
  (943, ab_nx 944 (ab_bin (fun x y => x + y)))]
set_option maxRecDepth 100000 in
set_option maxHeartbeats 4000000 in
theorem law_5 {p : Program} {l : Launch} {e : Env} {s : State} {m : MethodId} {below : List Frame} {meth : Method} {c : Code} {cd : Cond} {b : ab_B} {D : va_G} {cA : Nat → ClassId} {o : ab_O} {xs : Nat → Int32} {n bb : Nat} {nm : String} (C : ab_cx p l e room_1 s m #[Value.ref bb] below meth c D ab_cl cA (ab_E0 b) (⟨RL, nm, "([I)Z"⟩ : MethodName) cL_law 7 ret (cd :: ab_G) room_1) (hX : va_X bb n xs s s.heap) (hb0 : b.2 0 = bb) (hb1 : b.1 = s.heap.size ∧ bb < s.heap.size) {f_X10_going : List Value → ab_H → Option ab_O} (h_X10_going : ab_M l b D ab_cl cA (ab_E0 b) yX10_going (Cond.code yX10_going cX10_going 1 (some .int) :: ab_G) ({ frames := 5, cells := 0, slots := 0, locals := 500 } : Room) f_X10_going) {f_X11_going : List Value → ab_H → Option ab_O} (h_X11_going : ab_M l b D ab_cl cA (ab_E0 b) yX11_going (Cond.code yX11_going cX11_going 1 (some .int) :: ab_G) ({ frames := 7, cells := 0, slots := 0, locals := 700 } : Room) f_X11_going) {f_X10_goes : List Value → ab_H → Option ab_O} (h_X10_goes : ab_M l b D ab_cl cA (ab_E0 b) yX10_goes (Cond.code yX10_goes cX10_goes 2 (some .int) :: ab_G) ({ frames := 5, cells := 0, slots := 0, locals := 500 } : Room) f_X10_goes) {f_X11_goes : List Value → ab_H → Option ab_O} (h_X11_goes : ab_M l b D ab_cl cA (ab_E0 b) yX11_goes (Cond.code yX11_goes cX11_goes 3 (some .int) :: ab_G) ({ frames := 7, cells := 0, slots := 0, locals := 700 } : Room) f_X11_goes) {f_X10_crosses : List Value → ab_H → Option ab_O} (h_X10_crosses : ab_M l b D ab_cl cA (ab_E0 b) yX10_crosses (Cond.code yX10_crosses cX10_crosses 4 (some .int) :: ab_G) ({ frames := 6, cells := 0, slots := 0, locals := 600 } : Room) f_X10_crosses) {f_X11_crosses : List Value → ab_H → Option ab_O} (h_X11_crosses : ab_M l b D ab_cl cA (ab_E0 b) yX11_crosses (Cond.code yX11_crosses cX11_crosses 5 (some .int) :: ab_G) ({ frames := 9, cells := 0, slots := 0, locals := 900 } : Room) f_X11_crosses) {f_X10_comes : List Value → ab_H → Option ab_O} (h_X10_comes : ab_M l b D ab_cl cA (ab_E0 b) yX10_comes (Cond.code yX10_comes cX10_comes 6 (some .int) :: ab_G) ({ frames := 6, cells := 0, slots := 0, locals := 600 } : Room) f_X10_comes) {f_X11_comes : List Value → ab_H → Option ab_O} (h_X11_comes : ab_M l b D ab_cl cA (ab_E0 b) yX11_comes (Cond.code yX11_comes cX11_comes 6 (some .int) :: ab_G) ({ frames := 9, cells := 0, slots := 0, locals := 900 } : Room) f_X11_comes) : ∀ q ∈ L_law_5 xs n f_X10_going f_X11_going f_X10_goes f_X11_goes f_X10_crosses f_X11_crosses f_X10_comes f_X11_comes, ab_ok p l e room_1 s m #[Value.ref bb] below meth c (lw_Z below #[Value.ref bb] s) b D ab_cl cA 7 o (fun i => i) q.1 q.2 := by
  unfold L_law_5
  refine List.forall_mem_cons.mpr ⟨ok_iconst C (show decode cL_law 818 = .ok (.iconst 0, 1) by decide +kernel) (by decide) rfl, ?_⟩
  refine List.forall_mem_cons.mpr ⟨ok_lret C hb1 (show decode cL_law 819 = .ok (.ireturn, 1) by decide +kernel), ?_⟩
  refine List.forall_mem_cons.mpr ⟨ok_aload_n C (show decode cL_law 820 = .ok (.aload_n 1, 1) by decide +kernel) rfl rfl, ?_⟩
  refine List.forall_mem_cons.mpr ⟨ok_callV C h_X10_going ⟨rfl, rfl⟩ rfl kw_796 kw_793 kw_794 kw_795 kw_1 rfl ds_X10_going ⟨by decide, by decide⟩ (show decode cL_law 821 = .ok (.invokevirtual 97, 3) by decide +kernel) rfl, ?_⟩
  refine List.forall_mem_cons.mpr ⟨ok_aload_n C (show decode cL_law 824 = .ok (.aload_n 2, 1) by decide +kernel) rfl rfl, ?_⟩
  refine List.forall_mem_cons.mpr ⟨ok_callV C h_X11_going ⟨rfl, rfl⟩ rfl kw_1548 kw_1545 kw_1546 kw_1547 kw_11 rfl ds_X11_going ⟨by decide, by decide⟩ (show decode cL_law 825 = .ok (.invokevirtual 100, 3) by decide +kernel) rfl, ?_⟩
  refine List.forall_mem_cons.mpr ⟨ok_icmpeq C (show decode cL_law 828 = .ok (.if_icmp .eq 640, 3) by decide +kernel) (tg := 1468) (by decide) rfl rfl, ?_⟩
  refine List.forall_mem_cons.mpr ⟨ok_iconst C (show decode cL_law 831 = .ok (.iconst 0, 1) by decide +kernel) (by decide) rfl, ?_⟩
  refine List.forall_mem_cons.mpr ⟨ok_lret C hb1 (show decode cL_law 832 = .ok (.ireturn, 1) by decide +kernel), ?_⟩
  refine List.forall_mem_cons.mpr ⟨ok_aload_n C (show decode cL_law 833 = .ok (.aload_n 1, 1) by decide +kernel) rfl rfl, ?_⟩
  refine List.forall_mem_cons.mpr ⟨ok_aload_n C (show decode cL_law 834 = .ok (.aload_n 0, 1) by decide +kernel) rfl rfl, ?_⟩
  refine List.forall_mem_cons.mpr ⟨ok_iload C (show decode cL_law 835 = .ok (.iload 4, 2) by decide +kernel) rfl, ?_⟩
  refine List.forall_mem_cons.mpr ⟨ok_iconst C (show decode cL_law 837 = .ok (.iconst 1, 1) by decide +kernel) (by decide) rfl, ?_⟩
  refine List.forall_mem_cons.mpr ⟨ok_iadd C (show decode cL_law 838 = .ok (.iadd, 1) by decide +kernel) rfl, ?_⟩
  refine List.forall_mem_cons.mpr ⟨ok_sld C hX hb0 hb1 (show decode cL_law 839 = .ok (.iaload, 1) by decide +kernel) rfl, ?_⟩
  refine List.forall_mem_cons.mpr ⟨ok_callV C h_X10_goes ⟨rfl, rfl⟩ rfl kw_801 kw_798 kw_799 kw_800 kw_1 rfl ds_X10_goes ⟨by decide, by decide⟩ (show decode cL_law 840 = .ok (.invokevirtual 101, 3) by decide +kernel) rfl, ?_⟩
  refine List.forall_mem_cons.mpr ⟨ok_aload_n C (show decode cL_law 843 = .ok (.aload_n 2, 1) by decide +kernel) rfl rfl, ?_⟩
  refine List.forall_mem_cons.mpr ⟨ok_aload_n C (show decode cL_law 844 = .ok (.aload_n 0, 1) by decide +kernel) rfl rfl, ?_⟩
  refine List.forall_mem_cons.mpr ⟨ok_iload C (show decode cL_law 845 = .ok (.iload 4, 2) by decide +kernel) rfl, ?_⟩
  refine List.forall_mem_cons.mpr ⟨ok_iconst C (show decode cL_law 847 = .ok (.iconst 1, 1) by decide +kernel) (by decide) rfl, ?_⟩
  refine List.forall_mem_cons.mpr ⟨ok_iadd C (show decode cL_law 848 = .ok (.iadd, 1) by decide +kernel) rfl, ?_⟩
  refine List.forall_mem_cons.mpr ⟨ok_sld C hX hb0 hb1 (show decode cL_law 849 = .ok (.iaload, 1) by decide +kernel) rfl, ?_⟩
  refine List.forall_mem_cons.mpr ⟨ok_callV C h_X11_goes ⟨rfl, rfl⟩ rfl kw_1552 kw_1549 kw_1550 kw_1551 kw_11 rfl ds_X11_goes ⟨by decide, by decide⟩ (show decode cL_law 850 = .ok (.invokevirtual 104, 3) by decide +kernel) rfl, ?_⟩
  refine List.forall_mem_cons.mpr ⟨ok_icmpeq C (show decode cL_law 853 = .ok (.if_icmp .eq 615, 3) by decide +kernel) (tg := 1468) (by decide) rfl rfl, ?_⟩
  refine List.forall_mem_cons.mpr ⟨ok_iconst C (show decode cL_law 856 = .ok (.iconst 0, 1) by decide +kernel) (by decide) rfl, ?_⟩
  refine List.forall_mem_cons.mpr ⟨ok_lret C hb1 (show decode cL_law 857 = .ok (.ireturn, 1) by decide +kernel), ?_⟩
  refine List.forall_mem_cons.mpr ⟨ok_aload_n C (show decode cL_law 858 = .ok (.aload_n 1, 1) by decide +kernel) rfl rfl, ?_⟩
  refine List.forall_mem_cons.mpr ⟨ok_aload_n C (show decode cL_law 859 = .ok (.aload_n 0, 1) by decide +kernel) rfl rfl, ?_⟩
  refine List.forall_mem_cons.mpr ⟨ok_iload C (show decode cL_law 860 = .ok (.iload 4, 2) by decide +kernel) rfl, ?_⟩
  refine List.forall_mem_cons.mpr ⟨ok_iconst C (show decode cL_law 862 = .ok (.iconst 1, 1) by decide +kernel) (by decide) rfl, ?_⟩
  refine List.forall_mem_cons.mpr ⟨ok_iadd C (show decode cL_law 863 = .ok (.iadd, 1) by decide +kernel) rfl, ?_⟩
  refine List.forall_mem_cons.mpr ⟨ok_sld C hX hb0 hb1 (show decode cL_law 864 = .ok (.iaload, 1) by decide +kernel) rfl, ?_⟩
  refine List.forall_mem_cons.mpr ⟨ok_callV C h_X10_crosses ⟨rfl, rfl⟩ rfl kw_805 kw_802 kw_803 kw_804 kw_1 rfl ds_X10_crosses ⟨by decide, by decide⟩ (show decode cL_law 865 = .ok (.invokevirtual 105, 3) by decide +kernel) rfl, ?_⟩
  refine List.forall_mem_cons.mpr ⟨ok_aload_n C (show decode cL_law 868 = .ok (.aload_n 2, 1) by decide +kernel) rfl rfl, ?_⟩
  refine List.forall_mem_cons.mpr ⟨ok_aload_n C (show decode cL_law 869 = .ok (.aload_n 0, 1) by decide +kernel) rfl rfl, ?_⟩
  refine List.forall_mem_cons.mpr ⟨ok_iload C (show decode cL_law 870 = .ok (.iload 4, 2) by decide +kernel) rfl, ?_⟩
  refine List.forall_mem_cons.mpr ⟨ok_iconst C (show decode cL_law 872 = .ok (.iconst 1, 1) by decide +kernel) (by decide) rfl, ?_⟩
  refine List.forall_mem_cons.mpr ⟨ok_iadd C (show decode cL_law 873 = .ok (.iadd, 1) by decide +kernel) rfl, ?_⟩
  refine List.forall_mem_cons.mpr ⟨ok_sld C hX hb0 hb1 (show decode cL_law 874 = .ok (.iaload, 1) by decide +kernel) rfl, ?_⟩
  refine List.forall_mem_cons.mpr ⟨ok_callV C h_X11_crosses ⟨rfl, rfl⟩ rfl kw_1556 kw_1553 kw_1554 kw_1555 kw_11 rfl ds_X11_crosses ⟨by decide, by decide⟩ (show decode cL_law 875 = .ok (.invokevirtual 108, 3) by decide +kernel) rfl, ?_⟩
  refine List.forall_mem_cons.mpr ⟨ok_icmpeq C (show decode cL_law 878 = .ok (.if_icmp .eq 590, 3) by decide +kernel) (tg := 1468) (by decide) rfl rfl, ?_⟩
  refine List.forall_mem_cons.mpr ⟨ok_iconst C (show decode cL_law 881 = .ok (.iconst 0, 1) by decide +kernel) (by decide) rfl, ?_⟩
  refine List.forall_mem_cons.mpr ⟨ok_lret C hb1 (show decode cL_law 882 = .ok (.ireturn, 1) by decide +kernel), ?_⟩
  refine List.forall_mem_cons.mpr ⟨ok_aload_n C (show decode cL_law 883 = .ok (.aload_n 1, 1) by decide +kernel) rfl rfl, ?_⟩
  refine List.forall_mem_cons.mpr ⟨ok_aload_n C (show decode cL_law 884 = .ok (.aload_n 0, 1) by decide +kernel) rfl rfl, ?_⟩
  refine List.forall_mem_cons.mpr ⟨ok_iload C (show decode cL_law 885 = .ok (.iload 4, 2) by decide +kernel) rfl, ?_⟩
  refine List.forall_mem_cons.mpr ⟨ok_iconst C (show decode cL_law 887 = .ok (.iconst 1, 1) by decide +kernel) (by decide) rfl, ?_⟩
  refine List.forall_mem_cons.mpr ⟨ok_iadd C (show decode cL_law 888 = .ok (.iadd, 1) by decide +kernel) rfl, ?_⟩
  refine List.forall_mem_cons.mpr ⟨ok_sld C hX hb0 hb1 (show decode cL_law 889 = .ok (.iaload, 1) by decide +kernel) rfl, ?_⟩
  refine List.forall_mem_cons.mpr ⟨ok_aload_n C (show decode cL_law 890 = .ok (.aload_n 0, 1) by decide +kernel) rfl rfl, ?_⟩
  refine List.forall_mem_cons.mpr ⟨ok_iload C (show decode cL_law 891 = .ok (.iload 4, 2) by decide +kernel) rfl, ?_⟩
  refine List.forall_mem_cons.mpr ⟨ok_iconst C (show decode cL_law 893 = .ok (.iconst 2, 1) by decide +kernel) (by decide) rfl, ?_⟩
  refine List.forall_mem_cons.mpr ⟨ok_iadd C (show decode cL_law 894 = .ok (.iadd, 1) by decide +kernel) rfl, ?_⟩
  refine List.forall_mem_cons.mpr ⟨ok_sld C hX hb0 hb1 (show decode cL_law 895 = .ok (.iaload, 1) by decide +kernel) rfl, ?_⟩
  refine List.forall_mem_cons.mpr ⟨ok_callV C h_X10_comes ⟨rfl, rfl⟩ rfl kw_810 kw_807 kw_808 kw_809 kw_1 rfl ds_X10_comes ⟨by decide, by decide⟩ (show decode cL_law 896 = .ok (.invokevirtual 109, 3) by decide +kernel) rfl, ?_⟩
  refine List.forall_mem_cons.mpr ⟨ok_aload_n C (show decode cL_law 899 = .ok (.aload_n 2, 1) by decide +kernel) rfl rfl, ?_⟩
  refine List.forall_mem_cons.mpr ⟨ok_aload_n C (show decode cL_law 900 = .ok (.aload_n 0, 1) by decide +kernel) rfl rfl, ?_⟩
  refine List.forall_mem_cons.mpr ⟨ok_iload C (show decode cL_law 901 = .ok (.iload 4, 2) by decide +kernel) rfl, ?_⟩
  refine List.forall_mem_cons.mpr ⟨ok_iconst C (show decode cL_law 903 = .ok (.iconst 1, 1) by decide +kernel) (by decide) rfl, ?_⟩
  refine List.forall_mem_cons.mpr ⟨ok_iadd C (show decode cL_law 904 = .ok (.iadd, 1) by decide +kernel) rfl, ?_⟩
  refine List.forall_mem_cons.mpr ⟨ok_sld C hX hb0 hb1 (show decode cL_law 905 = .ok (.iaload, 1) by decide +kernel) rfl, ?_⟩
  refine List.forall_mem_cons.mpr ⟨ok_aload_n C (show decode cL_law 906 = .ok (.aload_n 0, 1) by decide +kernel) rfl rfl, ?_⟩
  refine List.forall_mem_cons.mpr ⟨ok_iload C (show decode cL_law 907 = .ok (.iload 4, 2) by decide +kernel) rfl, ?_⟩
  refine List.forall_mem_cons.mpr ⟨ok_iconst C (show decode cL_law 909 = .ok (.iconst 2, 1) by decide +kernel) (by decide) rfl, ?_⟩
  refine List.forall_mem_cons.mpr ⟨ok_iadd C (show decode cL_law 910 = .ok (.iadd, 1) by decide +kernel) rfl, ?_⟩
  refine List.forall_mem_cons.mpr ⟨ok_sld C hX hb0 hb1 (show decode cL_law 911 = .ok (.iaload, 1) by decide +kernel) rfl, ?_⟩
  refine List.forall_mem_cons.mpr ⟨ok_callV C h_X11_comes ⟨rfl, rfl⟩ rfl kw_1568 kw_1565 kw_1566 kw_1567 kw_11 rfl ds_X11_comes ⟨by decide, by decide⟩ (show decode cL_law 912 = .ok (.invokevirtual 112, 3) by decide +kernel) rfl, ?_⟩
  refine List.forall_mem_cons.mpr ⟨ok_icmpeq C (show decode cL_law 915 = .ok (.if_icmp .eq 553, 3) by decide +kernel) (tg := 1468) (by decide) rfl rfl, ?_⟩
  refine List.forall_mem_cons.mpr ⟨ok_iconst C (show decode cL_law 918 = .ok (.iconst 0, 1) by decide +kernel) (by decide) rfl, ?_⟩
  refine List.forall_mem_cons.mpr ⟨ok_lret C hb1 (show decode cL_law 919 = .ok (.ireturn, 1) by decide +kernel), ?_⟩
  refine List.forall_mem_cons.mpr ⟨ok_aload_n C (show decode cL_law 920 = .ok (.aload_n 1, 1) by decide +kernel) rfl rfl, ?_⟩
  refine List.forall_mem_cons.mpr ⟨ok_aload_n C (show decode cL_law 921 = .ok (.aload_n 0, 1) by decide +kernel) rfl rfl, ?_⟩
  refine List.forall_mem_cons.mpr ⟨ok_iload C (show decode cL_law 922 = .ok (.iload 4, 2) by decide +kernel) rfl, ?_⟩
  refine List.forall_mem_cons.mpr ⟨ok_iconst C (show decode cL_law 924 = .ok (.iconst 1, 1) by decide +kernel) (by decide) rfl, ?_⟩
  refine List.forall_mem_cons.mpr ⟨ok_iadd C (show decode cL_law 925 = .ok (.iadd, 1) by decide +kernel) rfl, ?_⟩
  refine List.forall_mem_cons.mpr ⟨ok_sld C hX hb0 hb1 (show decode cL_law 926 = .ok (.iaload, 1) by decide +kernel) rfl, ?_⟩
  refine List.forall_mem_cons.mpr ⟨ok_aload_n C (show decode cL_law 927 = .ok (.aload_n 0, 1) by decide +kernel) rfl rfl, ?_⟩
  refine List.forall_mem_cons.mpr ⟨ok_iload C (show decode cL_law 928 = .ok (.iload 4, 2) by decide +kernel) rfl, ?_⟩
  refine List.forall_mem_cons.mpr ⟨ok_iconst C (show decode cL_law 930 = .ok (.iconst 2, 1) by decide +kernel) (by decide) rfl, ?_⟩
  refine List.forall_mem_cons.mpr ⟨ok_iadd C (show decode cL_law 931 = .ok (.iadd, 1) by decide +kernel) rfl, ?_⟩
  refine List.forall_mem_cons.mpr ⟨ok_sld C hX hb0 hb1 (show decode cL_law 932 = .ok (.iaload, 1) by decide +kernel) rfl, ?_⟩
  refine List.forall_mem_cons.mpr ⟨ok_aload_n C (show decode cL_law 933 = .ok (.aload_n 0, 1) by decide +kernel) rfl rfl, ?_⟩
  refine List.forall_mem_cons.mpr ⟨ok_iload C (show decode cL_law 934 = .ok (.iload 4, 2) by decide +kernel) rfl, ?_⟩
  refine List.forall_mem_cons.mpr ⟨ok_iconst C (show decode cL_law 936 = .ok (.iconst 3, 1) by decide +kernel) (by decide) rfl, ?_⟩
  refine List.forall_mem_cons.mpr ⟨ok_iadd C (show decode cL_law 937 = .ok (.iadd, 1) by decide +kernel) rfl, ?_⟩
  refine List.forall_mem_cons.mpr ⟨ok_sld C hX hb0 hb1 (show decode cL_law 938 = .ok (.iaload, 1) by decide +kernel) rfl, ?_⟩
  refine List.forall_mem_cons.mpr ⟨ok_aload_n C (show decode cL_law 939 = .ok (.aload_n 0, 1) by decide +kernel) rfl rfl, ?_⟩
  refine List.forall_mem_cons.mpr ⟨ok_iload C (show decode cL_law 940 = .ok (.iload 4, 2) by decide +kernel) rfl, ?_⟩
  refine List.forall_mem_cons.mpr ⟨ok_iconst C (show decode cL_law 942 = .ok (.iconst 4, 1) by decide +kernel) (by decide) rfl, ?_⟩
  refine List.forall_mem_cons.mpr ⟨ok_iadd C (show decode cL_law 943 = .ok (.iadd, 1) by decide +kernel) rfl, ?_⟩
  exact fun _ h => absurd h List.not_mem_nil
def L_law_6 (xs : Nat → Int32) (n : Nat) (f_X10_without : List Value → ab_H → Option ab_O) (f_X11_without : List Value → ab_H → Option ab_O) (f_X10_meet : List Value → ab_H → Option ab_O) (f_X11_meet : List Value → ab_H → Option ab_O) (f_X10_loads : List Value → ab_H → Option ab_O) (f_X11_loads : List Value → ab_H → Option ab_O) (f_X10_which : List Value → ab_H → Option ab_O) (f_X11_which : List Value → ab_H → Option ab_O) (f_X10_settles : List Value → ab_H → Option ab_O) (f_X11_settles : List Value → ab_H → Option ab_O) : List (Nat × ab_A) := [
  (944, ab_nx 945 (ab_sld xs n)),
  (945, ab_nx 948 (ab_callV 5 10 f_X10_without 0 0 600002 7302231)),
  (948, ab_nx 949 (ab_aload 2)),
  (949, ab_nx 950 (ab_aload 0)),
  (950, ab_nx 952 (ab_iload 4)),
  (952, ab_nx 953 (ab_lit (.int 1))),
  (953, ab_nx 954 (ab_bin (fun x y => x + y))),
  (954, ab_nx 955 (ab_sld xs n)),
  (955, ab_nx 956 (ab_aload 0)),
  (956, ab_nx 958 (ab_iload 4)),
  (958, ab_nx 959 (ab_lit (.int 2))),
  (959, ab_nx 960 (ab_bin (fun x y => x + y))),
  (960, ab_nx 961 (ab_sld xs n)),
  (961, ab_nx 962 (ab_aload 0)),
  (962, ab_nx 964 (ab_iload 4)),
  (964, ab_nx 965 (ab_lit (.int 3))),
  (965, ab_nx 966 (ab_bin (fun x y => x + y))),
  (966, ab_nx 967 (ab_sld xs n)),
  (967, ab_nx 968 (ab_aload 0)),
  (968, ab_nx 970 (ab_iload 4)),
  (970, ab_nx 971 (ab_lit (.int 4))),
  (971, ab_nx 972 (ab_bin (fun x y => x + y))),
  (972, ab_nx 973 (ab_sld xs n)),
  (973, ab_nx 976 (ab_callV 5 11 f_X11_without 0 0 600002 7302231)),
  (976, ab_icmp 979 1468 (fun x y => decide (x = y))),
  (979, ab_nx 980 (ab_lit (.int 0))),
  (980, ab_lret),
  (981, ab_nx 982 (ab_aload 1)),
  (982, ab_nx 983 (ab_aload 0)),
  (983, ab_nx 985 (ab_iload 4)),
  (985, ab_nx 986 (ab_lit (.int 1))),
  (986, ab_nx 987 (ab_bin (fun x y => x + y))),
  (987, ab_nx 988 (ab_sld xs n)),
  (988, ab_nx 989 (ab_aload 0)),
  (989, ab_nx 991 (ab_iload 4)),
  (991, ab_nx 992 (ab_lit (.int 2))),
  (992, ab_nx 993 (ab_bin (fun x y => x + y))),
  (993, ab_nx 994 (ab_sld xs n)),
  (994, ab_nx 997 (ab_callV 3 10 f_X10_meet 0 0 600002 7302231)),
  (997, ab_nx 998 (ab_aload 2)),
  (998, ab_nx 999 (ab_aload 0)),
  (999, ab_nx 1001 (ab_iload 4)),
  (1001, ab_nx 1002 (ab_lit (.int 1))),
  (1002, ab_nx 1003 (ab_bin (fun x y => x + y))),
  (1003, ab_nx 1004 (ab_sld xs n)),
  (1004, ab_nx 1005 (ab_aload 0)),
  (1005, ab_nx 1007 (ab_iload 4)),
  (1007, ab_nx 1008 (ab_lit (.int 2))),
  (1008, ab_nx 1009 (ab_bin (fun x y => x + y))),
  (1009, ab_nx 1010 (ab_sld xs n)),
  (1010, ab_nx 1013 (ab_callV 3 11 f_X11_meet 0 0 600002 7302231)),
  (1013, ab_icmp 1016 1468 (fun x y => decide (x = y))),
  (1016, ab_nx 1017 (ab_lit (.int 0))),
  (1017, ab_lret),
  (1018, ab_nx 1019 (ab_aload 1)),
  (1019, ab_nx 1020 (ab_aload 0)),
  (1020, ab_nx 1022 (ab_iload 4)),
  (1022, ab_nx 1023 (ab_lit (.int 1))),
  (1023, ab_nx 1024 (ab_bin (fun x y => x + y))),
  (1024, ab_nx 1025 (ab_sld xs n)),
  (1025, ab_nx 1028 (ab_callV 2 10 f_X10_loads 0 0 600002 7302231)),
  (1028, ab_nx 1029 (ab_aload 2)),
  (1029, ab_nx 1030 (ab_aload 0)),
  (1030, ab_nx 1032 (ab_iload 4)),
  (1032, ab_nx 1033 (ab_lit (.int 1))),
  (1033, ab_nx 1034 (ab_bin (fun x y => x + y))),
  (1034, ab_nx 1035 (ab_sld xs n)),
  (1035, ab_nx 1038 (ab_callV 2 11 f_X11_loads 0 0 600002 7302231)),
  (1038, ab_icmp 1041 1468 (fun x y => decide (x = y))),
  (1041, ab_nx 1042 (ab_lit (.int 0))),
  (1042, ab_lret),
  (1043, ab_nx 1044 (ab_aload 1)),
  (1044, ab_nx 1047 (ab_callV 1 10 f_X10_which 0 0 600002 7302231)),
  (1047, ab_nx 1048 (ab_aload 2)),
  (1048, ab_nx 1051 (ab_callV 1 11 f_X11_which 0 0 600002 7302231)),
  (1051, ab_icmp 1054 1468 (fun x y => decide (x = y))),
  (1054, ab_nx 1055 (ab_lit (.int 0))),
  (1055, ab_lret),
  (1056, ab_nx 1057 (ab_aload 1)),
  (1057, ab_nx 1060 (ab_callV 1 10 f_X10_settles 0 0 600002 7302231)),
  (1060, ab_nx 1061 (ab_aload 2)),
  (1061, ab_nx 1064 (ab_callV 1 11 f_X11_settles 0 0 600002 7302231)),
  (1064, ab_icmp 1067 1468 (fun x y => decide (x = y))),
  (1067, ab_nx 1068 (ab_lit (.int 0))),
  (1068, ab_lret),
  (1069, ab_nx 1070 (ab_aload 1)),
  (1070, ab_nx 1071 (ab_aload 0)),
  (1071, ab_nx 1073 (ab_iload 4)),
  (1073, ab_nx 1074 (ab_lit (.int 1))),
  (1074, ab_nx 1075 (ab_bin (fun x y => x + y)))]
set_option maxRecDepth 100000 in
set_option maxHeartbeats 4000000 in
theorem law_6 {p : Program} {l : Launch} {e : Env} {s : State} {m : MethodId} {below : List Frame} {meth : Method} {c : Code} {cd : Cond} {b : ab_B} {D : va_G} {cA : Nat → ClassId} {o : ab_O} {xs : Nat → Int32} {n bb : Nat} {nm : String} (C : ab_cx p l e room_1 s m #[Value.ref bb] below meth c D ab_cl cA (ab_E0 b) (⟨RL, nm, "([I)Z"⟩ : MethodName) cL_law 7 ret (cd :: ab_G) room_1) (hX : va_X bb n xs s s.heap) (hb0 : b.2 0 = bb) (hb1 : b.1 = s.heap.size ∧ bb < s.heap.size) {f_X10_without : List Value → ab_H → Option ab_O} (h_X10_without : ab_M l b D ab_cl cA (ab_E0 b) yX10_without (Cond.code yX10_without cX10_without 8 (some .int) :: ab_G) ({ frames := 7, cells := 0, slots := 0, locals := 700 } : Room) f_X10_without) {f_X11_without : List Value → ab_H → Option ab_O} (h_X11_without : ab_M l b D ab_cl cA (ab_E0 b) yX11_without (Cond.code yX11_without cX11_without 10 (some .int) :: ab_G) ({ frames := 9, cells := 0, slots := 0, locals := 900 } : Room) f_X11_without) {f_X10_meet : List Value → ab_H → Option ab_O} (h_X10_meet : ab_M l b D ab_cl cA (ab_E0 b) yX10_meet (Cond.code yX10_meet cX10_meet 4 (some .int) :: ab_G) ({ frames := 6, cells := 0, slots := 0, locals := 600 } : Room) f_X10_meet) {f_X11_meet : List Value → ab_H → Option ab_O} (h_X11_meet : ab_M l b D ab_cl cA (ab_E0 b) yX11_meet (Cond.code yX11_meet cX11_meet 5 (some .int) :: ab_G) ({ frames := 9, cells := 0, slots := 0, locals := 900 } : Room) f_X11_meet) {f_X10_loads : List Value → ab_H → Option ab_O} (h_X10_loads : ab_M l b D ab_cl cA (ab_E0 b) yX10_loads (Cond.code yX10_loads cX10_loads 2 (some .int) :: ab_G) ({ frames := 6, cells := 0, slots := 0, locals := 600 } : Room) f_X10_loads) {f_X11_loads : List Value → ab_H → Option ab_O} (h_X11_loads : ab_M l b D ab_cl cA (ab_E0 b) yX11_loads (Cond.code yX11_loads cX11_loads 4 (some .int) :: ab_G) ({ frames := 9, cells := 0, slots := 0, locals := 900 } : Room) f_X11_loads) {f_X10_which : List Value → ab_H → Option ab_O} (h_X10_which : ab_M l b D ab_cl cA (ab_E0 b) yX10_which (Cond.code yX10_which cX10_which 6 (some .int) :: ab_G) ({ frames := 5, cells := 0, slots := 0, locals := 500 } : Room) f_X10_which) {f_X11_which : List Value → ab_H → Option ab_O} (h_X11_which : ab_M l b D ab_cl cA (ab_E0 b) yX11_which (Cond.code yX11_which cX11_which 7 (some .int) :: ab_G) ({ frames := 2, cells := 0, slots := 0, locals := 200 } : Room) f_X11_which) {f_X10_settles : List Value → ab_H → Option ab_O} (h_X10_settles : ab_M l b D ab_cl cA (ab_E0 b) yX10_settles (Cond.code yX10_settles cX10_settles 2 (some .int) :: ab_G) ({ frames := 6, cells := 0, slots := 0, locals := 600 } : Room) f_X10_settles) {f_X11_settles : List Value → ab_H → Option ab_O} (h_X11_settles : ab_M l b D ab_cl cA (ab_E0 b) yX11_settles (Cond.code yX11_settles cX11_settles 3 (some .int) :: ab_G) ({ frames := 9, cells := 0, slots := 0, locals := 900 } : Room) f_X11_settles) : ∀ q ∈ L_law_6 xs n f_X10_without f_X11_without f_X10_meet f_X11_meet f_X10_loads f_X11_loads f_X10_which f_X11_which f_X10_settles f_X11_settles, ab_ok p l e room_1 s m #[Value.ref bb] below meth c (lw_Z below #[Value.ref bb] s) b D ab_cl cA 7 o (fun i => i) q.1 q.2 := by
  unfold L_law_6
  refine List.forall_mem_cons.mpr ⟨ok_sld C hX hb0 hb1 (show decode cL_law 944 = .ok (.iaload, 1) by decide +kernel) rfl, ?_⟩
  refine List.forall_mem_cons.mpr ⟨ok_callV C h_X10_without ⟨rfl, rfl⟩ rfl kw_814 kw_811 kw_812 kw_813 kw_1 rfl ds_X10_without ⟨by decide, by decide⟩ (show decode cL_law 945 = .ok (.invokevirtual 113, 3) by decide +kernel) rfl, ?_⟩
  refine List.forall_mem_cons.mpr ⟨ok_aload_n C (show decode cL_law 948 = .ok (.aload_n 2, 1) by decide +kernel) rfl rfl, ?_⟩
  refine List.forall_mem_cons.mpr ⟨ok_aload_n C (show decode cL_law 949 = .ok (.aload_n 0, 1) by decide +kernel) rfl rfl, ?_⟩
  refine List.forall_mem_cons.mpr ⟨ok_iload C (show decode cL_law 950 = .ok (.iload 4, 2) by decide +kernel) rfl, ?_⟩
  refine List.forall_mem_cons.mpr ⟨ok_iconst C (show decode cL_law 952 = .ok (.iconst 1, 1) by decide +kernel) (by decide) rfl, ?_⟩
  refine List.forall_mem_cons.mpr ⟨ok_iadd C (show decode cL_law 953 = .ok (.iadd, 1) by decide +kernel) rfl, ?_⟩
  refine List.forall_mem_cons.mpr ⟨ok_sld C hX hb0 hb1 (show decode cL_law 954 = .ok (.iaload, 1) by decide +kernel) rfl, ?_⟩
  refine List.forall_mem_cons.mpr ⟨ok_aload_n C (show decode cL_law 955 = .ok (.aload_n 0, 1) by decide +kernel) rfl rfl, ?_⟩
  refine List.forall_mem_cons.mpr ⟨ok_iload C (show decode cL_law 956 = .ok (.iload 4, 2) by decide +kernel) rfl, ?_⟩
  refine List.forall_mem_cons.mpr ⟨ok_iconst C (show decode cL_law 958 = .ok (.iconst 2, 1) by decide +kernel) (by decide) rfl, ?_⟩
  refine List.forall_mem_cons.mpr ⟨ok_iadd C (show decode cL_law 959 = .ok (.iadd, 1) by decide +kernel) rfl, ?_⟩
  refine List.forall_mem_cons.mpr ⟨ok_sld C hX hb0 hb1 (show decode cL_law 960 = .ok (.iaload, 1) by decide +kernel) rfl, ?_⟩
  refine List.forall_mem_cons.mpr ⟨ok_aload_n C (show decode cL_law 961 = .ok (.aload_n 0, 1) by decide +kernel) rfl rfl, ?_⟩
  refine List.forall_mem_cons.mpr ⟨ok_iload C (show decode cL_law 962 = .ok (.iload 4, 2) by decide +kernel) rfl, ?_⟩
  refine List.forall_mem_cons.mpr ⟨ok_iconst C (show decode cL_law 964 = .ok (.iconst 3, 1) by decide +kernel) (by decide) rfl, ?_⟩
  refine List.forall_mem_cons.mpr ⟨ok_iadd C (show decode cL_law 965 = .ok (.iadd, 1) by decide +kernel) rfl, ?_⟩
  refine List.forall_mem_cons.mpr ⟨ok_sld C hX hb0 hb1 (show decode cL_law 966 = .ok (.iaload, 1) by decide +kernel) rfl, ?_⟩
  refine List.forall_mem_cons.mpr ⟨ok_aload_n C (show decode cL_law 967 = .ok (.aload_n 0, 1) by decide +kernel) rfl rfl, ?_⟩
  refine List.forall_mem_cons.mpr ⟨ok_iload C (show decode cL_law 968 = .ok (.iload 4, 2) by decide +kernel) rfl, ?_⟩
  refine List.forall_mem_cons.mpr ⟨ok_iconst C (show decode cL_law 970 = .ok (.iconst 4, 1) by decide +kernel) (by decide) rfl, ?_⟩
  refine List.forall_mem_cons.mpr ⟨ok_iadd C (show decode cL_law 971 = .ok (.iadd, 1) by decide +kernel) rfl, ?_⟩
  refine List.forall_mem_cons.mpr ⟨ok_sld C hX hb0 hb1 (show decode cL_law 972 = .ok (.iaload, 1) by decide +kernel) rfl, ?_⟩
  refine List.forall_mem_cons.mpr ⟨ok_callV C h_X11_without ⟨rfl, rfl⟩ rfl kw_1572 kw_1569 kw_1570 kw_1571 kw_11 rfl ds_X11_without ⟨by decide, by decide⟩ (show decode cL_law 973 = .ok (.invokevirtual 117, 3) by decide +kernel) rfl, ?_⟩
  refine List.forall_mem_cons.mpr ⟨ok_icmpeq C (show decode cL_law 976 = .ok (.if_icmp .eq 492, 3) by decide +kernel) (tg := 1468) (by decide) rfl rfl, ?_⟩
  refine List.forall_mem_cons.mpr ⟨ok_iconst C (show decode cL_law 979 = .ok (.iconst 0, 1) by decide +kernel) (by decide) rfl, ?_⟩
  refine List.forall_mem_cons.mpr ⟨ok_lret C hb1 (show decode cL_law 980 = .ok (.ireturn, 1) by decide +kernel), ?_⟩
  refine List.forall_mem_cons.mpr ⟨ok_aload_n C (show decode cL_law 981 = .ok (.aload_n 1, 1) by decide +kernel) rfl rfl, ?_⟩
  refine List.forall_mem_cons.mpr ⟨ok_aload_n C (show decode cL_law 982 = .ok (.aload_n 0, 1) by decide +kernel) rfl rfl, ?_⟩
  refine List.forall_mem_cons.mpr ⟨ok_iload C (show decode cL_law 983 = .ok (.iload 4, 2) by decide +kernel) rfl, ?_⟩
  refine List.forall_mem_cons.mpr ⟨ok_iconst C (show decode cL_law 985 = .ok (.iconst 1, 1) by decide +kernel) (by decide) rfl, ?_⟩
  refine List.forall_mem_cons.mpr ⟨ok_iadd C (show decode cL_law 986 = .ok (.iadd, 1) by decide +kernel) rfl, ?_⟩
  refine List.forall_mem_cons.mpr ⟨ok_sld C hX hb0 hb1 (show decode cL_law 987 = .ok (.iaload, 1) by decide +kernel) rfl, ?_⟩
  refine List.forall_mem_cons.mpr ⟨ok_aload_n C (show decode cL_law 988 = .ok (.aload_n 0, 1) by decide +kernel) rfl rfl, ?_⟩
  refine List.forall_mem_cons.mpr ⟨ok_iload C (show decode cL_law 989 = .ok (.iload 4, 2) by decide +kernel) rfl, ?_⟩
  refine List.forall_mem_cons.mpr ⟨ok_iconst C (show decode cL_law 991 = .ok (.iconst 2, 1) by decide +kernel) (by decide) rfl, ?_⟩
  refine List.forall_mem_cons.mpr ⟨ok_iadd C (show decode cL_law 992 = .ok (.iadd, 1) by decide +kernel) rfl, ?_⟩
  refine List.forall_mem_cons.mpr ⟨ok_sld C hX hb0 hb1 (show decode cL_law 993 = .ok (.iaload, 1) by decide +kernel) rfl, ?_⟩
  refine List.forall_mem_cons.mpr ⟨ok_callV C h_X10_meet ⟨rfl, rfl⟩ rfl kw_837 kw_834 kw_835 kw_836 kw_1 rfl ds_X10_meet ⟨by decide, by decide⟩ (show decode cL_law 994 = .ok (.invokevirtual 118, 3) by decide +kernel) rfl, ?_⟩
  refine List.forall_mem_cons.mpr ⟨ok_aload_n C (show decode cL_law 997 = .ok (.aload_n 2, 1) by decide +kernel) rfl rfl, ?_⟩
  refine List.forall_mem_cons.mpr ⟨ok_aload_n C (show decode cL_law 998 = .ok (.aload_n 0, 1) by decide +kernel) rfl rfl, ?_⟩
  refine List.forall_mem_cons.mpr ⟨ok_iload C (show decode cL_law 999 = .ok (.iload 4, 2) by decide +kernel) rfl, ?_⟩
  refine List.forall_mem_cons.mpr ⟨ok_iconst C (show decode cL_law 1001 = .ok (.iconst 1, 1) by decide +kernel) (by decide) rfl, ?_⟩
  refine List.forall_mem_cons.mpr ⟨ok_iadd C (show decode cL_law 1002 = .ok (.iadd, 1) by decide +kernel) rfl, ?_⟩
  refine List.forall_mem_cons.mpr ⟨ok_sld C hX hb0 hb1 (show decode cL_law 1003 = .ok (.iaload, 1) by decide +kernel) rfl, ?_⟩
  refine List.forall_mem_cons.mpr ⟨ok_aload_n C (show decode cL_law 1004 = .ok (.aload_n 0, 1) by decide +kernel) rfl rfl, ?_⟩
  refine List.forall_mem_cons.mpr ⟨ok_iload C (show decode cL_law 1005 = .ok (.iload 4, 2) by decide +kernel) rfl, ?_⟩
  refine List.forall_mem_cons.mpr ⟨ok_iconst C (show decode cL_law 1007 = .ok (.iconst 2, 1) by decide +kernel) (by decide) rfl, ?_⟩
  refine List.forall_mem_cons.mpr ⟨ok_iadd C (show decode cL_law 1008 = .ok (.iadd, 1) by decide +kernel) rfl, ?_⟩
  refine List.forall_mem_cons.mpr ⟨ok_sld C hX hb0 hb1 (show decode cL_law 1009 = .ok (.iaload, 1) by decide +kernel) rfl, ?_⟩
  refine List.forall_mem_cons.mpr ⟨ok_callV C h_X11_meet ⟨rfl, rfl⟩ rfl kw_1576 kw_1573 kw_1574 kw_1575 kw_11 rfl ds_X11_meet ⟨by decide, by decide⟩ (show decode cL_law 1010 = .ok (.invokevirtual 121, 3) by decide +kernel) rfl, ?_⟩
  refine List.forall_mem_cons.mpr ⟨ok_icmpeq C (show decode cL_law 1013 = .ok (.if_icmp .eq 455, 3) by decide +kernel) (tg := 1468) (by decide) rfl rfl, ?_⟩
  refine List.forall_mem_cons.mpr ⟨ok_iconst C (show decode cL_law 1016 = .ok (.iconst 0, 1) by decide +kernel) (by decide) rfl, ?_⟩
  refine List.forall_mem_cons.mpr ⟨ok_lret C hb1 (show decode cL_law 1017 = .ok (.ireturn, 1) by decide +kernel), ?_⟩
  refine List.forall_mem_cons.mpr ⟨ok_aload_n C (show decode cL_law 1018 = .ok (.aload_n 1, 1) by decide +kernel) rfl rfl, ?_⟩
  refine List.forall_mem_cons.mpr ⟨ok_aload_n C (show decode cL_law 1019 = .ok (.aload_n 0, 1) by decide +kernel) rfl rfl, ?_⟩
  refine List.forall_mem_cons.mpr ⟨ok_iload C (show decode cL_law 1020 = .ok (.iload 4, 2) by decide +kernel) rfl, ?_⟩
  refine List.forall_mem_cons.mpr ⟨ok_iconst C (show decode cL_law 1022 = .ok (.iconst 1, 1) by decide +kernel) (by decide) rfl, ?_⟩
  refine List.forall_mem_cons.mpr ⟨ok_iadd C (show decode cL_law 1023 = .ok (.iadd, 1) by decide +kernel) rfl, ?_⟩
  refine List.forall_mem_cons.mpr ⟨ok_sld C hX hb0 hb1 (show decode cL_law 1024 = .ok (.iaload, 1) by decide +kernel) rfl, ?_⟩
  refine List.forall_mem_cons.mpr ⟨ok_callV C h_X10_loads ⟨rfl, rfl⟩ rfl kw_841 kw_838 kw_839 kw_840 kw_1 rfl ds_X10_loads ⟨by decide, by decide⟩ (show decode cL_law 1025 = .ok (.invokevirtual 122, 3) by decide +kernel) rfl, ?_⟩
  refine List.forall_mem_cons.mpr ⟨ok_aload_n C (show decode cL_law 1028 = .ok (.aload_n 2, 1) by decide +kernel) rfl rfl, ?_⟩
  refine List.forall_mem_cons.mpr ⟨ok_aload_n C (show decode cL_law 1029 = .ok (.aload_n 0, 1) by decide +kernel) rfl rfl, ?_⟩
  refine List.forall_mem_cons.mpr ⟨ok_iload C (show decode cL_law 1030 = .ok (.iload 4, 2) by decide +kernel) rfl, ?_⟩
  refine List.forall_mem_cons.mpr ⟨ok_iconst C (show decode cL_law 1032 = .ok (.iconst 1, 1) by decide +kernel) (by decide) rfl, ?_⟩
  refine List.forall_mem_cons.mpr ⟨ok_iadd C (show decode cL_law 1033 = .ok (.iadd, 1) by decide +kernel) rfl, ?_⟩
  refine List.forall_mem_cons.mpr ⟨ok_sld C hX hb0 hb1 (show decode cL_law 1034 = .ok (.iaload, 1) by decide +kernel) rfl, ?_⟩
  refine List.forall_mem_cons.mpr ⟨ok_callV C h_X11_loads ⟨rfl, rfl⟩ rfl kw_1580 kw_1577 kw_1578 kw_1579 kw_11 rfl ds_X11_loads ⟨by decide, by decide⟩ (show decode cL_law 1035 = .ok (.invokevirtual 125, 3) by decide +kernel) rfl, ?_⟩
  refine List.forall_mem_cons.mpr ⟨ok_icmpeq C (show decode cL_law 1038 = .ok (.if_icmp .eq 430, 3) by decide +kernel) (tg := 1468) (by decide) rfl rfl, ?_⟩
  refine List.forall_mem_cons.mpr ⟨ok_iconst C (show decode cL_law 1041 = .ok (.iconst 0, 1) by decide +kernel) (by decide) rfl, ?_⟩
  refine List.forall_mem_cons.mpr ⟨ok_lret C hb1 (show decode cL_law 1042 = .ok (.ireturn, 1) by decide +kernel), ?_⟩
  refine List.forall_mem_cons.mpr ⟨ok_aload_n C (show decode cL_law 1043 = .ok (.aload_n 1, 1) by decide +kernel) rfl rfl, ?_⟩
  refine List.forall_mem_cons.mpr ⟨ok_callV C h_X10_which ⟨rfl, rfl⟩ rfl kw_857 kw_854 kw_855 kw_856 kw_1 rfl ds_X10_which ⟨by decide, by decide⟩ (show decode cL_law 1044 = .ok (.invokevirtual 126, 3) by decide +kernel) rfl, ?_⟩
  refine List.forall_mem_cons.mpr ⟨ok_aload_n C (show decode cL_law 1047 = .ok (.aload_n 2, 1) by decide +kernel) rfl rfl, ?_⟩
  refine List.forall_mem_cons.mpr ⟨ok_callV C h_X11_which ⟨rfl, rfl⟩ rfl kw_1584 kw_1581 kw_1582 kw_1583 kw_11 rfl ds_X11_which ⟨by decide, by decide⟩ (show decode cL_law 1048 = .ok (.invokevirtual 129, 3) by decide +kernel) rfl, ?_⟩
  refine List.forall_mem_cons.mpr ⟨ok_icmpeq C (show decode cL_law 1051 = .ok (.if_icmp .eq 417, 3) by decide +kernel) (tg := 1468) (by decide) rfl rfl, ?_⟩
  refine List.forall_mem_cons.mpr ⟨ok_iconst C (show decode cL_law 1054 = .ok (.iconst 0, 1) by decide +kernel) (by decide) rfl, ?_⟩
  refine List.forall_mem_cons.mpr ⟨ok_lret C hb1 (show decode cL_law 1055 = .ok (.ireturn, 1) by decide +kernel), ?_⟩
  refine List.forall_mem_cons.mpr ⟨ok_aload_n C (show decode cL_law 1056 = .ok (.aload_n 1, 1) by decide +kernel) rfl rfl, ?_⟩
  refine List.forall_mem_cons.mpr ⟨ok_callV C h_X10_settles ⟨rfl, rfl⟩ rfl kw_845 kw_842 kw_843 kw_844 kw_1 rfl ds_X10_settles ⟨by decide, by decide⟩ (show decode cL_law 1057 = .ok (.invokevirtual 130, 3) by decide +kernel) rfl, ?_⟩
  refine List.forall_mem_cons.mpr ⟨ok_aload_n C (show decode cL_law 1060 = .ok (.aload_n 2, 1) by decide +kernel) rfl rfl, ?_⟩
  refine List.forall_mem_cons.mpr ⟨ok_callV C h_X11_settles ⟨rfl, rfl⟩ rfl kw_1592 kw_1589 kw_1590 kw_1591 kw_11 rfl ds_X11_settles ⟨by decide, by decide⟩ (show decode cL_law 1061 = .ok (.invokevirtual 133, 3) by decide +kernel) rfl, ?_⟩
  refine List.forall_mem_cons.mpr ⟨ok_icmpeq C (show decode cL_law 1064 = .ok (.if_icmp .eq 404, 3) by decide +kernel) (tg := 1468) (by decide) rfl rfl, ?_⟩
  refine List.forall_mem_cons.mpr ⟨ok_iconst C (show decode cL_law 1067 = .ok (.iconst 0, 1) by decide +kernel) (by decide) rfl, ?_⟩
  refine List.forall_mem_cons.mpr ⟨ok_lret C hb1 (show decode cL_law 1068 = .ok (.ireturn, 1) by decide +kernel), ?_⟩
  refine List.forall_mem_cons.mpr ⟨ok_aload_n C (show decode cL_law 1069 = .ok (.aload_n 1, 1) by decide +kernel) rfl rfl, ?_⟩
  refine List.forall_mem_cons.mpr ⟨ok_aload_n C (show decode cL_law 1070 = .ok (.aload_n 0, 1) by decide +kernel) rfl rfl, ?_⟩
  refine List.forall_mem_cons.mpr ⟨ok_iload C (show decode cL_law 1071 = .ok (.iload 4, 2) by decide +kernel) rfl, ?_⟩
  refine List.forall_mem_cons.mpr ⟨ok_iconst C (show decode cL_law 1073 = .ok (.iconst 1, 1) by decide +kernel) (by decide) rfl, ?_⟩
  refine List.forall_mem_cons.mpr ⟨ok_iadd C (show decode cL_law 1074 = .ok (.iadd, 1) by decide +kernel) rfl, ?_⟩
  exact fun _ h => absurd h List.not_mem_nil
def L_law_7 (xs : Nat → Int32) (n : Nat) (f_X10_hunger : List Value → ab_H → Option ab_O) (f_X11_hunger : List Value → ab_H → Option ab_O) (f_X10_prices : List Value → ab_H → Option ab_O) (f_X11_prices : List Value → ab_H → Option ab_O) (f_X10_price : List Value → ab_H → Option ab_O) (f_X11_price : List Value → ab_H → Option ab_O) (f_X10_dearest : List Value → ab_H → Option ab_O) (f_X11_dearest : List Value → ab_H → Option ab_O) (f_X10_rats : List Value → ab_H → Option ab_O) (f_X11_rats : List Value → ab_H → Option ab_O) (f_X10_hoarded : List Value → ab_H → Option ab_O) : List (Nat × ab_A) := [
  (1075, ab_nx 1076 (ab_sld xs n)),
  (1076, ab_nx 1077 (ab_aload 0)),
  (1077, ab_nx 1079 (ab_iload 4)),
  (1079, ab_nx 1080 (ab_lit (.int 2))),
  (1080, ab_nx 1081 (ab_bin (fun x y => x + y))),
  (1081, ab_nx 1082 (ab_sld xs n)),
  (1082, ab_nx 1083 (ab_aload 0)),
  (1083, ab_nx 1085 (ab_iload 4)),
  (1085, ab_nx 1086 (ab_lit (.int 3))),
  (1086, ab_nx 1087 (ab_bin (fun x y => x + y))),
  (1087, ab_nx 1088 (ab_sld xs n)),
  (1088, ab_nx 1091 (ab_callV 4 10 f_X10_hunger 0 0 600002 7302231)),
  (1091, ab_nx 1092 (ab_aload 2)),
  (1092, ab_nx 1093 (ab_aload 0)),
  (1093, ab_nx 1095 (ab_iload 4)),
  (1095, ab_nx 1096 (ab_lit (.int 1))),
  (1096, ab_nx 1097 (ab_bin (fun x y => x + y))),
  (1097, ab_nx 1098 (ab_sld xs n)),
  (1098, ab_nx 1099 (ab_aload 0)),
  (1099, ab_nx 1101 (ab_iload 4)),
  (1101, ab_nx 1102 (ab_lit (.int 2))),
  (1102, ab_nx 1103 (ab_bin (fun x y => x + y))),
  (1103, ab_nx 1104 (ab_sld xs n)),
  (1104, ab_nx 1105 (ab_aload 0)),
  (1105, ab_nx 1107 (ab_iload 4)),
  (1107, ab_nx 1108 (ab_lit (.int 3))),
  (1108, ab_nx 1109 (ab_bin (fun x y => x + y))),
  (1109, ab_nx 1110 (ab_sld xs n)),
  (1110, ab_nx 1113 (ab_callV 4 11 f_X11_hunger 0 0 600002 7302231)),
  (1113, ab_icmp 1116 1468 (fun x y => decide (x = y))),
  (1116, ab_nx 1117 (ab_lit (.int 0))),
  (1117, ab_lret),
  (1118, ab_nx 1119 (ab_aload 1)),
  (1119, ab_nx 1122 (ab_callV 1 10 f_X10_prices 0 0 600002 7302231)),
  (1122, ab_nx 1123 (ab_aload 2)),
  (1123, ab_nx 1126 (ab_callV 1 11 f_X11_prices 0 0 600002 7302231)),
  (1126, ab_icmp 1129 1468 (fun x y => decide (x = y))),
  (1129, ab_nx 1130 (ab_lit (.int 0))),
  (1130, ab_lret),
  (1131, ab_nx 1132 (ab_aload 1)),
  (1132, ab_nx 1133 (ab_aload 0)),
  (1133, ab_nx 1135 (ab_iload 4)),
  (1135, ab_nx 1136 (ab_lit (.int 1))),
  (1136, ab_nx 1137 (ab_bin (fun x y => x + y))),
  (1137, ab_nx 1138 (ab_sld xs n)),
  (1138, ab_nx 1139 (ab_aload 0)),
  (1139, ab_nx 1141 (ab_iload 4)),
  (1141, ab_nx 1142 (ab_lit (.int 2))),
  (1142, ab_nx 1143 (ab_bin (fun x y => x + y))),
  (1143, ab_nx 1144 (ab_sld xs n)),
  (1144, ab_nx 1147 (ab_callV 3 10 f_X10_price 0 0 600002 7302231)),
  (1147, ab_nx 1148 (ab_aload 2)),
  (1148, ab_nx 1149 (ab_aload 0)),
  (1149, ab_nx 1151 (ab_iload 4)),
  (1151, ab_nx 1152 (ab_lit (.int 1))),
  (1152, ab_nx 1153 (ab_bin (fun x y => x + y))),
  (1153, ab_nx 1154 (ab_sld xs n)),
  (1154, ab_nx 1155 (ab_aload 0)),
  (1155, ab_nx 1157 (ab_iload 4)),
  (1157, ab_nx 1158 (ab_lit (.int 2))),
  (1158, ab_nx 1159 (ab_bin (fun x y => x + y))),
  (1159, ab_nx 1160 (ab_sld xs n)),
  (1160, ab_nx 1163 (ab_callV 3 11 f_X11_price 0 0 600002 7302231)),
  (1163, ab_icmp 1166 1468 (fun x y => decide (x = y))),
  (1166, ab_nx 1167 (ab_lit (.int 0))),
  (1167, ab_lret),
  (1168, ab_nx 1169 (ab_aload 1)),
  (1169, ab_nx 1172 (ab_callV 1 10 f_X10_dearest 0 0 600002 7302231)),
  (1172, ab_nx 1173 (ab_aload 2)),
  (1173, ab_nx 1176 (ab_callV 1 11 f_X11_dearest 0 0 600002 7302231)),
  (1176, ab_icmp 1179 1468 (fun x y => decide (x = y))),
  (1179, ab_nx 1180 (ab_lit (.int 0))),
  (1180, ab_lret),
  (1181, ab_nx 1182 (ab_aload 1)),
  (1182, ab_nx 1185 (ab_callV 1 10 f_X10_rats 0 0 600002 7302231)),
  (1185, ab_nx 1186 (ab_aload 2)),
  (1186, ab_nx 1189 (ab_callV 1 11 f_X11_rats 0 0 600002 7302231)),
  (1189, ab_icmp 1192 1468 (fun x y => decide (x = y))),
  (1192, ab_nx 1193 (ab_lit (.int 0))),
  (1193, ab_lret),
  (1194, ab_nx 1195 (ab_aload 1)),
  (1195, ab_nx 1196 (ab_aload 0)),
  (1196, ab_nx 1198 (ab_iload 4)),
  (1198, ab_nx 1199 (ab_lit (.int 1))),
  (1199, ab_nx 1200 (ab_bin (fun x y => x + y))),
  (1200, ab_nx 1201 (ab_sld xs n)),
  (1201, ab_nx 1204 (ab_callV 2 10 f_X10_hoarded 0 0 600002 7302231)),
  (1204, ab_nx 1205 (ab_aload 2)),
  (1205, ab_nx 1206 (ab_aload 0)),
  (1206, ab_nx 1208 (ab_iload 4))]
set_option maxRecDepth 100000 in
set_option maxHeartbeats 4000000 in
theorem law_7 {p : Program} {l : Launch} {e : Env} {s : State} {m : MethodId} {below : List Frame} {meth : Method} {c : Code} {cd : Cond} {b : ab_B} {D : va_G} {cA : Nat → ClassId} {o : ab_O} {xs : Nat → Int32} {n bb : Nat} {nm : String} (C : ab_cx p l e room_1 s m #[Value.ref bb] below meth c D ab_cl cA (ab_E0 b) (⟨RL, nm, "([I)Z"⟩ : MethodName) cL_law 7 ret (cd :: ab_G) room_1) (hX : va_X bb n xs s s.heap) (hb0 : b.2 0 = bb) (hb1 : b.1 = s.heap.size ∧ bb < s.heap.size) {f_X10_hunger : List Value → ab_H → Option ab_O} (h_X10_hunger : ab_M l b D ab_cl cA (ab_E0 b) yX10_hunger (Cond.code yX10_hunger cX10_hunger 5 (some .int) :: ab_G) ({ frames := 6, cells := 0, slots := 0, locals := 600 } : Room) f_X10_hunger) {f_X11_hunger : List Value → ab_H → Option ab_O} (h_X11_hunger : ab_M l b D ab_cl cA (ab_E0 b) yX11_hunger (Cond.code yX11_hunger cX11_hunger 6 (some .int) :: ab_G) ({ frames := 9, cells := 0, slots := 0, locals := 900 } : Room) f_X11_hunger) {f_X10_prices : List Value → ab_H → Option ab_O} (h_X10_prices : ab_M l b D ab_cl cA (ab_E0 b) yX10_prices (Cond.code yX10_prices cX10_prices 2 (some .int) :: ab_G) ({ frames := 6, cells := 0, slots := 0, locals := 600 } : Room) f_X10_prices) {f_X11_prices : List Value → ab_H → Option ab_O} (h_X11_prices : ab_M l b D ab_cl cA (ab_E0 b) yX11_prices (Cond.code yX11_prices cX11_prices 5 (some .int) :: ab_G) ({ frames := 9, cells := 0, slots := 0, locals := 900 } : Room) f_X11_prices) {f_X10_price : List Value → ab_H → Option ab_O} (h_X10_price : ab_M l b D ab_cl cA (ab_E0 b) yX10_price (Cond.code yX10_price cX10_price 4 (some .int) :: ab_G) ({ frames := 2, cells := 0, slots := 0, locals := 200 } : Room) f_X10_price) {f_X11_price : List Value → ab_H → Option ab_O} (h_X11_price : ab_M l b D ab_cl cA (ab_E0 b) yX11_price (Cond.code yX11_price cX11_price 3 (some .int) :: ab_G) ({ frames := 3, cells := 0, slots := 0, locals := 300 } : Room) f_X11_price) {f_X10_dearest : List Value → ab_H → Option ab_O} (h_X10_dearest : ab_M l b D ab_cl cA (ab_E0 b) yX10_dearest (Cond.code yX10_dearest cX10_dearest 5 (some .int) :: ab_G) ({ frames := 4, cells := 0, slots := 0, locals := 400 } : Room) f_X10_dearest) {f_X11_dearest : List Value → ab_H → Option ab_O} (h_X11_dearest : ab_M l b D ab_cl cA (ab_E0 b) yX11_dearest (Cond.code yX11_dearest cX11_dearest 4 (some .int) :: ab_G) ({ frames := 6, cells := 0, slots := 0, locals := 600 } : Room) f_X11_dearest) {f_X10_rats : List Value → ab_H → Option ab_O} (h_X10_rats : ab_M l b D ab_cl cA (ab_E0 b) yX10_rats (Cond.code yX10_rats cX10_rats 3 (some .int) :: ab_G) ({ frames := 3, cells := 0, slots := 0, locals := 300 } : Room) f_X10_rats) {f_X11_rats : List Value → ab_H → Option ab_O} (h_X11_rats : ab_M l b D ab_cl cA (ab_E0 b) yX11_rats (Cond.code yX11_rats cX11_rats 3 (some .int) :: ab_G) ({ frames := 4, cells := 0, slots := 0, locals := 400 } : Room) f_X11_rats) {f_X10_hoarded : List Value → ab_H → Option ab_O} (h_X10_hoarded : ab_M l b D ab_cl cA (ab_E0 b) yX10_hoarded (Cond.code yX10_hoarded cX10_hoarded 6 (some .int) :: ab_G) ({ frames := 2, cells := 0, slots := 0, locals := 200 } : Room) f_X10_hoarded) : ∀ q ∈ L_law_7 xs n f_X10_hunger f_X11_hunger f_X10_prices f_X11_prices f_X10_price f_X11_price f_X10_dearest f_X11_dearest f_X10_rats f_X11_rats f_X10_hoarded, ab_ok p l e room_1 s m #[Value.ref bb] below meth c (lw_Z below #[Value.ref bb] s) b D ab_cl cA 7 o (fun i => i) q.1 q.2 := by
  unfold L_law_7
  refine List.forall_mem_cons.mpr ⟨ok_sld C hX hb0 hb1 (show decode cL_law 1075 = .ok (.iaload, 1) by decide +kernel) rfl, ?_⟩
  refine List.forall_mem_cons.mpr ⟨ok_aload_n C (show decode cL_law 1076 = .ok (.aload_n 0, 1) by decide +kernel) rfl rfl, ?_⟩
  refine List.forall_mem_cons.mpr ⟨ok_iload C (show decode cL_law 1077 = .ok (.iload 4, 2) by decide +kernel) rfl, ?_⟩
  refine List.forall_mem_cons.mpr ⟨ok_iconst C (show decode cL_law 1079 = .ok (.iconst 2, 1) by decide +kernel) (by decide) rfl, ?_⟩
  refine List.forall_mem_cons.mpr ⟨ok_iadd C (show decode cL_law 1080 = .ok (.iadd, 1) by decide +kernel) rfl, ?_⟩
  refine List.forall_mem_cons.mpr ⟨ok_sld C hX hb0 hb1 (show decode cL_law 1081 = .ok (.iaload, 1) by decide +kernel) rfl, ?_⟩
  refine List.forall_mem_cons.mpr ⟨ok_aload_n C (show decode cL_law 1082 = .ok (.aload_n 0, 1) by decide +kernel) rfl rfl, ?_⟩
  refine List.forall_mem_cons.mpr ⟨ok_iload C (show decode cL_law 1083 = .ok (.iload 4, 2) by decide +kernel) rfl, ?_⟩
  refine List.forall_mem_cons.mpr ⟨ok_iconst C (show decode cL_law 1085 = .ok (.iconst 3, 1) by decide +kernel) (by decide) rfl, ?_⟩
  refine List.forall_mem_cons.mpr ⟨ok_iadd C (show decode cL_law 1086 = .ok (.iadd, 1) by decide +kernel) rfl, ?_⟩
  refine List.forall_mem_cons.mpr ⟨ok_sld C hX hb0 hb1 (show decode cL_law 1087 = .ok (.iaload, 1) by decide +kernel) rfl, ?_⟩
  refine List.forall_mem_cons.mpr ⟨ok_callV C h_X10_hunger ⟨rfl, rfl⟩ rfl kw_853 kw_850 kw_851 kw_852 kw_1 rfl ds_X10_hunger ⟨by decide, by decide⟩ (show decode cL_law 1088 = .ok (.invokevirtual 134, 3) by decide +kernel) rfl, ?_⟩
  refine List.forall_mem_cons.mpr ⟨ok_aload_n C (show decode cL_law 1091 = .ok (.aload_n 2, 1) by decide +kernel) rfl rfl, ?_⟩
  refine List.forall_mem_cons.mpr ⟨ok_aload_n C (show decode cL_law 1092 = .ok (.aload_n 0, 1) by decide +kernel) rfl rfl, ?_⟩
  refine List.forall_mem_cons.mpr ⟨ok_iload C (show decode cL_law 1093 = .ok (.iload 4, 2) by decide +kernel) rfl, ?_⟩
  refine List.forall_mem_cons.mpr ⟨ok_iconst C (show decode cL_law 1095 = .ok (.iconst 1, 1) by decide +kernel) (by decide) rfl, ?_⟩
  refine List.forall_mem_cons.mpr ⟨ok_iadd C (show decode cL_law 1096 = .ok (.iadd, 1) by decide +kernel) rfl, ?_⟩
  refine List.forall_mem_cons.mpr ⟨ok_sld C hX hb0 hb1 (show decode cL_law 1097 = .ok (.iaload, 1) by decide +kernel) rfl, ?_⟩
  refine List.forall_mem_cons.mpr ⟨ok_aload_n C (show decode cL_law 1098 = .ok (.aload_n 0, 1) by decide +kernel) rfl rfl, ?_⟩
  refine List.forall_mem_cons.mpr ⟨ok_iload C (show decode cL_law 1099 = .ok (.iload 4, 2) by decide +kernel) rfl, ?_⟩
  refine List.forall_mem_cons.mpr ⟨ok_iconst C (show decode cL_law 1101 = .ok (.iconst 2, 1) by decide +kernel) (by decide) rfl, ?_⟩
  refine List.forall_mem_cons.mpr ⟨ok_iadd C (show decode cL_law 1102 = .ok (.iadd, 1) by decide +kernel) rfl, ?_⟩
  refine List.forall_mem_cons.mpr ⟨ok_sld C hX hb0 hb1 (show decode cL_law 1103 = .ok (.iaload, 1) by decide +kernel) rfl, ?_⟩
  refine List.forall_mem_cons.mpr ⟨ok_aload_n C (show decode cL_law 1104 = .ok (.aload_n 0, 1) by decide +kernel) rfl rfl, ?_⟩
  refine List.forall_mem_cons.mpr ⟨ok_iload C (show decode cL_law 1105 = .ok (.iload 4, 2) by decide +kernel) rfl, ?_⟩
  refine List.forall_mem_cons.mpr ⟨ok_iconst C (show decode cL_law 1107 = .ok (.iconst 3, 1) by decide +kernel) (by decide) rfl, ?_⟩
  refine List.forall_mem_cons.mpr ⟨ok_iadd C (show decode cL_law 1108 = .ok (.iadd, 1) by decide +kernel) rfl, ?_⟩
  refine List.forall_mem_cons.mpr ⟨ok_sld C hX hb0 hb1 (show decode cL_law 1109 = .ok (.iaload, 1) by decide +kernel) rfl, ?_⟩
  refine List.forall_mem_cons.mpr ⟨ok_callV C h_X11_hunger ⟨rfl, rfl⟩ rfl kw_1604 kw_1601 kw_1602 kw_1603 kw_11 rfl ds_X11_hunger ⟨by decide, by decide⟩ (show decode cL_law 1110 = .ok (.invokevirtual 137, 3) by decide +kernel) rfl, ?_⟩
  refine List.forall_mem_cons.mpr ⟨ok_icmpeq C (show decode cL_law 1113 = .ok (.if_icmp .eq 355, 3) by decide +kernel) (tg := 1468) (by decide) rfl rfl, ?_⟩
  refine List.forall_mem_cons.mpr ⟨ok_iconst C (show decode cL_law 1116 = .ok (.iconst 0, 1) by decide +kernel) (by decide) rfl, ?_⟩
  refine List.forall_mem_cons.mpr ⟨ok_lret C hb1 (show decode cL_law 1117 = .ok (.ireturn, 1) by decide +kernel), ?_⟩
  refine List.forall_mem_cons.mpr ⟨ok_aload_n C (show decode cL_law 1118 = .ok (.aload_n 1, 1) by decide +kernel) rfl rfl, ?_⟩
  refine List.forall_mem_cons.mpr ⟨ok_callV C h_X10_prices ⟨rfl, rfl⟩ rfl kw_866 kw_863 kw_864 kw_865 kw_1 rfl ds_X10_prices ⟨by decide, by decide⟩ (show decode cL_law 1119 = .ok (.invokevirtual 138, 3) by decide +kernel) rfl, ?_⟩
  refine List.forall_mem_cons.mpr ⟨ok_aload_n C (show decode cL_law 1122 = .ok (.aload_n 2, 1) by decide +kernel) rfl rfl, ?_⟩
  refine List.forall_mem_cons.mpr ⟨ok_callV C h_X11_prices ⟨rfl, rfl⟩ rfl kw_1608 kw_1605 kw_1606 kw_1607 kw_11 rfl ds_X11_prices ⟨by decide, by decide⟩ (show decode cL_law 1123 = .ok (.invokevirtual 141, 3) by decide +kernel) rfl, ?_⟩
  refine List.forall_mem_cons.mpr ⟨ok_icmpeq C (show decode cL_law 1126 = .ok (.if_icmp .eq 342, 3) by decide +kernel) (tg := 1468) (by decide) rfl rfl, ?_⟩
  refine List.forall_mem_cons.mpr ⟨ok_iconst C (show decode cL_law 1129 = .ok (.iconst 0, 1) by decide +kernel) (by decide) rfl, ?_⟩
  refine List.forall_mem_cons.mpr ⟨ok_lret C hb1 (show decode cL_law 1130 = .ok (.ireturn, 1) by decide +kernel), ?_⟩
  refine List.forall_mem_cons.mpr ⟨ok_aload_n C (show decode cL_law 1131 = .ok (.aload_n 1, 1) by decide +kernel) rfl rfl, ?_⟩
  refine List.forall_mem_cons.mpr ⟨ok_aload_n C (show decode cL_law 1132 = .ok (.aload_n 0, 1) by decide +kernel) rfl rfl, ?_⟩
  refine List.forall_mem_cons.mpr ⟨ok_iload C (show decode cL_law 1133 = .ok (.iload 4, 2) by decide +kernel) rfl, ?_⟩
  refine List.forall_mem_cons.mpr ⟨ok_iconst C (show decode cL_law 1135 = .ok (.iconst 1, 1) by decide +kernel) (by decide) rfl, ?_⟩
  refine List.forall_mem_cons.mpr ⟨ok_iadd C (show decode cL_law 1136 = .ok (.iadd, 1) by decide +kernel) rfl, ?_⟩
  refine List.forall_mem_cons.mpr ⟨ok_sld C hX hb0 hb1 (show decode cL_law 1137 = .ok (.iaload, 1) by decide +kernel) rfl, ?_⟩
  refine List.forall_mem_cons.mpr ⟨ok_aload_n C (show decode cL_law 1138 = .ok (.aload_n 0, 1) by decide +kernel) rfl rfl, ?_⟩
  refine List.forall_mem_cons.mpr ⟨ok_iload C (show decode cL_law 1139 = .ok (.iload 4, 2) by decide +kernel) rfl, ?_⟩
  refine List.forall_mem_cons.mpr ⟨ok_iconst C (show decode cL_law 1141 = .ok (.iconst 2, 1) by decide +kernel) (by decide) rfl, ?_⟩
  refine List.forall_mem_cons.mpr ⟨ok_iadd C (show decode cL_law 1142 = .ok (.iadd, 1) by decide +kernel) rfl, ?_⟩
  refine List.forall_mem_cons.mpr ⟨ok_sld C hX hb0 hb1 (show decode cL_law 1143 = .ok (.iaload, 1) by decide +kernel) rfl, ?_⟩
  refine List.forall_mem_cons.mpr ⟨ok_callV C h_X10_price ⟨rfl, rfl⟩ rfl kw_874 kw_871 kw_872 kw_873 kw_1 rfl ds_X10_price ⟨by decide, by decide⟩ (show decode cL_law 1144 = .ok (.invokevirtual 142, 3) by decide +kernel) rfl, ?_⟩
  refine List.forall_mem_cons.mpr ⟨ok_aload_n C (show decode cL_law 1147 = .ok (.aload_n 2, 1) by decide +kernel) rfl rfl, ?_⟩
  refine List.forall_mem_cons.mpr ⟨ok_aload_n C (show decode cL_law 1148 = .ok (.aload_n 0, 1) by decide +kernel) rfl rfl, ?_⟩
  refine List.forall_mem_cons.mpr ⟨ok_iload C (show decode cL_law 1149 = .ok (.iload 4, 2) by decide +kernel) rfl, ?_⟩
  refine List.forall_mem_cons.mpr ⟨ok_iconst C (show decode cL_law 1151 = .ok (.iconst 1, 1) by decide +kernel) (by decide) rfl, ?_⟩
  refine List.forall_mem_cons.mpr ⟨ok_iadd C (show decode cL_law 1152 = .ok (.iadd, 1) by decide +kernel) rfl, ?_⟩
  refine List.forall_mem_cons.mpr ⟨ok_sld C hX hb0 hb1 (show decode cL_law 1153 = .ok (.iaload, 1) by decide +kernel) rfl, ?_⟩
  refine List.forall_mem_cons.mpr ⟨ok_aload_n C (show decode cL_law 1154 = .ok (.aload_n 0, 1) by decide +kernel) rfl rfl, ?_⟩
  refine List.forall_mem_cons.mpr ⟨ok_iload C (show decode cL_law 1155 = .ok (.iload 4, 2) by decide +kernel) rfl, ?_⟩
  refine List.forall_mem_cons.mpr ⟨ok_iconst C (show decode cL_law 1157 = .ok (.iconst 2, 1) by decide +kernel) (by decide) rfl, ?_⟩
  refine List.forall_mem_cons.mpr ⟨ok_iadd C (show decode cL_law 1158 = .ok (.iadd, 1) by decide +kernel) rfl, ?_⟩
  refine List.forall_mem_cons.mpr ⟨ok_sld C hX hb0 hb1 (show decode cL_law 1159 = .ok (.iaload, 1) by decide +kernel) rfl, ?_⟩
  refine List.forall_mem_cons.mpr ⟨ok_callV C h_X11_price ⟨rfl, rfl⟩ rfl kw_1612 kw_1609 kw_1610 kw_1611 kw_11 rfl ds_X11_price ⟨by decide, by decide⟩ (show decode cL_law 1160 = .ok (.invokevirtual 145, 3) by decide +kernel) rfl, ?_⟩
  refine List.forall_mem_cons.mpr ⟨ok_icmpeq C (show decode cL_law 1163 = .ok (.if_icmp .eq 305, 3) by decide +kernel) (tg := 1468) (by decide) rfl rfl, ?_⟩
  refine List.forall_mem_cons.mpr ⟨ok_iconst C (show decode cL_law 1166 = .ok (.iconst 0, 1) by decide +kernel) (by decide) rfl, ?_⟩
  refine List.forall_mem_cons.mpr ⟨ok_lret C hb1 (show decode cL_law 1167 = .ok (.ireturn, 1) by decide +kernel), ?_⟩
  refine List.forall_mem_cons.mpr ⟨ok_aload_n C (show decode cL_law 1168 = .ok (.aload_n 1, 1) by decide +kernel) rfl rfl, ?_⟩
  refine List.forall_mem_cons.mpr ⟨ok_callV C h_X10_dearest ⟨rfl, rfl⟩ rfl kw_664 kw_661 kw_662 kw_663 kw_1 rfl ds_X10_dearest ⟨by decide, by decide⟩ (show decode cL_law 1169 = .ok (.invokevirtual 146, 3) by decide +kernel) rfl, ?_⟩
  refine List.forall_mem_cons.mpr ⟨ok_aload_n C (show decode cL_law 1172 = .ok (.aload_n 2, 1) by decide +kernel) rfl rfl, ?_⟩
  refine List.forall_mem_cons.mpr ⟨ok_callV C h_X11_dearest ⟨rfl, rfl⟩ rfl kw_1616 kw_1613 kw_1614 kw_1615 kw_11 rfl ds_X11_dearest ⟨by decide, by decide⟩ (show decode cL_law 1173 = .ok (.invokevirtual 149, 3) by decide +kernel) rfl, ?_⟩
  refine List.forall_mem_cons.mpr ⟨ok_icmpeq C (show decode cL_law 1176 = .ok (.if_icmp .eq 292, 3) by decide +kernel) (tg := 1468) (by decide) rfl rfl, ?_⟩
  refine List.forall_mem_cons.mpr ⟨ok_iconst C (show decode cL_law 1179 = .ok (.iconst 0, 1) by decide +kernel) (by decide) rfl, ?_⟩
  refine List.forall_mem_cons.mpr ⟨ok_lret C hb1 (show decode cL_law 1180 = .ok (.ireturn, 1) by decide +kernel), ?_⟩
  refine List.forall_mem_cons.mpr ⟨ok_aload_n C (show decode cL_law 1181 = .ok (.aload_n 1, 1) by decide +kernel) rfl rfl, ?_⟩
  refine List.forall_mem_cons.mpr ⟨ok_callV C h_X10_rats ⟨rfl, rfl⟩ rfl kw_683 kw_680 kw_681 kw_682 kw_1 rfl ds_X10_rats ⟨by decide, by decide⟩ (show decode cL_law 1182 = .ok (.invokevirtual 150, 3) by decide +kernel) rfl, ?_⟩
  refine List.forall_mem_cons.mpr ⟨ok_aload_n C (show decode cL_law 1185 = .ok (.aload_n 2, 1) by decide +kernel) rfl rfl, ?_⟩
  refine List.forall_mem_cons.mpr ⟨ok_callV C h_X11_rats ⟨rfl, rfl⟩ rfl kw_1623 kw_1620 kw_1621 kw_1622 kw_11 rfl ds_X11_rats ⟨by decide, by decide⟩ (show decode cL_law 1186 = .ok (.invokevirtual 153, 3) by decide +kernel) rfl, ?_⟩
  refine List.forall_mem_cons.mpr ⟨ok_icmpeq C (show decode cL_law 1189 = .ok (.if_icmp .eq 279, 3) by decide +kernel) (tg := 1468) (by decide) rfl rfl, ?_⟩
  refine List.forall_mem_cons.mpr ⟨ok_iconst C (show decode cL_law 1192 = .ok (.iconst 0, 1) by decide +kernel) (by decide) rfl, ?_⟩
  refine List.forall_mem_cons.mpr ⟨ok_lret C hb1 (show decode cL_law 1193 = .ok (.ireturn, 1) by decide +kernel), ?_⟩
  refine List.forall_mem_cons.mpr ⟨ok_aload_n C (show decode cL_law 1194 = .ok (.aload_n 1, 1) by decide +kernel) rfl rfl, ?_⟩
  refine List.forall_mem_cons.mpr ⟨ok_aload_n C (show decode cL_law 1195 = .ok (.aload_n 0, 1) by decide +kernel) rfl rfl, ?_⟩
  refine List.forall_mem_cons.mpr ⟨ok_iload C (show decode cL_law 1196 = .ok (.iload 4, 2) by decide +kernel) rfl, ?_⟩
  refine List.forall_mem_cons.mpr ⟨ok_iconst C (show decode cL_law 1198 = .ok (.iconst 1, 1) by decide +kernel) (by decide) rfl, ?_⟩
  refine List.forall_mem_cons.mpr ⟨ok_iadd C (show decode cL_law 1199 = .ok (.iadd, 1) by decide +kernel) rfl, ?_⟩
  refine List.forall_mem_cons.mpr ⟨ok_sld C hX hb0 hb1 (show decode cL_law 1200 = .ok (.iaload, 1) by decide +kernel) rfl, ?_⟩
  refine List.forall_mem_cons.mpr ⟨ok_callV C h_X10_hoarded ⟨rfl, rfl⟩ rfl kw_692 kw_689 kw_690 kw_691 kw_1 rfl ds_X10_hoarded ⟨by decide, by decide⟩ (show decode cL_law 1201 = .ok (.invokevirtual 154, 3) by decide +kernel) rfl, ?_⟩
  refine List.forall_mem_cons.mpr ⟨ok_aload_n C (show decode cL_law 1204 = .ok (.aload_n 2, 1) by decide +kernel) rfl rfl, ?_⟩
  refine List.forall_mem_cons.mpr ⟨ok_aload_n C (show decode cL_law 1205 = .ok (.aload_n 0, 1) by decide +kernel) rfl rfl, ?_⟩
  refine List.forall_mem_cons.mpr ⟨ok_iload C (show decode cL_law 1206 = .ok (.iload 4, 2) by decide +kernel) rfl, ?_⟩
  exact fun _ h => absurd h List.not_mem_nil
def L_law_8 (xs : Nat → Int32) (n : Nat) (f_X11_hoarded : List Value → ab_H → Option ab_O) (f_X10_drawn : List Value → ab_H → Option ab_O) (f_X11_drawn : List Value → ab_H → Option ab_O) (f_X10_odds : List Value → ab_H → Option ab_O) (f_X11_odds : List Value → ab_H → Option ab_O) (f_X10_log : List Value → ab_H → Option ab_O) (f_X11_log : List Value → ab_H → Option ab_O) : List (Nat × ab_A) := [
  (1208, ab_nx 1209 (ab_lit (.int 1))),
  (1209, ab_nx 1210 (ab_bin (fun x y => x + y))),
  (1210, ab_nx 1211 (ab_sld xs n)),
  (1211, ab_nx 1214 (ab_callV 2 11 f_X11_hoarded 0 0 600002 7302231)),
  (1214, ab_icmp 1217 1468 (fun x y => decide (x = y))),
  (1217, ab_nx 1218 (ab_lit (.int 0))),
  (1218, ab_lret),
  (1219, ab_nx 1220 (ab_aload 1)),
  (1220, ab_nx 1221 (ab_aload 0)),
  (1221, ab_nx 1223 (ab_iload 4)),
  (1223, ab_nx 1224 (ab_lit (.int 1))),
  (1224, ab_nx 1225 (ab_bin (fun x y => x + y))),
  (1225, ab_nx 1226 (ab_sld xs n)),
  (1226, ab_nx 1227 (ab_aload 0)),
  (1227, ab_nx 1229 (ab_iload 4)),
  (1229, ab_nx 1230 (ab_lit (.int 2))),
  (1230, ab_nx 1231 (ab_bin (fun x y => x + y))),
  (1231, ab_nx 1232 (ab_sld xs n)),
  (1232, ab_nx 1235 (ab_callV 3 10 f_X10_drawn 8 138 600002 7302231)),
  (1235, ab_nx 1236 (ab_aload 2)),
  (1236, ab_nx 1237 (ab_aload 0)),
  (1237, ab_nx 1239 (ab_iload 4)),
  (1239, ab_nx 1240 (ab_lit (.int 1))),
  (1240, ab_nx 1241 (ab_bin (fun x y => x + y))),
  (1241, ab_nx 1242 (ab_sld xs n)),
  (1242, ab_nx 1243 (ab_aload 0)),
  (1243, ab_nx 1245 (ab_iload 4)),
  (1245, ab_nx 1246 (ab_lit (.int 2))),
  (1246, ab_nx 1247 (ab_bin (fun x y => x + y))),
  (1247, ab_nx 1248 (ab_sld xs n)),
  (1248, ab_nx 1251 (ab_callV 3 11 f_X11_drawn 0 0 600002 7302231)),
  (1251, ab_icmp 1254 1468 (fun x y => decide (x = y))),
  (1254, ab_nx 1255 (ab_lit (.int 0))),
  (1255, ab_lret),
  (1256, ab_nx 1257 (ab_aload 1)),
  (1257, ab_nx 1258 (ab_aload 0)),
  (1258, ab_nx 1260 (ab_iload 4)),
  (1260, ab_nx 1261 (ab_lit (.int 1))),
  (1261, ab_nx 1262 (ab_bin (fun x y => x + y))),
  (1262, ab_nx 1263 (ab_sld xs n)),
  (1263, ab_nx 1264 (ab_aload 0)),
  (1264, ab_nx 1266 (ab_iload 4)),
  (1266, ab_nx 1267 (ab_lit (.int 2))),
  (1267, ab_nx 1268 (ab_bin (fun x y => x + y))),
  (1268, ab_nx 1269 (ab_sld xs n)),
  (1269, ab_nx 1270 (ab_aload 0)),
  (1270, ab_nx 1272 (ab_iload 4)),
  (1272, ab_nx 1273 (ab_lit (.int 3))),
  (1273, ab_nx 1274 (ab_bin (fun x y => x + y))),
  (1274, ab_nx 1275 (ab_sld xs n)),
  (1275, ab_nx 1278 (ab_callV 4 10 f_X10_odds 0 0 600002 7302231)),
  (1278, ab_nx 1279 (ab_aload 2)),
  (1279, ab_nx 1280 (ab_aload 0)),
  (1280, ab_nx 1282 (ab_iload 4)),
  (1282, ab_nx 1283 (ab_lit (.int 1))),
  (1283, ab_nx 1284 (ab_bin (fun x y => x + y))),
  (1284, ab_nx 1285 (ab_sld xs n)),
  (1285, ab_nx 1286 (ab_aload 0)),
  (1286, ab_nx 1288 (ab_iload 4)),
  (1288, ab_nx 1289 (ab_lit (.int 2))),
  (1289, ab_nx 1290 (ab_bin (fun x y => x + y))),
  (1290, ab_nx 1291 (ab_sld xs n)),
  (1291, ab_nx 1292 (ab_aload 0)),
  (1292, ab_nx 1294 (ab_iload 4)),
  (1294, ab_nx 1295 (ab_lit (.int 3))),
  (1295, ab_nx 1296 (ab_bin (fun x y => x + y))),
  (1296, ab_nx 1297 (ab_sld xs n)),
  (1297, ab_nx 1300 (ab_callV 4 11 f_X11_odds 0 0 600002 7302231)),
  (1300, ab_icmp 1303 1468 (fun x y => decide (x = y))),
  (1303, ab_nx 1304 (ab_lit (.int 0))),
  (1304, ab_lret),
  (1305, ab_nx 1306 (ab_aload 1)),
  (1306, ab_nx 1307 (ab_aload 0)),
  (1307, ab_nx 1309 (ab_iload 4)),
  (1309, ab_nx 1310 (ab_lit (.int 1))),
  (1310, ab_nx 1311 (ab_bin (fun x y => x + y))),
  (1311, ab_nx 1312 (ab_sld xs n)),
  (1312, ab_nx 1315 (ab_callV 2 10 f_X10_log 8 138 600002 7302231)),
  (1315, ab_nx 1316 (ab_aload 2)),
  (1316, ab_nx 1317 (ab_aload 0)),
  (1317, ab_nx 1319 (ab_iload 4)),
  (1319, ab_nx 1320 (ab_lit (.int 1))),
  (1320, ab_nx 1321 (ab_bin (fun x y => x + y))),
  (1321, ab_nx 1322 (ab_sld xs n)),
  (1322, ab_nx 1325 (ab_callV 2 11 f_X11_log 0 0 600002 7302231)),
  (1325, ab_icmp 1328 1468 (fun x y => decide (x = y))),
  (1328, ab_nx 1329 (ab_lit (.int 0))),
  (1329, ab_lret),
  (1330, ab_nx 1331 (ab_aload 1)),
  (1331, ab_nx 1332 (ab_aload 0))]
set_option maxRecDepth 100000 in
set_option maxHeartbeats 4000000 in
theorem law_8 {p : Program} {l : Launch} {e : Env} {s : State} {m : MethodId} {below : List Frame} {meth : Method} {c : Code} {cd : Cond} {b : ab_B} {D : va_G} {cA : Nat → ClassId} {o : ab_O} {xs : Nat → Int32} {n bb : Nat} {nm : String} (C : ab_cx p l e room_1 s m #[Value.ref bb] below meth c D ab_cl cA (ab_E0 b) (⟨RL, nm, "([I)Z"⟩ : MethodName) cL_law 7 ret (cd :: ab_G) room_1) (hX : va_X bb n xs s s.heap) (hb0 : b.2 0 = bb) (hb1 : b.1 = s.heap.size ∧ bb < s.heap.size) {f_X11_hoarded : List Value → ab_H → Option ab_O} (h_X11_hoarded : ab_M l b D ab_cl cA (ab_E0 b) yX11_hoarded (Cond.code yX11_hoarded cX11_hoarded 5 (some .int) :: ab_G) ({ frames := 3, cells := 0, slots := 0, locals := 300 } : Room) f_X11_hoarded) {f_X10_drawn : List Value → ab_H → Option ab_O} (h_X10_drawn : ab_M l b D ab_cl cA (ab_E0 b) yX10_drawn (Cond.code yX10_drawn cX10_drawn 3 (some .int) :: ab_G) ({ frames := 7, cells := 8, slots := 138, locals := 700 } : Room) f_X10_drawn) {f_X11_drawn : List Value → ab_H → Option ab_O} (h_X11_drawn : ab_M l b D ab_cl cA (ab_E0 b) yX11_drawn (Cond.code yX11_drawn cX11_drawn 3 (some .int) :: ab_G) ({ frames := 10, cells := 0, slots := 0, locals := 1000 } : Room) f_X11_drawn) {f_X10_odds : List Value → ab_H → Option ab_O} (h_X10_odds : ab_M l b D ab_cl cA (ab_E0 b) yX10_odds (Cond.code yX10_odds cX10_odds 6 (some .int) :: ab_G) ({ frames := 7, cells := 0, slots := 0, locals := 700 } : Room) f_X10_odds) {f_X11_odds : List Value → ab_H → Option ab_O} (h_X11_odds : ab_M l b D ab_cl cA (ab_E0 b) yX11_odds (Cond.code yX11_odds cX11_odds 7 (some .int) :: ab_G) ({ frames := 10, cells := 0, slots := 0, locals := 1000 } : Room) f_X11_odds) {f_X10_log : List Value → ab_H → Option ab_O} (h_X10_log : ab_M l b D ab_cl cA (ab_E0 b) yX10_log (Cond.code yX10_log cX10_log 3 (some .int) :: ab_G) ({ frames := 8, cells := 8, slots := 138, locals := 800 } : Room) f_X10_log) {f_X11_log : List Value → ab_H → Option ab_O} (h_X11_log : ab_M l b D ab_cl cA (ab_E0 b) yX11_log (Cond.code yX11_log cX11_log 5 (some .int) :: ab_G) ({ frames := 10, cells := 0, slots := 0, locals := 1000 } : Room) f_X11_log) : ∀ q ∈ L_law_8 xs n f_X11_hoarded f_X10_drawn f_X11_drawn f_X10_odds f_X11_odds f_X10_log f_X11_log, ab_ok p l e room_1 s m #[Value.ref bb] below meth c (lw_Z below #[Value.ref bb] s) b D ab_cl cA 7 o (fun i => i) q.1 q.2 := by
  unfold L_law_8
  refine List.forall_mem_cons.mpr ⟨ok_iconst C (show decode cL_law 1208 = .ok (.iconst 1, 1) by decide +kernel) (by decide) rfl, ?_⟩
  refine List.forall_mem_cons.mpr ⟨ok_iadd C (show decode cL_law 1209 = .ok (.iadd, 1) by decide +kernel) rfl, ?_⟩
  refine List.forall_mem_cons.mpr ⟨ok_sld C hX hb0 hb1 (show decode cL_law 1210 = .ok (.iaload, 1) by decide +kernel) rfl, ?_⟩
  refine List.forall_mem_cons.mpr ⟨ok_callV C h_X11_hoarded ⟨rfl, rfl⟩ rfl kw_1627 kw_1624 kw_1625 kw_1626 kw_11 rfl ds_X11_hoarded ⟨by decide, by decide⟩ (show decode cL_law 1211 = .ok (.invokevirtual 157, 3) by decide +kernel) rfl, ?_⟩
  refine List.forall_mem_cons.mpr ⟨ok_icmpeq C (show decode cL_law 1214 = .ok (.if_icmp .eq 254, 3) by decide +kernel) (tg := 1468) (by decide) rfl rfl, ?_⟩
  refine List.forall_mem_cons.mpr ⟨ok_iconst C (show decode cL_law 1217 = .ok (.iconst 0, 1) by decide +kernel) (by decide) rfl, ?_⟩
  refine List.forall_mem_cons.mpr ⟨ok_lret C hb1 (show decode cL_law 1218 = .ok (.ireturn, 1) by decide +kernel), ?_⟩
  refine List.forall_mem_cons.mpr ⟨ok_aload_n C (show decode cL_law 1219 = .ok (.aload_n 1, 1) by decide +kernel) rfl rfl, ?_⟩
  refine List.forall_mem_cons.mpr ⟨ok_aload_n C (show decode cL_law 1220 = .ok (.aload_n 0, 1) by decide +kernel) rfl rfl, ?_⟩
  refine List.forall_mem_cons.mpr ⟨ok_iload C (show decode cL_law 1221 = .ok (.iload 4, 2) by decide +kernel) rfl, ?_⟩
  refine List.forall_mem_cons.mpr ⟨ok_iconst C (show decode cL_law 1223 = .ok (.iconst 1, 1) by decide +kernel) (by decide) rfl, ?_⟩
  refine List.forall_mem_cons.mpr ⟨ok_iadd C (show decode cL_law 1224 = .ok (.iadd, 1) by decide +kernel) rfl, ?_⟩
  refine List.forall_mem_cons.mpr ⟨ok_sld C hX hb0 hb1 (show decode cL_law 1225 = .ok (.iaload, 1) by decide +kernel) rfl, ?_⟩
  refine List.forall_mem_cons.mpr ⟨ok_aload_n C (show decode cL_law 1226 = .ok (.aload_n 0, 1) by decide +kernel) rfl rfl, ?_⟩
  refine List.forall_mem_cons.mpr ⟨ok_iload C (show decode cL_law 1227 = .ok (.iload 4, 2) by decide +kernel) rfl, ?_⟩
  refine List.forall_mem_cons.mpr ⟨ok_iconst C (show decode cL_law 1229 = .ok (.iconst 2, 1) by decide +kernel) (by decide) rfl, ?_⟩
  refine List.forall_mem_cons.mpr ⟨ok_iadd C (show decode cL_law 1230 = .ok (.iadd, 1) by decide +kernel) rfl, ?_⟩
  refine List.forall_mem_cons.mpr ⟨ok_sld C hX hb0 hb1 (show decode cL_law 1231 = .ok (.iaload, 1) by decide +kernel) rfl, ?_⟩
  refine List.forall_mem_cons.mpr ⟨ok_callV C h_X10_drawn ⟨rfl, rfl⟩ rfl kw_878 kw_875 kw_876 kw_877 kw_1 rfl ds_X10_drawn ⟨by decide, by decide⟩ (show decode cL_law 1232 = .ok (.invokevirtual 158, 3) by decide +kernel) rfl, ?_⟩
  refine List.forall_mem_cons.mpr ⟨ok_aload_n C (show decode cL_law 1235 = .ok (.aload_n 2, 1) by decide +kernel) rfl rfl, ?_⟩
  refine List.forall_mem_cons.mpr ⟨ok_aload_n C (show decode cL_law 1236 = .ok (.aload_n 0, 1) by decide +kernel) rfl rfl, ?_⟩
  refine List.forall_mem_cons.mpr ⟨ok_iload C (show decode cL_law 1237 = .ok (.iload 4, 2) by decide +kernel) rfl, ?_⟩
  refine List.forall_mem_cons.mpr ⟨ok_iconst C (show decode cL_law 1239 = .ok (.iconst 1, 1) by decide +kernel) (by decide) rfl, ?_⟩
  refine List.forall_mem_cons.mpr ⟨ok_iadd C (show decode cL_law 1240 = .ok (.iadd, 1) by decide +kernel) rfl, ?_⟩
  refine List.forall_mem_cons.mpr ⟨ok_sld C hX hb0 hb1 (show decode cL_law 1241 = .ok (.iaload, 1) by decide +kernel) rfl, ?_⟩
  refine List.forall_mem_cons.mpr ⟨ok_aload_n C (show decode cL_law 1242 = .ok (.aload_n 0, 1) by decide +kernel) rfl rfl, ?_⟩
  refine List.forall_mem_cons.mpr ⟨ok_iload C (show decode cL_law 1243 = .ok (.iload 4, 2) by decide +kernel) rfl, ?_⟩
  refine List.forall_mem_cons.mpr ⟨ok_iconst C (show decode cL_law 1245 = .ok (.iconst 2, 1) by decide +kernel) (by decide) rfl, ?_⟩
  refine List.forall_mem_cons.mpr ⟨ok_iadd C (show decode cL_law 1246 = .ok (.iadd, 1) by decide +kernel) rfl, ?_⟩
  refine List.forall_mem_cons.mpr ⟨ok_sld C hX hb0 hb1 (show decode cL_law 1247 = .ok (.iaload, 1) by decide +kernel) rfl, ?_⟩
  refine List.forall_mem_cons.mpr ⟨ok_callV C h_X11_drawn ⟨rfl, rfl⟩ rfl kw_1631 kw_1628 kw_1629 kw_1630 kw_11 rfl ds_X11_drawn ⟨by decide, by decide⟩ (show decode cL_law 1248 = .ok (.invokevirtual 161, 3) by decide +kernel) rfl, ?_⟩
  refine List.forall_mem_cons.mpr ⟨ok_icmpeq C (show decode cL_law 1251 = .ok (.if_icmp .eq 217, 3) by decide +kernel) (tg := 1468) (by decide) rfl rfl, ?_⟩
  refine List.forall_mem_cons.mpr ⟨ok_iconst C (show decode cL_law 1254 = .ok (.iconst 0, 1) by decide +kernel) (by decide) rfl, ?_⟩
  refine List.forall_mem_cons.mpr ⟨ok_lret C hb1 (show decode cL_law 1255 = .ok (.ireturn, 1) by decide +kernel), ?_⟩
  refine List.forall_mem_cons.mpr ⟨ok_aload_n C (show decode cL_law 1256 = .ok (.aload_n 1, 1) by decide +kernel) rfl rfl, ?_⟩
  refine List.forall_mem_cons.mpr ⟨ok_aload_n C (show decode cL_law 1257 = .ok (.aload_n 0, 1) by decide +kernel) rfl rfl, ?_⟩
  refine List.forall_mem_cons.mpr ⟨ok_iload C (show decode cL_law 1258 = .ok (.iload 4, 2) by decide +kernel) rfl, ?_⟩
  refine List.forall_mem_cons.mpr ⟨ok_iconst C (show decode cL_law 1260 = .ok (.iconst 1, 1) by decide +kernel) (by decide) rfl, ?_⟩
  refine List.forall_mem_cons.mpr ⟨ok_iadd C (show decode cL_law 1261 = .ok (.iadd, 1) by decide +kernel) rfl, ?_⟩
  refine List.forall_mem_cons.mpr ⟨ok_sld C hX hb0 hb1 (show decode cL_law 1262 = .ok (.iaload, 1) by decide +kernel) rfl, ?_⟩
  refine List.forall_mem_cons.mpr ⟨ok_aload_n C (show decode cL_law 1263 = .ok (.aload_n 0, 1) by decide +kernel) rfl rfl, ?_⟩
  refine List.forall_mem_cons.mpr ⟨ok_iload C (show decode cL_law 1264 = .ok (.iload 4, 2) by decide +kernel) rfl, ?_⟩
  refine List.forall_mem_cons.mpr ⟨ok_iconst C (show decode cL_law 1266 = .ok (.iconst 2, 1) by decide +kernel) (by decide) rfl, ?_⟩
  refine List.forall_mem_cons.mpr ⟨ok_iadd C (show decode cL_law 1267 = .ok (.iadd, 1) by decide +kernel) rfl, ?_⟩
  refine List.forall_mem_cons.mpr ⟨ok_sld C hX hb0 hb1 (show decode cL_law 1268 = .ok (.iaload, 1) by decide +kernel) rfl, ?_⟩
  refine List.forall_mem_cons.mpr ⟨ok_aload_n C (show decode cL_law 1269 = .ok (.aload_n 0, 1) by decide +kernel) rfl rfl, ?_⟩
  refine List.forall_mem_cons.mpr ⟨ok_iload C (show decode cL_law 1270 = .ok (.iload 4, 2) by decide +kernel) rfl, ?_⟩
  refine List.forall_mem_cons.mpr ⟨ok_iconst C (show decode cL_law 1272 = .ok (.iconst 3, 1) by decide +kernel) (by decide) rfl, ?_⟩
  refine List.forall_mem_cons.mpr ⟨ok_iadd C (show decode cL_law 1273 = .ok (.iadd, 1) by decide +kernel) rfl, ?_⟩
  refine List.forall_mem_cons.mpr ⟨ok_sld C hX hb0 hb1 (show decode cL_law 1274 = .ok (.iaload, 1) by decide +kernel) rfl, ?_⟩
  refine List.forall_mem_cons.mpr ⟨ok_callV C h_X10_odds ⟨rfl, rfl⟩ rfl kw_905 kw_902 kw_903 kw_904 kw_1 rfl ds_X10_odds ⟨by decide, by decide⟩ (show decode cL_law 1275 = .ok (.invokevirtual 162, 3) by decide +kernel) rfl, ?_⟩
  refine List.forall_mem_cons.mpr ⟨ok_aload_n C (show decode cL_law 1278 = .ok (.aload_n 2, 1) by decide +kernel) rfl rfl, ?_⟩
  refine List.forall_mem_cons.mpr ⟨ok_aload_n C (show decode cL_law 1279 = .ok (.aload_n 0, 1) by decide +kernel) rfl rfl, ?_⟩
  refine List.forall_mem_cons.mpr ⟨ok_iload C (show decode cL_law 1280 = .ok (.iload 4, 2) by decide +kernel) rfl, ?_⟩
  refine List.forall_mem_cons.mpr ⟨ok_iconst C (show decode cL_law 1282 = .ok (.iconst 1, 1) by decide +kernel) (by decide) rfl, ?_⟩
  refine List.forall_mem_cons.mpr ⟨ok_iadd C (show decode cL_law 1283 = .ok (.iadd, 1) by decide +kernel) rfl, ?_⟩
  refine List.forall_mem_cons.mpr ⟨ok_sld C hX hb0 hb1 (show decode cL_law 1284 = .ok (.iaload, 1) by decide +kernel) rfl, ?_⟩
  refine List.forall_mem_cons.mpr ⟨ok_aload_n C (show decode cL_law 1285 = .ok (.aload_n 0, 1) by decide +kernel) rfl rfl, ?_⟩
  refine List.forall_mem_cons.mpr ⟨ok_iload C (show decode cL_law 1286 = .ok (.iload 4, 2) by decide +kernel) rfl, ?_⟩
  refine List.forall_mem_cons.mpr ⟨ok_iconst C (show decode cL_law 1288 = .ok (.iconst 2, 1) by decide +kernel) (by decide) rfl, ?_⟩
  refine List.forall_mem_cons.mpr ⟨ok_iadd C (show decode cL_law 1289 = .ok (.iadd, 1) by decide +kernel) rfl, ?_⟩
  refine List.forall_mem_cons.mpr ⟨ok_sld C hX hb0 hb1 (show decode cL_law 1290 = .ok (.iaload, 1) by decide +kernel) rfl, ?_⟩
  refine List.forall_mem_cons.mpr ⟨ok_aload_n C (show decode cL_law 1291 = .ok (.aload_n 0, 1) by decide +kernel) rfl rfl, ?_⟩
  refine List.forall_mem_cons.mpr ⟨ok_iload C (show decode cL_law 1292 = .ok (.iload 4, 2) by decide +kernel) rfl, ?_⟩
  refine List.forall_mem_cons.mpr ⟨ok_iconst C (show decode cL_law 1294 = .ok (.iconst 3, 1) by decide +kernel) (by decide) rfl, ?_⟩
  refine List.forall_mem_cons.mpr ⟨ok_iadd C (show decode cL_law 1295 = .ok (.iadd, 1) by decide +kernel) rfl, ?_⟩
  refine List.forall_mem_cons.mpr ⟨ok_sld C hX hb0 hb1 (show decode cL_law 1296 = .ok (.iaload, 1) by decide +kernel) rfl, ?_⟩
  refine List.forall_mem_cons.mpr ⟨ok_callV C h_X11_odds ⟨rfl, rfl⟩ rfl kw_1648 kw_1645 kw_1646 kw_1647 kw_11 rfl ds_X11_odds ⟨by decide, by decide⟩ (show decode cL_law 1297 = .ok (.invokevirtual 165, 3) by decide +kernel) rfl, ?_⟩
  refine List.forall_mem_cons.mpr ⟨ok_icmpeq C (show decode cL_law 1300 = .ok (.if_icmp .eq 168, 3) by decide +kernel) (tg := 1468) (by decide) rfl rfl, ?_⟩
  refine List.forall_mem_cons.mpr ⟨ok_iconst C (show decode cL_law 1303 = .ok (.iconst 0, 1) by decide +kernel) (by decide) rfl, ?_⟩
  refine List.forall_mem_cons.mpr ⟨ok_lret C hb1 (show decode cL_law 1304 = .ok (.ireturn, 1) by decide +kernel), ?_⟩
  refine List.forall_mem_cons.mpr ⟨ok_aload_n C (show decode cL_law 1305 = .ok (.aload_n 1, 1) by decide +kernel) rfl rfl, ?_⟩
  refine List.forall_mem_cons.mpr ⟨ok_aload_n C (show decode cL_law 1306 = .ok (.aload_n 0, 1) by decide +kernel) rfl rfl, ?_⟩
  refine List.forall_mem_cons.mpr ⟨ok_iload C (show decode cL_law 1307 = .ok (.iload 4, 2) by decide +kernel) rfl, ?_⟩
  refine List.forall_mem_cons.mpr ⟨ok_iconst C (show decode cL_law 1309 = .ok (.iconst 1, 1) by decide +kernel) (by decide) rfl, ?_⟩
  refine List.forall_mem_cons.mpr ⟨ok_iadd C (show decode cL_law 1310 = .ok (.iadd, 1) by decide +kernel) rfl, ?_⟩
  refine List.forall_mem_cons.mpr ⟨ok_sld C hX hb0 hb1 (show decode cL_law 1311 = .ok (.iaload, 1) by decide +kernel) rfl, ?_⟩
  refine List.forall_mem_cons.mpr ⟨ok_callV C h_X10_log ⟨rfl, rfl⟩ rfl kw_909 kw_906 kw_907 kw_908 kw_1 rfl ds_X10_log ⟨by decide, by decide⟩ (show decode cL_law 1312 = .ok (.invokevirtual 166, 3) by decide +kernel) rfl, ?_⟩
  refine List.forall_mem_cons.mpr ⟨ok_aload_n C (show decode cL_law 1315 = .ok (.aload_n 2, 1) by decide +kernel) rfl rfl, ?_⟩
  refine List.forall_mem_cons.mpr ⟨ok_aload_n C (show decode cL_law 1316 = .ok (.aload_n 0, 1) by decide +kernel) rfl rfl, ?_⟩
  refine List.forall_mem_cons.mpr ⟨ok_iload C (show decode cL_law 1317 = .ok (.iload 4, 2) by decide +kernel) rfl, ?_⟩
  refine List.forall_mem_cons.mpr ⟨ok_iconst C (show decode cL_law 1319 = .ok (.iconst 1, 1) by decide +kernel) (by decide) rfl, ?_⟩
  refine List.forall_mem_cons.mpr ⟨ok_iadd C (show decode cL_law 1320 = .ok (.iadd, 1) by decide +kernel) rfl, ?_⟩
  refine List.forall_mem_cons.mpr ⟨ok_sld C hX hb0 hb1 (show decode cL_law 1321 = .ok (.iaload, 1) by decide +kernel) rfl, ?_⟩
  refine List.forall_mem_cons.mpr ⟨ok_callV C h_X11_log ⟨rfl, rfl⟩ rfl kw_1652 kw_1649 kw_1650 kw_1651 kw_11 rfl ds_X11_log ⟨by decide, by decide⟩ (show decode cL_law 1322 = .ok (.invokevirtual 169, 3) by decide +kernel) rfl, ?_⟩
  refine List.forall_mem_cons.mpr ⟨ok_icmpeq C (show decode cL_law 1325 = .ok (.if_icmp .eq 143, 3) by decide +kernel) (tg := 1468) (by decide) rfl rfl, ?_⟩
  refine List.forall_mem_cons.mpr ⟨ok_iconst C (show decode cL_law 1328 = .ok (.iconst 0, 1) by decide +kernel) (by decide) rfl, ?_⟩
  refine List.forall_mem_cons.mpr ⟨ok_lret C hb1 (show decode cL_law 1329 = .ok (.ireturn, 1) by decide +kernel), ?_⟩
  refine List.forall_mem_cons.mpr ⟨ok_aload_n C (show decode cL_law 1330 = .ok (.aload_n 1, 1) by decide +kernel) rfl rfl, ?_⟩
  refine List.forall_mem_cons.mpr ⟨ok_aload_n C (show decode cL_law 1331 = .ok (.aload_n 0, 1) by decide +kernel) rfl rfl, ?_⟩
  exact fun _ h => absurd h List.not_mem_nil
def L_law_9 (xs : Nat → Int32) (n : Nat) (f_X10_logged : List Value → ab_H → Option ab_O) (f_X11_logged : List Value → ab_H → Option ab_O) (f_X10_sentence : List Value → ab_H → Option ab_O) (f_X11_sentence : List Value → ab_H → Option ab_O) (f_X10_said : List Value → ab_H → Option ab_O) (f_X11_said : List Value → ab_H → Option ab_O) (f_X10_image : List Value → ab_H → Option ab_O) (f_X11_image : List Value → ab_H → Option ab_O) (f_X10_restore : List Value → ab_H → Option ab_O) (f_X11_restore : List Value → ab_H → Option ab_O) (f_X10_count : List Value → ab_H → Option ab_O) (f_X11_count : List Value → ab_H → Option ab_O) : List (Nat × ab_A) := [
  (1332, ab_nx 1334 (ab_iload 4)),
  (1334, ab_nx 1335 (ab_lit (.int 1))),
  (1335, ab_nx 1336 (ab_bin (fun x y => x + y))),
  (1336, ab_nx 1337 (ab_sld xs n)),
  (1337, ab_nx 1340 (ab_callV 2 10 f_X10_logged 0 0 600002 7302231)),
  (1340, ab_nx 1341 (ab_aload 2)),
  (1341, ab_nx 1342 (ab_aload 0)),
  (1342, ab_nx 1344 (ab_iload 4)),
  (1344, ab_nx 1345 (ab_lit (.int 1))),
  (1345, ab_nx 1346 (ab_bin (fun x y => x + y))),
  (1346, ab_nx 1347 (ab_sld xs n)),
  (1347, ab_nx 1350 (ab_callV 2 11 f_X11_logged 0 0 600002 7302231)),
  (1350, ab_icmp 1353 1468 (fun x y => decide (x = y))),
  (1353, ab_nx 1354 (ab_lit (.int 0))),
  (1354, ab_lret),
  (1355, ab_nx 1356 (ab_aload 1)),
  (1356, ab_nx 1359 (ab_callV 1 10 f_X10_sentence 0 0 600002 7302231)),
  (1359, ab_nx 1360 (ab_aload 2)),
  (1360, ab_nx 1363 (ab_callV 1 11 f_X11_sentence 0 0 600002 7302231)),
  (1363, ab_icmp 1366 1468 (fun x y => decide (x = y))),
  (1366, ab_nx 1367 (ab_lit (.int 0))),
  (1367, ab_lret),
  (1368, ab_nx 1369 (ab_aload 1)),
  (1369, ab_nx 1370 (ab_aload 0)),
  (1370, ab_nx 1372 (ab_iload 4)),
  (1372, ab_nx 1373 (ab_lit (.int 1))),
  (1373, ab_nx 1374 (ab_bin (fun x y => x + y))),
  (1374, ab_nx 1375 (ab_sld xs n)),
  (1375, ab_nx 1378 (ab_callV 2 10 f_X10_said 0 0 600002 7302231)),
  (1378, ab_nx 1379 (ab_aload 2)),
  (1379, ab_nx 1380 (ab_aload 0)),
  (1380, ab_nx 1382 (ab_iload 4)),
  (1382, ab_nx 1383 (ab_lit (.int 1))),
  (1383, ab_nx 1384 (ab_bin (fun x y => x + y))),
  (1384, ab_nx 1385 (ab_sld xs n)),
  (1385, ab_nx 1388 (ab_callV 2 11 f_X11_said 0 0 600002 7302231)),
  (1388, ab_icmp 1391 1468 (fun x y => decide (x = y))),
  (1391, ab_nx 1392 (ab_lit (.int 0))),
  (1392, ab_lret),
  (1393, ab_nx 1394 (ab_aload 1)),
  (1394, ab_nx 1395 (ab_aload 0)),
  (1395, ab_nx 1397 (ab_iload 4)),
  (1397, ab_nx 1398 (ab_lit (.int 1))),
  (1398, ab_nx 1399 (ab_bin (fun x y => x + y))),
  (1399, ab_nx 1400 (ab_sld xs n)),
  (1400, ab_nx 1403 (ab_callV 2 10 f_X10_image 21 410 600002 7302231)),
  (1403, ab_nx 1404 (ab_aload 2)),
  (1404, ab_nx 1405 (ab_aload 0)),
  (1405, ab_nx 1407 (ab_iload 4)),
  (1407, ab_nx 1408 (ab_lit (.int 1))),
  (1408, ab_nx 1409 (ab_bin (fun x y => x + y))),
  (1409, ab_nx 1410 (ab_sld xs n)),
  (1410, ab_nx 1413 (ab_callV 2 11 f_X11_image 0 0 600002 7302231)),
  (1413, ab_icmp 1416 1468 (fun x y => decide (x = y))),
  (1416, ab_nx 1417 (ab_lit (.int 0))),
  (1417, ab_lret),
  (1418, ab_nx 1419 (ab_aload 1)),
  (1419, ab_nx 1420 (ab_aload 0)),
  (1420, ab_nx 1422 (ab_iload 4)),
  (1422, ab_nx 1423 (ab_lit (.int 1))),
  (1423, ab_nx 1424 (ab_bin (fun x y => x + y))),
  (1424, ab_nx 1425 (ab_sld xs n)),
  (1425, ab_nx 1428 (ab_callV 2 10 f_X10_restore 0 0 600002 7302231)),
  (1428, ab_nx 1429 (ab_aload 2)),
  (1429, ab_nx 1430 (ab_aload 0)),
  (1430, ab_nx 1432 (ab_iload 4)),
  (1432, ab_nx 1433 (ab_lit (.int 1))),
  (1433, ab_nx 1434 (ab_bin (fun x y => x + y))),
  (1434, ab_nx 1435 (ab_sld xs n)),
  (1435, ab_nx 1438 (ab_callV 2 11 f_X11_restore 0 0 600002 7302231)),
  (1438, ab_icmp 1441 1468 (fun x y => decide (x = y))),
  (1441, ab_nx 1442 (ab_lit (.int 0))),
  (1442, ab_lret),
  (1443, ab_nx 1444 (ab_aload 1)),
  (1444, ab_nx 1445 (ab_aload 0)),
  (1445, ab_nx 1447 (ab_iload 4)),
  (1447, ab_nx 1448 (ab_lit (.int 1))),
  (1448, ab_nx 1449 (ab_bin (fun x y => x + y))),
  (1449, ab_nx 1450 (ab_sld xs n)),
  (1450, ab_nx 1453 (ab_callV 2 10 f_X10_count 0 0 600002 7302231)),
  (1453, ab_nx 1454 (ab_aload 2)),
  (1454, ab_nx 1455 (ab_aload 0)),
  (1455, ab_nx 1457 (ab_iload 4)),
  (1457, ab_nx 1458 (ab_lit (.int 1))),
  (1458, ab_nx 1459 (ab_bin (fun x y => x + y))),
  (1459, ab_nx 1460 (ab_sld xs n)),
  (1460, ab_nx 1463 (ab_callV 2 11 f_X11_count 0 0 600002 7302231)),
  (1463, ab_icmp 1466 1468 (fun x y => decide (x = y))),
  (1466, ab_nx 1467 (ab_lit (.int 0))),
  (1467, ab_lret)]
set_option maxRecDepth 100000 in
set_option maxHeartbeats 4000000 in
theorem law_9 {p : Program} {l : Launch} {e : Env} {s : State} {m : MethodId} {below : List Frame} {meth : Method} {c : Code} {cd : Cond} {b : ab_B} {D : va_G} {cA : Nat → ClassId} {o : ab_O} {xs : Nat → Int32} {n bb : Nat} {nm : String} (C : ab_cx p l e room_1 s m #[Value.ref bb] below meth c D ab_cl cA (ab_E0 b) (⟨RL, nm, "([I)Z"⟩ : MethodName) cL_law 7 ret (cd :: ab_G) room_1) (hX : va_X bb n xs s s.heap) (hb0 : b.2 0 = bb) (hb1 : b.1 = s.heap.size ∧ bb < s.heap.size) {f_X10_logged : List Value → ab_H → Option ab_O} (h_X10_logged : ab_M l b D ab_cl cA (ab_E0 b) yX10_logged (Cond.code yX10_logged cX10_logged 2 (some .int) :: ab_G) ({ frames := 1, cells := 0, slots := 0, locals := 100 } : Room) f_X10_logged) {f_X11_logged : List Value → ab_H → Option ab_O} (h_X11_logged : ab_M l b D ab_cl cA (ab_E0 b) yX11_logged (Cond.code yX11_logged cX11_logged 2 (some .int) :: ab_G) ({ frames := 2, cells := 0, slots := 0, locals := 200 } : Room) f_X11_logged) {f_X10_sentence : List Value → ab_H → Option ab_O} (h_X10_sentence : ab_M l b D ab_cl cA (ab_E0 b) yX10_sentence (Cond.code yX10_sentence cX10_sentence 2 (some .int) :: ab_G) ({ frames := 8, cells := 0, slots := 0, locals := 800 } : Room) f_X10_sentence) {f_X11_sentence : List Value → ab_H → Option ab_O} (h_X11_sentence : ab_M l b D ab_cl cA (ab_E0 b) yX11_sentence (Cond.code yX11_sentence cX11_sentence 3 (some .int) :: ab_G) ({ frames := 5, cells := 0, slots := 0, locals := 500 } : Room) f_X11_sentence) {f_X10_said : List Value → ab_H → Option ab_O} (h_X10_said : ab_M l b D ab_cl cA (ab_E0 b) yX10_said (Cond.code yX10_said cX10_said 4 (some .int) :: ab_G) ({ frames := 6, cells := 0, slots := 0, locals := 600 } : Room) f_X10_said) {f_X11_said : List Value → ab_H → Option ab_O} (h_X11_said : ab_M l b D ab_cl cA (ab_E0 b) yX11_said (Cond.code yX11_said cX11_said 4 (some .int) :: ab_G) ({ frames := 6, cells := 0, slots := 0, locals := 600 } : Room) f_X11_said) {f_X10_image : List Value → ab_H → Option ab_O} (h_X10_image : ab_M l b D ab_cl cA (ab_E0 b) yX10_image (Cond.code yX10_image cX10_image 3 (some .boolean) :: ab_G) ({ frames := 4, cells := 21, slots := 410, locals := 400 } : Room) f_X10_image) {f_X11_image : List Value → ab_H → Option ab_O} (h_X11_image : ab_M l b D ab_cl cA (ab_E0 b) yX11_image (Cond.code yX11_image cX11_image 3 (some .boolean) :: ab_G) ({ frames := 2, cells := 0, slots := 0, locals := 200 } : Room) f_X11_image) {f_X10_restore : List Value → ab_H → Option ab_O} (h_X10_restore : ab_M l b D ab_cl cA (ab_E0 b) yX10_restore (Cond.code yX10_restore cX10_restore 3 (some .boolean) :: ab_G) ({ frames := 3, cells := 0, slots := 0, locals := 300 } : Room) f_X10_restore) {f_X11_restore : List Value → ab_H → Option ab_O} (h_X11_restore : ab_M l b D ab_cl cA (ab_E0 b) yX11_restore (Cond.code yX11_restore cX11_restore 3 (some .boolean) :: ab_G) ({ frames := 2, cells := 0, slots := 0, locals := 200 } : Room) f_X11_restore) {f_X10_count : List Value → ab_H → Option ab_O} (h_X10_count : ab_M l b D ab_cl cA (ab_E0 b) yX10_count (Cond.code yX10_count cX10_count 2 (some .int) :: ab_G) ({ frames := 1, cells := 0, slots := 0, locals := 100 } : Room) f_X10_count) {f_X11_count : List Value → ab_H → Option ab_O} (h_X11_count : ab_M l b D ab_cl cA (ab_E0 b) yX11_count (Cond.code yX11_count cX11_count 2 (some .int) :: ab_G) ({ frames := 2, cells := 0, slots := 0, locals := 200 } : Room) f_X11_count) : ∀ q ∈ L_law_9 xs n f_X10_logged f_X11_logged f_X10_sentence f_X11_sentence f_X10_said f_X11_said f_X10_image f_X11_image f_X10_restore f_X11_restore f_X10_count f_X11_count, ab_ok p l e room_1 s m #[Value.ref bb] below meth c (lw_Z below #[Value.ref bb] s) b D ab_cl cA 7 o (fun i => i) q.1 q.2 := by
  unfold L_law_9
  refine List.forall_mem_cons.mpr ⟨ok_iload C (show decode cL_law 1332 = .ok (.iload 4, 2) by decide +kernel) rfl, ?_⟩
  refine List.forall_mem_cons.mpr ⟨ok_iconst C (show decode cL_law 1334 = .ok (.iconst 1, 1) by decide +kernel) (by decide) rfl, ?_⟩
  refine List.forall_mem_cons.mpr ⟨ok_iadd C (show decode cL_law 1335 = .ok (.iadd, 1) by decide +kernel) rfl, ?_⟩
  refine List.forall_mem_cons.mpr ⟨ok_sld C hX hb0 hb1 (show decode cL_law 1336 = .ok (.iaload, 1) by decide +kernel) rfl, ?_⟩
  refine List.forall_mem_cons.mpr ⟨ok_callV C h_X10_logged ⟨rfl, rfl⟩ rfl kw_952 kw_949 kw_950 kw_951 kw_1 rfl ds_X10_logged ⟨by decide, by decide⟩ (show decode cL_law 1337 = .ok (.invokevirtual 170, 3) by decide +kernel) rfl, ?_⟩
  refine List.forall_mem_cons.mpr ⟨ok_aload_n C (show decode cL_law 1340 = .ok (.aload_n 2, 1) by decide +kernel) rfl rfl, ?_⟩
  refine List.forall_mem_cons.mpr ⟨ok_aload_n C (show decode cL_law 1341 = .ok (.aload_n 0, 1) by decide +kernel) rfl rfl, ?_⟩
  refine List.forall_mem_cons.mpr ⟨ok_iload C (show decode cL_law 1342 = .ok (.iload 4, 2) by decide +kernel) rfl, ?_⟩
  refine List.forall_mem_cons.mpr ⟨ok_iconst C (show decode cL_law 1344 = .ok (.iconst 1, 1) by decide +kernel) (by decide) rfl, ?_⟩
  refine List.forall_mem_cons.mpr ⟨ok_iadd C (show decode cL_law 1345 = .ok (.iadd, 1) by decide +kernel) rfl, ?_⟩
  refine List.forall_mem_cons.mpr ⟨ok_sld C hX hb0 hb1 (show decode cL_law 1346 = .ok (.iaload, 1) by decide +kernel) rfl, ?_⟩
  refine List.forall_mem_cons.mpr ⟨ok_callV C h_X11_logged ⟨rfl, rfl⟩ rfl kw_1664 kw_1661 kw_1662 kw_1663 kw_11 rfl ds_X11_logged ⟨by decide, by decide⟩ (show decode cL_law 1347 = .ok (.invokevirtual 173, 3) by decide +kernel) rfl, ?_⟩
  refine List.forall_mem_cons.mpr ⟨ok_icmpeq C (show decode cL_law 1350 = .ok (.if_icmp .eq 118, 3) by decide +kernel) (tg := 1468) (by decide) rfl rfl, ?_⟩
  refine List.forall_mem_cons.mpr ⟨ok_iconst C (show decode cL_law 1353 = .ok (.iconst 0, 1) by decide +kernel) (by decide) rfl, ?_⟩
  refine List.forall_mem_cons.mpr ⟨ok_lret C hb1 (show decode cL_law 1354 = .ok (.ireturn, 1) by decide +kernel), ?_⟩
  refine List.forall_mem_cons.mpr ⟨ok_aload_n C (show decode cL_law 1355 = .ok (.aload_n 1, 1) by decide +kernel) rfl rfl, ?_⟩
  refine List.forall_mem_cons.mpr ⟨ok_callV C h_X10_sentence ⟨rfl, rfl⟩ rfl kw_956 kw_953 kw_954 kw_955 kw_1 rfl ds_X10_sentence ⟨by decide, by decide⟩ (show decode cL_law 1356 = .ok (.invokevirtual 174, 3) by decide +kernel) rfl, ?_⟩
  refine List.forall_mem_cons.mpr ⟨ok_aload_n C (show decode cL_law 1359 = .ok (.aload_n 2, 1) by decide +kernel) rfl rfl, ?_⟩
  refine List.forall_mem_cons.mpr ⟨ok_callV C h_X11_sentence ⟨rfl, rfl⟩ rfl kw_1668 kw_1665 kw_1666 kw_1667 kw_11 rfl ds_X11_sentence ⟨by decide, by decide⟩ (show decode cL_law 1360 = .ok (.invokevirtual 177, 3) by decide +kernel) rfl, ?_⟩
  refine List.forall_mem_cons.mpr ⟨ok_icmpeq C (show decode cL_law 1363 = .ok (.if_icmp .eq 105, 3) by decide +kernel) (tg := 1468) (by decide) rfl rfl, ?_⟩
  refine List.forall_mem_cons.mpr ⟨ok_iconst C (show decode cL_law 1366 = .ok (.iconst 0, 1) by decide +kernel) (by decide) rfl, ?_⟩
  refine List.forall_mem_cons.mpr ⟨ok_lret C hb1 (show decode cL_law 1367 = .ok (.ireturn, 1) by decide +kernel), ?_⟩
  refine List.forall_mem_cons.mpr ⟨ok_aload_n C (show decode cL_law 1368 = .ok (.aload_n 1, 1) by decide +kernel) rfl rfl, ?_⟩
  refine List.forall_mem_cons.mpr ⟨ok_aload_n C (show decode cL_law 1369 = .ok (.aload_n 0, 1) by decide +kernel) rfl rfl, ?_⟩
  refine List.forall_mem_cons.mpr ⟨ok_iload C (show decode cL_law 1370 = .ok (.iload 4, 2) by decide +kernel) rfl, ?_⟩
  refine List.forall_mem_cons.mpr ⟨ok_iconst C (show decode cL_law 1372 = .ok (.iconst 1, 1) by decide +kernel) (by decide) rfl, ?_⟩
  refine List.forall_mem_cons.mpr ⟨ok_iadd C (show decode cL_law 1373 = .ok (.iadd, 1) by decide +kernel) rfl, ?_⟩
  refine List.forall_mem_cons.mpr ⟨ok_sld C hX hb0 hb1 (show decode cL_law 1374 = .ok (.iaload, 1) by decide +kernel) rfl, ?_⟩
  refine List.forall_mem_cons.mpr ⟨ok_callV C h_X10_said ⟨rfl, rfl⟩ rfl kw_995 kw_992 kw_993 kw_994 kw_1 rfl ds_X10_said ⟨by decide, by decide⟩ (show decode cL_law 1375 = .ok (.invokevirtual 178, 3) by decide +kernel) rfl, ?_⟩
  refine List.forall_mem_cons.mpr ⟨ok_aload_n C (show decode cL_law 1378 = .ok (.aload_n 2, 1) by decide +kernel) rfl rfl, ?_⟩
  refine List.forall_mem_cons.mpr ⟨ok_aload_n C (show decode cL_law 1379 = .ok (.aload_n 0, 1) by decide +kernel) rfl rfl, ?_⟩
  refine List.forall_mem_cons.mpr ⟨ok_iload C (show decode cL_law 1380 = .ok (.iload 4, 2) by decide +kernel) rfl, ?_⟩
  refine List.forall_mem_cons.mpr ⟨ok_iconst C (show decode cL_law 1382 = .ok (.iconst 1, 1) by decide +kernel) (by decide) rfl, ?_⟩
  refine List.forall_mem_cons.mpr ⟨ok_iadd C (show decode cL_law 1383 = .ok (.iadd, 1) by decide +kernel) rfl, ?_⟩
  refine List.forall_mem_cons.mpr ⟨ok_sld C hX hb0 hb1 (show decode cL_law 1384 = .ok (.iaload, 1) by decide +kernel) rfl, ?_⟩
  refine List.forall_mem_cons.mpr ⟨ok_callV C h_X11_said ⟨rfl, rfl⟩ rfl kw_1696 kw_1693 kw_1694 kw_1695 kw_11 rfl ds_X11_said ⟨by decide, by decide⟩ (show decode cL_law 1385 = .ok (.invokevirtual 181, 3) by decide +kernel) rfl, ?_⟩
  refine List.forall_mem_cons.mpr ⟨ok_icmpeq C (show decode cL_law 1388 = .ok (.if_icmp .eq 80, 3) by decide +kernel) (tg := 1468) (by decide) rfl rfl, ?_⟩
  refine List.forall_mem_cons.mpr ⟨ok_iconst C (show decode cL_law 1391 = .ok (.iconst 0, 1) by decide +kernel) (by decide) rfl, ?_⟩
  refine List.forall_mem_cons.mpr ⟨ok_lret C hb1 (show decode cL_law 1392 = .ok (.ireturn, 1) by decide +kernel), ?_⟩
  refine List.forall_mem_cons.mpr ⟨ok_aload_n C (show decode cL_law 1393 = .ok (.aload_n 1, 1) by decide +kernel) rfl rfl, ?_⟩
  refine List.forall_mem_cons.mpr ⟨ok_aload_n C (show decode cL_law 1394 = .ok (.aload_n 0, 1) by decide +kernel) rfl rfl, ?_⟩
  refine List.forall_mem_cons.mpr ⟨ok_iload C (show decode cL_law 1395 = .ok (.iload 4, 2) by decide +kernel) rfl, ?_⟩
  refine List.forall_mem_cons.mpr ⟨ok_iconst C (show decode cL_law 1397 = .ok (.iconst 1, 1) by decide +kernel) (by decide) rfl, ?_⟩
  refine List.forall_mem_cons.mpr ⟨ok_iadd C (show decode cL_law 1398 = .ok (.iadd, 1) by decide +kernel) rfl, ?_⟩
  refine List.forall_mem_cons.mpr ⟨ok_sld C hX hb0 hb1 (show decode cL_law 1399 = .ok (.iaload, 1) by decide +kernel) rfl, ?_⟩
  refine List.forall_mem_cons.mpr ⟨ok_callV C h_X10_image ⟨rfl, rfl⟩ rfl kw_1020 kw_1017 kw_1018 kw_1019 kw_1 rfl ds_X10_image ⟨by decide, by decide⟩ (show decode cL_law 1400 = .ok (.invokevirtual 182, 3) by decide +kernel) rfl, ?_⟩
  refine List.forall_mem_cons.mpr ⟨ok_aload_n C (show decode cL_law 1403 = .ok (.aload_n 2, 1) by decide +kernel) rfl rfl, ?_⟩
  refine List.forall_mem_cons.mpr ⟨ok_aload_n C (show decode cL_law 1404 = .ok (.aload_n 0, 1) by decide +kernel) rfl rfl, ?_⟩
  refine List.forall_mem_cons.mpr ⟨ok_iload C (show decode cL_law 1405 = .ok (.iload 4, 2) by decide +kernel) rfl, ?_⟩
  refine List.forall_mem_cons.mpr ⟨ok_iconst C (show decode cL_law 1407 = .ok (.iconst 1, 1) by decide +kernel) (by decide) rfl, ?_⟩
  refine List.forall_mem_cons.mpr ⟨ok_iadd C (show decode cL_law 1408 = .ok (.iadd, 1) by decide +kernel) rfl, ?_⟩
  refine List.forall_mem_cons.mpr ⟨ok_sld C hX hb0 hb1 (show decode cL_law 1409 = .ok (.iaload, 1) by decide +kernel) rfl, ?_⟩
  refine List.forall_mem_cons.mpr ⟨ok_callV C h_X11_image ⟨rfl, rfl⟩ rfl kw_1708 kw_1705 kw_1706 kw_1707 kw_11 rfl ds_X11_image ⟨by decide, by decide⟩ (show decode cL_law 1410 = .ok (.invokevirtual 185, 3) by decide +kernel) rfl, ?_⟩
  refine List.forall_mem_cons.mpr ⟨ok_icmpeq C (show decode cL_law 1413 = .ok (.if_icmp .eq 55, 3) by decide +kernel) (tg := 1468) (by decide) rfl rfl, ?_⟩
  refine List.forall_mem_cons.mpr ⟨ok_iconst C (show decode cL_law 1416 = .ok (.iconst 0, 1) by decide +kernel) (by decide) rfl, ?_⟩
  refine List.forall_mem_cons.mpr ⟨ok_lret C hb1 (show decode cL_law 1417 = .ok (.ireturn, 1) by decide +kernel), ?_⟩
  refine List.forall_mem_cons.mpr ⟨ok_aload_n C (show decode cL_law 1418 = .ok (.aload_n 1, 1) by decide +kernel) rfl rfl, ?_⟩
  refine List.forall_mem_cons.mpr ⟨ok_aload_n C (show decode cL_law 1419 = .ok (.aload_n 0, 1) by decide +kernel) rfl rfl, ?_⟩
  refine List.forall_mem_cons.mpr ⟨ok_iload C (show decode cL_law 1420 = .ok (.iload 4, 2) by decide +kernel) rfl, ?_⟩
  refine List.forall_mem_cons.mpr ⟨ok_iconst C (show decode cL_law 1422 = .ok (.iconst 1, 1) by decide +kernel) (by decide) rfl, ?_⟩
  refine List.forall_mem_cons.mpr ⟨ok_iadd C (show decode cL_law 1423 = .ok (.iadd, 1) by decide +kernel) rfl, ?_⟩
  refine List.forall_mem_cons.mpr ⟨ok_sld C hX hb0 hb1 (show decode cL_law 1424 = .ok (.iaload, 1) by decide +kernel) rfl, ?_⟩
  refine List.forall_mem_cons.mpr ⟨ok_callV C h_X10_restore ⟨rfl, rfl⟩ rfl kw_1058 kw_1055 kw_1056 kw_1057 kw_1 rfl ds_X10_restore ⟨by decide, by decide⟩ (show decode cL_law 1425 = .ok (.invokevirtual 186, 3) by decide +kernel) rfl, ?_⟩
  refine List.forall_mem_cons.mpr ⟨ok_aload_n C (show decode cL_law 1428 = .ok (.aload_n 2, 1) by decide +kernel) rfl rfl, ?_⟩
  refine List.forall_mem_cons.mpr ⟨ok_aload_n C (show decode cL_law 1429 = .ok (.aload_n 0, 1) by decide +kernel) rfl rfl, ?_⟩
  refine List.forall_mem_cons.mpr ⟨ok_iload C (show decode cL_law 1430 = .ok (.iload 4, 2) by decide +kernel) rfl, ?_⟩
  refine List.forall_mem_cons.mpr ⟨ok_iconst C (show decode cL_law 1432 = .ok (.iconst 1, 1) by decide +kernel) (by decide) rfl, ?_⟩
  refine List.forall_mem_cons.mpr ⟨ok_iadd C (show decode cL_law 1433 = .ok (.iadd, 1) by decide +kernel) rfl, ?_⟩
  refine List.forall_mem_cons.mpr ⟨ok_sld C hX hb0 hb1 (show decode cL_law 1434 = .ok (.iaload, 1) by decide +kernel) rfl, ?_⟩
  refine List.forall_mem_cons.mpr ⟨ok_callV C h_X11_restore ⟨rfl, rfl⟩ rfl kw_1712 kw_1709 kw_1710 kw_1711 kw_11 rfl ds_X11_restore ⟨by decide, by decide⟩ (show decode cL_law 1435 = .ok (.invokevirtual 189, 3) by decide +kernel) rfl, ?_⟩
  refine List.forall_mem_cons.mpr ⟨ok_icmpeq C (show decode cL_law 1438 = .ok (.if_icmp .eq 30, 3) by decide +kernel) (tg := 1468) (by decide) rfl rfl, ?_⟩
  refine List.forall_mem_cons.mpr ⟨ok_iconst C (show decode cL_law 1441 = .ok (.iconst 0, 1) by decide +kernel) (by decide) rfl, ?_⟩
  refine List.forall_mem_cons.mpr ⟨ok_lret C hb1 (show decode cL_law 1442 = .ok (.ireturn, 1) by decide +kernel), ?_⟩
  refine List.forall_mem_cons.mpr ⟨ok_aload_n C (show decode cL_law 1443 = .ok (.aload_n 1, 1) by decide +kernel) rfl rfl, ?_⟩
  refine List.forall_mem_cons.mpr ⟨ok_aload_n C (show decode cL_law 1444 = .ok (.aload_n 0, 1) by decide +kernel) rfl rfl, ?_⟩
  refine List.forall_mem_cons.mpr ⟨ok_iload C (show decode cL_law 1445 = .ok (.iload 4, 2) by decide +kernel) rfl, ?_⟩
  refine List.forall_mem_cons.mpr ⟨ok_iconst C (show decode cL_law 1447 = .ok (.iconst 1, 1) by decide +kernel) (by decide) rfl, ?_⟩
  refine List.forall_mem_cons.mpr ⟨ok_iadd C (show decode cL_law 1448 = .ok (.iadd, 1) by decide +kernel) rfl, ?_⟩
  refine List.forall_mem_cons.mpr ⟨ok_sld C hX hb0 hb1 (show decode cL_law 1449 = .ok (.iaload, 1) by decide +kernel) rfl, ?_⟩
  refine List.forall_mem_cons.mpr ⟨ok_callV C h_X10_count ⟨rfl, rfl⟩ rfl kw_696 kw_693 kw_694 kw_695 kw_1 rfl ds_X10_count ⟨by decide, by decide⟩ (show decode cL_law 1450 = .ok (.invokevirtual 190, 3) by decide +kernel) rfl, ?_⟩
  refine List.forall_mem_cons.mpr ⟨ok_aload_n C (show decode cL_law 1453 = .ok (.aload_n 2, 1) by decide +kernel) rfl rfl, ?_⟩
  refine List.forall_mem_cons.mpr ⟨ok_aload_n C (show decode cL_law 1454 = .ok (.aload_n 0, 1) by decide +kernel) rfl rfl, ?_⟩
  refine List.forall_mem_cons.mpr ⟨ok_iload C (show decode cL_law 1455 = .ok (.iload 4, 2) by decide +kernel) rfl, ?_⟩
  refine List.forall_mem_cons.mpr ⟨ok_iconst C (show decode cL_law 1457 = .ok (.iconst 1, 1) by decide +kernel) (by decide) rfl, ?_⟩
  refine List.forall_mem_cons.mpr ⟨ok_iadd C (show decode cL_law 1458 = .ok (.iadd, 1) by decide +kernel) rfl, ?_⟩
  refine List.forall_mem_cons.mpr ⟨ok_sld C hX hb0 hb1 (show decode cL_law 1459 = .ok (.iaload, 1) by decide +kernel) rfl, ?_⟩
  refine List.forall_mem_cons.mpr ⟨ok_callV C h_X11_count ⟨rfl, rfl⟩ rfl kw_1716 kw_1713 kw_1714 kw_1715 kw_11 rfl ds_X11_count ⟨by decide, by decide⟩ (show decode cL_law 1460 = .ok (.invokevirtual 193, 3) by decide +kernel) rfl, ?_⟩
  refine List.forall_mem_cons.mpr ⟨ok_icmpeq C (show decode cL_law 1463 = .ok (.if_icmp .eq 5, 3) by decide +kernel) (tg := 1468) (by decide) rfl rfl, ?_⟩
  refine List.forall_mem_cons.mpr ⟨ok_iconst C (show decode cL_law 1466 = .ok (.iconst 0, 1) by decide +kernel) (by decide) rfl, ?_⟩
  refine List.forall_mem_cons.mpr ⟨ok_lret C hb1 (show decode cL_law 1467 = .ok (.ireturn, 1) by decide +kernel), ?_⟩
  exact fun _ h => absurd h List.not_mem_nil
def L_law_10 (xs : Nat → Int32) (n : Nat) : List (Nat × ab_A) := [
  (1468, ab_nx 1471 (ab_iinc 4 6)),
  (1471, ab_goto 23),
  (1474, ab_nx 1475 (ab_lit (.int 1))),
  (1475, ab_lret)]
set_option maxRecDepth 100000 in
set_option maxHeartbeats 4000000 in
theorem law_10 {p : Program} {l : Launch} {e : Env} {s : State} {m : MethodId} {below : List Frame} {meth : Method} {c : Code} {cd : Cond} {b : ab_B} {D : va_G} {cA : Nat → ClassId} {o : ab_O} {xs : Nat → Int32} {n bb : Nat} {nm : String} (C : ab_cx p l e room_1 s m #[Value.ref bb] below meth c D ab_cl cA (ab_E0 b) (⟨RL, nm, "([I)Z"⟩ : MethodName) cL_law 7 ret (cd :: ab_G) room_1) (hX : va_X bb n xs s s.heap) (hb0 : b.2 0 = bb) (hb1 : b.1 = s.heap.size ∧ bb < s.heap.size) : ∀ q ∈ L_law_10 xs n, ab_ok p l e room_1 s m #[Value.ref bb] below meth c (lw_Z below #[Value.ref bb] s) b D ab_cl cA 7 o (fun i => i) q.1 q.2 := by
  unfold L_law_10
  refine List.forall_mem_cons.mpr ⟨ok_iinc C (show decode cL_law 1468 = .ok (.iinc 4 6, 3) by decide +kernel) (by decide) (by decide) rfl, ?_⟩
  refine List.forall_mem_cons.mpr ⟨ok_goto C (show decode cL_law 1471 = .ok (.goto (-1448), 3) by decide +kernel) (tg := 23) (by decide) rfl, ?_⟩
  refine List.forall_mem_cons.mpr ⟨ok_iconst C (show decode cL_law 1474 = .ok (.iconst 1, 1) by decide +kernel) (by decide) rfl, ?_⟩
  refine List.forall_mem_cons.mpr ⟨ok_lret C hb1 (show decode cL_law 1475 = .ok (.ireturn, 1) by decide +kernel), ?_⟩
  exact fun _ h => absurd h List.not_mem_nil
def L_law (xs : Nat → Int32) (n F : Nat) : List (Nat × ab_A) := L_law_0 xs n (Y_X10_init F) (Y_X11_init F) (Y_X10_feed F) (Y_X11_feed F) (Y_X10_end F) ++ (L_law_1 xs n (Y_X11_end F) (Y_X10_strait F) (Y_X11_strait F) (Y_X10_fault F) (Y_X11_fault F) (Y_X10_good F) (Y_X11_good F) (Y_X10_crossed F) (Y_X11_crossed F) ++ (L_law_2 xs n (Y_L_man F) (Y_X11_man F) (Y_X11_thrown F) (Y_X10_apart F) (Y_X11_apart F) (Y_X10_now F) (Y_X11_now F) ++ (L_law_3 xs n (Y_X10_hoard F) (Y_X11_hoard F) (Y_X10_bare F) (Y_X11_bare F) (Y_X10_waste F) ++ (L_law_4 xs n (Y_X11_waste F) (Y_X10_die F) (Y_X11_die F) (Y_X10_days F) (Y_X11_days F) (Y_X10_undo F) (Y_X11_undo F) (Y_X10_lacks F) (Y_X11_lacks F) (Y_X10_falses F) (Y_X11_falses F) ++ (L_law_5 xs n (Y_X10_going F) (Y_X11_going F) (Y_X10_goes F) (Y_X11_goes F) (Y_X10_crosses F) (Y_X11_crosses F) (Y_X10_comes F) (Y_X11_comes F) ++ (L_law_6 xs n (Y_X10_without F) (Y_X11_without F) (Y_X10_meet F) (Y_X11_meet F) (Y_X10_loads F) (Y_X11_loads F) (Y_X10_which F) (Y_X11_which F) (Y_X10_settles F) (Y_X11_settles F) ++ (L_law_7 xs n (Y_X10_hunger F) (Y_X11_hunger F) (Y_X10_prices F) (Y_X11_prices F) (Y_X10_price F) (Y_X11_price F) (Y_X10_dearest F) (Y_X11_dearest F) (Y_X10_rats F) (Y_X11_rats F) (Y_X10_hoarded F) ++ (L_law_8 xs n (Y_X11_hoarded F) (Y_X10_drawn F) (Y_X11_drawn F) (Y_X10_odds F) (Y_X11_odds F) (Y_X10_log F) (Y_X11_log F) ++ (L_law_9 xs n (Y_X10_logged F) (Y_X11_logged F) (Y_X10_sentence F) (Y_X11_sentence F) (Y_X10_said F) (Y_X11_said F) (Y_X10_image F) (Y_X11_image F) (Y_X10_restore F) (Y_X11_restore F) (Y_X10_count F) (Y_X11_count F) ++ (L_law_10 xs n))))))))))
theorem law_ok {p : Program} {l : Launch} (htr : l.stackTraces = false) {e : Env} {s : State} {m : MethodId} {below : List Frame} {meth : Method} {c : Code} {cd : Cond} {b : ab_B} {D : va_G} {cA : Nat → ClassId} {o : ab_O} {xs : Nat → Int32} {n bb : Nat} {nm : String} (F : Nat) (C : ab_cx p l e room_1 s m #[Value.ref bb] below meth c D ab_cl cA (ab_E0 b) (⟨RL, nm, "([I)Z"⟩ : MethodName) cL_law 7 ret (cd :: ab_G) room_1) (hX : va_X bb n xs s s.heap) (hb0 : b.2 0 = bb) (hb1 : b.1 = s.heap.size ∧ bb < s.heap.size) : ∀ q ∈ L_law xs n F, ab_ok p l e room_1 s m #[Value.ref bb] below meth c (lw_Z below #[Value.ref bb] s) b D ab_cl cA 7 o (fun i => i) q.1 q.2 := List.forall_mem_append.mpr ⟨law_0 C hX hb0 hb1 (N_X10_init l b D cA F) (j_X10_init F) (N_X11_init l b D cA F) (j_X11_init F) (N_X10_feed l b D cA F) (N_X11_feed l b D cA F) (N_X10_end l b D cA F), List.forall_mem_append.mpr ⟨law_1 C hX hb0 hb1 (N_X11_end l b D cA F) (N_X10_strait l b D cA F) (N_X11_strait l b D cA F) (N_X10_fault l b D cA F) (N_X11_fault l b D cA F) (N_X10_good l b D cA F) (N_X11_good l b D cA F) (N_X10_crossed l b D cA F) (N_X11_crossed l b D cA F), List.forall_mem_append.mpr ⟨law_2 C hX hb0 hb1 (N_L_man l htr b D cA F) (N_X11_man l b D cA F) (N_X11_thrown l b D cA F) (N_X10_apart l b D cA F) (N_X11_apart l b D cA F) (N_X10_now l b D cA F) (N_X11_now l b D cA F), List.forall_mem_append.mpr ⟨law_3 C hX hb0 hb1 (N_X10_hoard l b D cA F) (N_X11_hoard l b D cA F) (N_X10_bare l b D cA F) (N_X11_bare l b D cA F) (N_X10_waste l b D cA F), List.forall_mem_append.mpr ⟨law_4 C hX hb0 hb1 (N_X11_waste l b D cA F) (N_X10_die l b D cA F) (N_X11_die l b D cA F) (N_X10_days l b D cA F) (N_X11_days l b D cA F) (N_X10_undo l b D cA F) (N_X11_undo l b D cA F) (N_X10_lacks l b D cA F) (N_X11_lacks l b D cA F) (N_X10_falses l b D cA F) (N_X11_falses l b D cA F), List.forall_mem_append.mpr ⟨law_5 C hX hb0 hb1 (N_X10_going l b D cA F) (N_X11_going l b D cA F) (N_X10_goes l b D cA F) (N_X11_goes l b D cA F) (N_X10_crosses l b D cA F) (N_X11_crosses l b D cA F) (N_X10_comes l b D cA F) (N_X11_comes l b D cA F), List.forall_mem_append.mpr ⟨law_6 C hX hb0 hb1 (N_X10_without l b D cA F) (N_X11_without l b D cA F) (N_X10_meet l b D cA F) (N_X11_meet l b D cA F) (N_X10_loads l b D cA F) (N_X11_loads l b D cA F) (N_X10_which l b D cA F) (N_X11_which l b D cA F) (N_X10_settles l b D cA F) (N_X11_settles l b D cA F), List.forall_mem_append.mpr ⟨law_7 C hX hb0 hb1 (N_X10_hunger l b D cA F) (N_X11_hunger l b D cA F) (N_X10_prices l b D cA F) (N_X11_prices l b D cA F) (N_X10_price l b D cA F) (N_X11_price l b D cA F) (N_X10_dearest l b D cA F) (N_X11_dearest l b D cA F) (N_X10_rats l b D cA F) (N_X11_rats l b D cA F) (N_X10_hoarded l b D cA F), List.forall_mem_append.mpr ⟨law_8 C hX hb0 hb1 (N_X11_hoarded l b D cA F) (N_X10_drawn l b D cA F) (N_X11_drawn l b D cA F) (N_X10_odds l b D cA F) (N_X11_odds l b D cA F) (N_X10_log l b D cA F) (N_X11_log l b D cA F), List.forall_mem_append.mpr ⟨law_9 C hX hb0 hb1 (N_X10_logged l b D cA F) (N_X11_logged l b D cA F) (N_X10_sentence l b D cA F) (N_X11_sentence l b D cA F) (N_X10_said l b D cA F) (N_X11_said l b D cA F) (N_X10_image l b D cA F) (N_X11_image l b D cA F) (N_X10_restore l b D cA F) (N_X11_restore l b D cA F) (N_X10_count l b D cA F) (N_X11_count l b D cA F), law_10 C hX hb0 hb1⟩⟩⟩⟩⟩⟩⟩⟩⟩⟩
