section XX
variable {sc : Nat × (Nat → Int32)} {d : Nat} {Q : PRes → Prop} {h : PH} {l0 l1 l2 l3 l4 l5 l6 l7 l8 l9 l10 l11 l12 l13 l14 l15 l16 l17 l18 l19 l20 l21 l22 l23 l24 l25 l26 l27 : Option Value} {x i0 i1 i2 i3 i4 i5 i6 i7 i8 i9 i10 i11 : Int32} {xl j0 j1 j2 j3 j4 j5 j6 j7 j8 j9 j10 j11 : Int64} {xk k0 k1 k2 k3 k4 k5 k6 k7 k8 k9 k10 k11 : Nat}
theorem r_258 : mR 258 = some .boolean := by decide +kernel
theorem k_258_0 : lk 258 0 = some (.new 7, 3, 9, 98, .null) := by decide +kernel
theorem x_258_0 : Tr sc d 258 (0, [l0, l1, l2, l3], [], h) Q = ((hN h < 1000 ∧ TG (hN h) = 9 ∧ 9 < 11) ∧ Tr sc d 258 (3, [l0, l1, l2, l3], [.ref (hN h)], nH h) Q) := t_gd k_258_0 rfl
theorem k_258_3 : lk 258 3 = some (.dup, 4, 0, 0, .null) := by decide +kernel
theorem x_258_3 : Tr sc d 258 (3, [l0, l1, l2, l3], [.ref k0], h) Q = Tr sc d 258 (4, [l0, l1, l2, l3], [.ref k0, .ref k0], h) Q := t_go k_258_3 rfl
theorem k_258_4 : lk 258 4 = some (.invokespecial 9, 7, 95, 0, .null) := by decide +kernel
theorem x_258_4 : Tr sc (d + 1) 258 (4, [l0, l1, l2, l3], [.ref k1, .ref k0], h) Q = (okp h k1 9 = true ∧ Tr sc d 95 (ent0 95 [.ref k1] h) (fun z => Tr sc (d + 1) 258 (7, [l0, l1, l2, l3], z.1.toList ++ [.ref k0], z.2) Q)) := t_cp (as := []) (r := [.ref k0]) k_258_4 (by decide) rfl rfl (Nat.le_of_ble_eq_true rfl) (Nat.le_of_ble_eq_true rfl) (Nat.le_of_ble_eq_true rfl)
theorem k_258_7 : lk 258 7 = some (.astore_n 1, 8, 1, 0, .null) := by decide +kernel
theorem x_258_7 : Tr sc d 258 (7, [l0, l1, l2, l3], [.ref k0], h) Q = Tr sc d 258 (8, [cl2 l0, some (.ref k0), l2, l3], [], h) Q := t_astore_n k_258_7 (Nat.le_of_ble_eq_true rfl)
theorem k_258_8 : lk 258 8 = some (.new 10, 11, 10, 1169, .null) := by decide +kernel
theorem x_258_8 : Tr sc d 258 (8, [l0, l1, l2, l3], [], h) Q = ((hN h < 1000 ∧ TG (hN h) = 10 ∧ 10 < 11) ∧ Tr sc d 258 (11, [l0, l1, l2, l3], [.ref (hN h)], nH h) Q) := t_gd k_258_8 rfl
theorem k_258_11 : lk 258 11 = some (.dup, 12, 0, 0, .null) := by decide +kernel
theorem x_258_11 : Tr sc d 258 (11, [l0, l1, l2, l3], [.ref k0], h) Q = Tr sc d 258 (12, [l0, l1, l2, l3], [.ref k0, .ref k0], h) Q := t_go k_258_11 rfl
theorem k_258_12 : lk 258 12 = some (.invokespecial 12, 15, 155, 0, .null) := by decide +kernel
theorem x_258_12 : Tr sc (d + 1) 258 (12, [l0, l1, l2, l3], [.ref k1, .ref k0], h) Q = (okp h k1 10 = true ∧ Tr sc d 155 (ent0 155 [.ref k1] h) (fun z => Tr sc (d + 1) 258 (15, [l0, l1, l2, l3], z.1.toList ++ [.ref k0], z.2) Q)) := t_cp (as := []) (r := [.ref k0]) k_258_12 (by decide) rfl rfl (Nat.le_of_ble_eq_true rfl) (Nat.le_of_ble_eq_true rfl) (Nat.le_of_ble_eq_true rfl)
theorem k_258_15 : lk 258 15 = some (.astore_n 2, 16, 2, 0, .null) := by decide +kernel
theorem x_258_15 : Tr sc d 258 (15, [l0, l1, l2, l3], [.ref k0], h) Q = Tr sc d 258 (16, [l0, cl2 l1, some (.ref k0), l3], [], h) Q := t_astore_n k_258_15 (Nat.le_of_ble_eq_true rfl)
theorem k_258_16 : lk 258 16 = some (.iconst 0, 17, 0, 0, .int 0) := by decide +kernel
theorem x_258_16 : Tr sc d 258 (16, [l0, l1, l2, l3], [], h) Q = Tr sc d 258 (17, [l0, l1, l2, l3], [.int 0], h) Q := t_go k_258_16 rfl
theorem k_258_17 : lk 258 17 = some (.istore_n 3, 18, 3, 0, .null) := by decide +kernel
theorem x_258_17 : Tr sc d 258 (17, [l0, l1, l2, l3], [.int i0], h) Q = Tr sc d 258 (18, [l0, l1, cl2 l2, some (.int i0)], [], h) Q := t_istore_n k_258_17 (Nat.le_of_ble_eq_true rfl)
theorem k_258_18 : lk 258 18 = some (.iload_n 3, 19, 3, 0, .null) := by decide +kernel
theorem x_258_18 : Tr sc d 258 (18, [l0, l1, l2, some (.int x)], [], h) Q = Tr sc d 258 (19, [l0, l1, l2, some (.int x)], [.int x], h) Q := t_iload_n k_258_18 rfl
theorem k_258_19 : lk 258 19 = some (.aload_n 0, 20, 0, 0, .null) := by decide +kernel
theorem x_258_19 : Tr sc d 258 (19, [some (.ref xk), l1, l2, l3], [.int i0], h) Q = Tr sc d 258 (20, [some (.ref xk), l1, l2, l3], [.ref xk, .int i0], h) Q := t_aload_n k_258_19 rfl
theorem k_258_20 : lk 258 20 = some (.arraylength, 21, 0, 0, .null) := by decide +kernel
theorem x_258_20 (hk : k1 < 1000) : Tr sc d 258 (20, [l0, l1, l2, l3], [.ref k1, .int i0], h) Q = ((okp h k1 11 || (okp h k1 12 || (okp h k1 13 || (okp h k1 14 || okp h k1 15)))) = true ∧ Tr sc d 258 (21, [l0, l1, l2, l3], [.int (Int32.ofNat (LN k1)), .int i0], h) Q) := t_gd k_258_20 (if_pos hk)
theorem k_258_21 : lk 258 21 = some (.bipush 6, 23, 0, 0, .int 6) := by decide +kernel
theorem x_258_21 : Tr sc d 258 (21, [l0, l1, l2, l3], [.int i1, .int i0], h) Q = Tr sc d 258 (23, [l0, l1, l2, l3], [.int 6, .int i1, .int i0], h) Q := t_go k_258_21 rfl
theorem k_258_23 : lk 258 23 = some (.isub, 24, 0, 0, .null) := by decide +kernel
theorem x_258_23 : Tr sc d 258 (23, [l0, l1, l2, l3], [.int i2, .int i1, .int i0], h) Q = Tr sc d 258 (24, [l0, l1, l2, l3], [.int (i1 - i2), .int i0], h) Q := t_go k_258_23 rfl
theorem k_258_24 : lk 258 24 = some (.if_icmp .gt 1730, 27, 1754, 0, .null) := by decide +kernel
theorem x_258_24 : Tr sc d 258 (24, [l0, l1, l2, l3], [.int i1, .int i0], h) Q = if i1 < i0 then Tr sc d 258 (1754, [l0, l1, l2, l3], [], h) Q else Tr sc d 258 (27, [l0, l1, l2, l3], [], h) Q := t_if k_258_24 rfl
theorem k_258_27 : lk 258 27 = some (.aload_n 0, 28, 0, 0, .null) := by decide +kernel
theorem x_258_27 : Tr sc d 258 (27, [some (.ref xk), l1, l2, l3], [], h) Q = Tr sc d 258 (28, [some (.ref xk), l1, l2, l3], [.ref xk], h) Q := t_aload_n k_258_27 rfl
theorem k_258_28 : lk 258 28 = some (.iload_n 3, 29, 3, 0, .null) := by decide +kernel
theorem x_258_28 : Tr sc d 258 (28, [l0, l1, l2, some (.int x)], [.ref k0], h) Q = Tr sc d 258 (29, [l0, l1, l2, some (.int x)], [.int x, .ref k0], h) Q := t_iload_n k_258_28 rfl
theorem k_258_29 : lk 258 29 = some (.iaload, 30, 0, 0, .null) := by decide +kernel
theorem x_258_29 : Tr sc d 258 (29, [l0, l1, l2, l3], [.int i1, .ref k0], h) Q = (iOk sc h k0 i1 ∧ Tr sc d 258 (30, [l0, l1, l2, l3], [.int (iRd sc h k0 i1)], h) Q) := t_iald k_258_29
theorem k_258_30 : lk 258 30 = some (.bipush 63, 32, 0, 0, .int 63) := by decide +kernel
theorem x_258_30 : Tr sc d 258 (30, [l0, l1, l2, l3], [.int i0], h) Q = Tr sc d 258 (32, [l0, l1, l2, l3], [.int 63, .int i0], h) Q := t_go k_258_30 rfl
theorem k_258_32 : lk 258 32 = some (.iand, 33, 0, 0, .null) := by decide +kernel
theorem x_258_32 : Tr sc d 258 (32, [l0, l1, l2, l3], [.int i1, .int i0], h) Q = Tr sc d 258 (33, [l0, l1, l2, l3], [.int (i0 &&& i1)], h) Q := t_go k_258_32 rfl
theorem k_258_224 : lk 258 224 = some (.aload_n 1, 225, 1, 0, .null) := by decide +kernel
theorem x_258_224 : Tr sc d 258 (224, [l0, some (.ref xk), l2, l3], [], h) Q = Tr sc d 258 (225, [l0, some (.ref xk), l2, l3], [.ref xk], h) Q := t_aload_n k_258_224 rfl
theorem k_258_225 : lk 258 225 = some (.aload_n 0, 226, 0, 0, .null) := by decide +kernel
theorem x_258_225 : Tr sc d 258 (225, [some (.ref xk), l1, l2, l3], [.ref k0], h) Q = Tr sc d 258 (226, [some (.ref xk), l1, l2, l3], [.ref xk, .ref k0], h) Q := t_aload_n k_258_225 rfl
theorem k_258_226 : lk 258 226 = some (.iload_n 3, 227, 3, 0, .null) := by decide +kernel
theorem x_258_226 : Tr sc d 258 (226, [l0, l1, l2, some (.int x)], [.ref k1, .ref k0], h) Q = Tr sc d 258 (227, [l0, l1, l2, some (.int x)], [.int x, .ref k1, .ref k0], h) Q := t_iload_n k_258_226 rfl
theorem k_258_227 : lk 258 227 = some (.iconst 1, 228, 0, 0, .int 1) := by decide +kernel
theorem x_258_227 : Tr sc d 258 (227, [l0, l1, l2, l3], [.int i2, .ref k1, .ref k0], h) Q = Tr sc d 258 (228, [l0, l1, l2, l3], [.int 1, .int i2, .ref k1, .ref k0], h) Q := t_go k_258_227 rfl
theorem k_258_228 : lk 258 228 = some (.iadd, 229, 0, 0, .null) := by decide +kernel
theorem x_258_228 : Tr sc d 258 (228, [l0, l1, l2, l3], [.int i3, .int i2, .ref k1, .ref k0], h) Q = Tr sc d 258 (229, [l0, l1, l2, l3], [.int (i2 + i3), .ref k1, .ref k0], h) Q := t_go k_258_228 rfl
theorem k_258_229 : lk 258 229 = some (.iaload, 230, 0, 0, .null) := by decide +kernel
theorem x_258_229 : Tr sc d 258 (229, [l0, l1, l2, l3], [.int i2, .ref k1, .ref k0], h) Q = (iOk sc h k1 i2 ∧ Tr sc d 258 (230, [l0, l1, l2, l3], [.int (iRd sc h k1 i2), .ref k0], h) Q) := t_iald k_258_229
theorem k_258_230 : lk 258 230 = some (.aload_n 0, 231, 0, 0, .null) := by decide +kernel
theorem x_258_230 : Tr sc d 258 (230, [some (.ref xk), l1, l2, l3], [.int i1, .ref k0], h) Q = Tr sc d 258 (231, [some (.ref xk), l1, l2, l3], [.ref xk, .int i1, .ref k0], h) Q := t_aload_n k_258_230 rfl
theorem k_258_231 : lk 258 231 = some (.iload_n 3, 232, 3, 0, .null) := by decide +kernel
theorem x_258_231 : Tr sc d 258 (231, [l0, l1, l2, some (.int x)], [.ref k2, .int i1, .ref k0], h) Q = Tr sc d 258 (232, [l0, l1, l2, some (.int x)], [.int x, .ref k2, .int i1, .ref k0], h) Q := t_iload_n k_258_231 rfl
theorem k_258_232 : lk 258 232 = some (.iconst 2, 233, 0, 0, .int 2) := by decide +kernel
theorem x_258_232 : Tr sc d 258 (232, [l0, l1, l2, l3], [.int i3, .ref k2, .int i1, .ref k0], h) Q = Tr sc d 258 (233, [l0, l1, l2, l3], [.int 2, .int i3, .ref k2, .int i1, .ref k0], h) Q := t_go k_258_232 rfl
theorem k_258_233 : lk 258 233 = some (.iadd, 234, 0, 0, .null) := by decide +kernel
theorem x_258_233 : Tr sc d 258 (233, [l0, l1, l2, l3], [.int i4, .int i3, .ref k2, .int i1, .ref k0], h) Q = Tr sc d 258 (234, [l0, l1, l2, l3], [.int (i3 + i4), .ref k2, .int i1, .ref k0], h) Q := t_go k_258_233 rfl
theorem k_258_234 : lk 258 234 = some (.iaload, 235, 0, 0, .null) := by decide +kernel
theorem x_258_234 : Tr sc d 258 (234, [l0, l1, l2, l3], [.int i3, .ref k2, .int i1, .ref k0], h) Q = (iOk sc h k2 i3 ∧ Tr sc d 258 (235, [l0, l1, l2, l3], [.int (iRd sc h k2 i3), .int i1, .ref k0], h) Q) := t_iald k_258_234
theorem k_258_235 : lk 258 235 = some (.invokevirtual 13, 238, 96, 2, .null) := by decide +kernel
theorem x_258_235 : Tr sc (d + 1) 258 (235, [l0, l1, l2, l3], [.int i2, .int i1, .ref k0], h) Q = (okp h k0 9 = true ∧ Tr sc d 96 (ent0 96 [.ref k0, .int i1, .int i2] h) (fun z => Tr sc (d + 1) 258 (238, [l0, l1, l2, l3], z.1.toList ++ [], z.2) Q)) := t_cv (as := [.int i1, .int i2]) (r := []) k_258_235 rfl rfl (Nat.le_of_ble_eq_true rfl) (Nat.le_of_ble_eq_true rfl) (Nat.le_of_ble_eq_true rfl)
theorem k_258_238 : lk 258 238 = some (.aload_n 2, 239, 2, 0, .null) := by decide +kernel
theorem x_258_238 : Tr sc d 258 (238, [l0, l1, some (.ref xk), l3], [.int i0], h) Q = Tr sc d 258 (239, [l0, l1, some (.ref xk), l3], [.ref xk, .int i0], h) Q := t_aload_n k_258_238 rfl
theorem k_258_239 : lk 258 239 = some (.aload_n 0, 240, 0, 0, .null) := by decide +kernel
theorem x_258_239 : Tr sc d 258 (239, [some (.ref xk), l1, l2, l3], [.ref k1, .int i0], h) Q = Tr sc d 258 (240, [some (.ref xk), l1, l2, l3], [.ref xk, .ref k1, .int i0], h) Q := t_aload_n k_258_239 rfl
theorem k_258_240 : lk 258 240 = some (.iload_n 3, 241, 3, 0, .null) := by decide +kernel
theorem x_258_240 : Tr sc d 258 (240, [l0, l1, l2, some (.int x)], [.ref k2, .ref k1, .int i0], h) Q = Tr sc d 258 (241, [l0, l1, l2, some (.int x)], [.int x, .ref k2, .ref k1, .int i0], h) Q := t_iload_n k_258_240 rfl
theorem k_258_241 : lk 258 241 = some (.iconst 1, 242, 0, 0, .int 1) := by decide +kernel
theorem x_258_241 : Tr sc d 258 (241, [l0, l1, l2, l3], [.int i3, .ref k2, .ref k1, .int i0], h) Q = Tr sc d 258 (242, [l0, l1, l2, l3], [.int 1, .int i3, .ref k2, .ref k1, .int i0], h) Q := t_go k_258_241 rfl
theorem k_258_242 : lk 258 242 = some (.iadd, 243, 0, 0, .null) := by decide +kernel
theorem x_258_242 : Tr sc d 258 (242, [l0, l1, l2, l3], [.int i4, .int i3, .ref k2, .ref k1, .int i0], h) Q = Tr sc d 258 (243, [l0, l1, l2, l3], [.int (i3 + i4), .ref k2, .ref k1, .int i0], h) Q := t_go k_258_242 rfl
theorem k_258_243 : lk 258 243 = some (.iaload, 244, 0, 0, .null) := by decide +kernel
theorem x_258_243 : Tr sc d 258 (243, [l0, l1, l2, l3], [.int i3, .ref k2, .ref k1, .int i0], h) Q = (iOk sc h k2 i3 ∧ Tr sc d 258 (244, [l0, l1, l2, l3], [.int (iRd sc h k2 i3), .ref k1, .int i0], h) Q) := t_iald k_258_243
theorem k_258_244 : lk 258 244 = some (.aload_n 0, 245, 0, 0, .null) := by decide +kernel
theorem x_258_244 : Tr sc d 258 (244, [some (.ref xk), l1, l2, l3], [.int i2, .ref k1, .int i0], h) Q = Tr sc d 258 (245, [some (.ref xk), l1, l2, l3], [.ref xk, .int i2, .ref k1, .int i0], h) Q := t_aload_n k_258_244 rfl
theorem k_258_245 : lk 258 245 = some (.iload_n 3, 246, 3, 0, .null) := by decide +kernel
theorem x_258_245 : Tr sc d 258 (245, [l0, l1, l2, some (.int x)], [.ref k3, .int i2, .ref k1, .int i0], h) Q = Tr sc d 258 (246, [l0, l1, l2, some (.int x)], [.int x, .ref k3, .int i2, .ref k1, .int i0], h) Q := t_iload_n k_258_245 rfl
theorem k_258_246 : lk 258 246 = some (.iconst 2, 247, 0, 0, .int 2) := by decide +kernel
theorem x_258_246 : Tr sc d 258 (246, [l0, l1, l2, l3], [.int i4, .ref k3, .int i2, .ref k1, .int i0], h) Q = Tr sc d 258 (247, [l0, l1, l2, l3], [.int 2, .int i4, .ref k3, .int i2, .ref k1, .int i0], h) Q := t_go k_258_246 rfl
theorem k_258_247 : lk 258 247 = some (.iadd, 248, 0, 0, .null) := by decide +kernel
theorem x_258_247 : Tr sc d 258 (247, [l0, l1, l2, l3], [.int i5, .int i4, .ref k3, .int i2, .ref k1, .int i0], h) Q = Tr sc d 258 (248, [l0, l1, l2, l3], [.int (i4 + i5), .ref k3, .int i2, .ref k1, .int i0], h) Q := t_go k_258_247 rfl
theorem k_258_248 : lk 258 248 = some (.iaload, 249, 0, 0, .null) := by decide +kernel
theorem x_258_248 : Tr sc d 258 (248, [l0, l1, l2, l3], [.int i4, .ref k3, .int i2, .ref k1, .int i0], h) Q = (iOk sc h k3 i4 ∧ Tr sc d 258 (249, [l0, l1, l2, l3], [.int (iRd sc h k3 i4), .int i2, .ref k1, .int i0], h) Q) := t_iald k_258_248
theorem k_258_249 : lk 258 249 = some (.invokevirtual 17, 252, 164, 2, .null) := by decide +kernel
theorem x_258_249 : Tr sc (d + 1) 258 (249, [l0, l1, l2, l3], [.int i3, .int i2, .ref k1, .int i0], h) Q = (okp h k1 10 = true ∧ Tr sc d 164 (ent0 164 [.ref k1, .int i2, .int i3] h) (fun z => Tr sc (d + 1) 258 (252, [l0, l1, l2, l3], z.1.toList ++ [.int i0], z.2) Q)) := t_cv (as := [.int i2, .int i3]) (r := [.int i0]) k_258_249 rfl rfl (Nat.le_of_ble_eq_true rfl) (Nat.le_of_ble_eq_true rfl) (Nat.le_of_ble_eq_true rfl)
theorem k_258_252 : lk 258 252 = some (.if_icmp .eq 1496, 255, 1748, 0, .null) := by decide +kernel
theorem x_258_252 : Tr sc d 258 (252, [l0, l1, l2, l3], [.int i1, .int i0], h) Q = if i0 = i1 then Tr sc d 258 (1748, [l0, l1, l2, l3], [], h) Q else Tr sc d 258 (255, [l0, l1, l2, l3], [], h) Q := t_if k_258_252 rfl
theorem k_258_255 : lk 258 255 = some (.iconst 0, 256, 0, 0, .int 0) := by decide +kernel
theorem x_258_255 : Tr sc d 258 (255, [l0, l1, l2, l3], [], h) Q = Tr sc d 258 (256, [l0, l1, l2, l3], [.int 0], h) Q := t_go k_258_255 rfl
theorem k_258_256 : lk 258 256 = some (.ireturn, 257, 0, 0, .null) := by decide +kernel
theorem x_258_256 : Tr sc d 258 (256, [l0, l1, l2, l3], [.int i0], h) Q = (vp_nar .boolean i0 = i0 ∧ Q (some (.int i0), h)) := t_zret k_258_256 r_258
theorem k_258_257 : lk 258 257 = some (.aload_n 1, 258, 1, 0, .null) := by decide +kernel
theorem x_258_257 : Tr sc d 258 (257, [l0, some (.ref xk), l2, l3], [], h) Q = Tr sc d 258 (258, [l0, some (.ref xk), l2, l3], [.ref xk], h) Q := t_aload_n k_258_257 rfl
theorem k_258_258 : lk 258 258 = some (.aload_n 0, 259, 0, 0, .null) := by decide +kernel
theorem x_258_258 : Tr sc d 258 (258, [some (.ref xk), l1, l2, l3], [.ref k0], h) Q = Tr sc d 258 (259, [some (.ref xk), l1, l2, l3], [.ref xk, .ref k0], h) Q := t_aload_n k_258_258 rfl
theorem k_258_259 : lk 258 259 = some (.iload_n 3, 260, 3, 0, .null) := by decide +kernel
theorem x_258_259 : Tr sc d 258 (259, [l0, l1, l2, some (.int x)], [.ref k1, .ref k0], h) Q = Tr sc d 258 (260, [l0, l1, l2, some (.int x)], [.int x, .ref k1, .ref k0], h) Q := t_iload_n k_258_259 rfl
theorem k_258_260 : lk 258 260 = some (.iconst 1, 261, 0, 0, .int 1) := by decide +kernel
theorem x_258_260 : Tr sc d 258 (260, [l0, l1, l2, l3], [.int i2, .ref k1, .ref k0], h) Q = Tr sc d 258 (261, [l0, l1, l2, l3], [.int 1, .int i2, .ref k1, .ref k0], h) Q := t_go k_258_260 rfl
theorem k_258_261 : lk 258 261 = some (.iadd, 262, 0, 0, .null) := by decide +kernel
theorem x_258_261 : Tr sc d 258 (261, [l0, l1, l2, l3], [.int i3, .int i2, .ref k1, .ref k0], h) Q = Tr sc d 258 (262, [l0, l1, l2, l3], [.int (i2 + i3), .ref k1, .ref k0], h) Q := t_go k_258_261 rfl
theorem k_258_262 : lk 258 262 = some (.iaload, 263, 0, 0, .null) := by decide +kernel
theorem x_258_262 : Tr sc d 258 (262, [l0, l1, l2, l3], [.int i2, .ref k1, .ref k0], h) Q = (iOk sc h k1 i2 ∧ Tr sc d 258 (263, [l0, l1, l2, l3], [.int (iRd sc h k1 i2), .ref k0], h) Q) := t_iald k_258_262
theorem k_258_263 : lk 258 263 = some (.aload_n 0, 264, 0, 0, .null) := by decide +kernel
theorem x_258_263 : Tr sc d 258 (263, [some (.ref xk), l1, l2, l3], [.int i1, .ref k0], h) Q = Tr sc d 258 (264, [some (.ref xk), l1, l2, l3], [.ref xk, .int i1, .ref k0], h) Q := t_aload_n k_258_263 rfl
theorem k_258_264 : lk 258 264 = some (.iload_n 3, 265, 3, 0, .null) := by decide +kernel
theorem x_258_264 : Tr sc d 258 (264, [l0, l1, l2, some (.int x)], [.ref k2, .int i1, .ref k0], h) Q = Tr sc d 258 (265, [l0, l1, l2, some (.int x)], [.int x, .ref k2, .int i1, .ref k0], h) Q := t_iload_n k_258_264 rfl
theorem k_258_265 : lk 258 265 = some (.iconst 2, 266, 0, 0, .int 2) := by decide +kernel
theorem x_258_265 : Tr sc d 258 (265, [l0, l1, l2, l3], [.int i3, .ref k2, .int i1, .ref k0], h) Q = Tr sc d 258 (266, [l0, l1, l2, l3], [.int 2, .int i3, .ref k2, .int i1, .ref k0], h) Q := t_go k_258_265 rfl
theorem k_258_266 : lk 258 266 = some (.iadd, 267, 0, 0, .null) := by decide +kernel
theorem x_258_266 : Tr sc d 258 (266, [l0, l1, l2, l3], [.int i4, .int i3, .ref k2, .int i1, .ref k0], h) Q = Tr sc d 258 (267, [l0, l1, l2, l3], [.int (i3 + i4), .ref k2, .int i1, .ref k0], h) Q := t_go k_258_266 rfl
theorem k_258_267 : lk 258 267 = some (.iaload, 268, 0, 0, .null) := by decide +kernel
theorem x_258_267 : Tr sc d 258 (267, [l0, l1, l2, l3], [.int i3, .ref k2, .int i1, .ref k0], h) Q = (iOk sc h k2 i3 ∧ Tr sc d 258 (268, [l0, l1, l2, l3], [.int (iRd sc h k2 i3), .int i1, .ref k0], h) Q) := t_iald k_258_267
theorem k_258_268 : lk 258 268 = some (.aload_n 0, 269, 0, 0, .null) := by decide +kernel
theorem x_258_268 : Tr sc d 258 (268, [some (.ref xk), l1, l2, l3], [.int i2, .int i1, .ref k0], h) Q = Tr sc d 258 (269, [some (.ref xk), l1, l2, l3], [.ref xk, .int i2, .int i1, .ref k0], h) Q := t_aload_n k_258_268 rfl
theorem k_258_269 : lk 258 269 = some (.iload_n 3, 270, 3, 0, .null) := by decide +kernel
theorem x_258_269 : Tr sc d 258 (269, [l0, l1, l2, some (.int x)], [.ref k3, .int i2, .int i1, .ref k0], h) Q = Tr sc d 258 (270, [l0, l1, l2, some (.int x)], [.int x, .ref k3, .int i2, .int i1, .ref k0], h) Q := t_iload_n k_258_269 rfl
theorem k_258_270 : lk 258 270 = some (.iconst 3, 271, 0, 0, .int 3) := by decide +kernel
theorem x_258_270 : Tr sc d 258 (270, [l0, l1, l2, l3], [.int i4, .ref k3, .int i2, .int i1, .ref k0], h) Q = Tr sc d 258 (271, [l0, l1, l2, l3], [.int 3, .int i4, .ref k3, .int i2, .int i1, .ref k0], h) Q := t_go k_258_270 rfl
theorem k_258_271 : lk 258 271 = some (.iadd, 272, 0, 0, .null) := by decide +kernel
theorem x_258_271 : Tr sc d 258 (271, [l0, l1, l2, l3], [.int i5, .int i4, .ref k3, .int i2, .int i1, .ref k0], h) Q = Tr sc d 258 (272, [l0, l1, l2, l3], [.int (i4 + i5), .ref k3, .int i2, .int i1, .ref k0], h) Q := t_go k_258_271 rfl
theorem k_258_272 : lk 258 272 = some (.iaload, 273, 0, 0, .null) := by decide +kernel
theorem x_258_272 : Tr sc d 258 (272, [l0, l1, l2, l3], [.int i4, .ref k3, .int i2, .int i1, .ref k0], h) Q = (iOk sc h k3 i4 ∧ Tr sc d 258 (273, [l0, l1, l2, l3], [.int (iRd sc h k3 i4), .int i2, .int i1, .ref k0], h) Q) := t_iald k_258_272
theorem k_258_273 : lk 258 273 = some (.invokevirtual 18, 276, 97, 3, .null) := by decide +kernel
theorem x_258_273 : Tr sc (d + 1) 258 (273, [l0, l1, l2, l3], [.int i3, .int i2, .int i1, .ref k0], h) Q = (okp h k0 9 = true ∧ Tr sc d 97 (ent0 97 [.ref k0, .int i1, .int i2, .int i3] h) (fun z => Tr sc (d + 1) 258 (276, [l0, l1, l2, l3], z.1.toList ++ [], z.2) Q)) := t_cv (as := [.int i1, .int i2, .int i3]) (r := []) k_258_273 rfl rfl (Nat.le_of_ble_eq_true rfl) (Nat.le_of_ble_eq_true rfl) (Nat.le_of_ble_eq_true rfl)
theorem k_258_276 : lk 258 276 = some (.aload_n 2, 277, 2, 0, .null) := by decide +kernel
theorem x_258_276 : Tr sc d 258 (276, [l0, l1, some (.ref xk), l3], [.int i0], h) Q = Tr sc d 258 (277, [l0, l1, some (.ref xk), l3], [.ref xk, .int i0], h) Q := t_aload_n k_258_276 rfl
theorem k_258_277 : lk 258 277 = some (.aload_n 0, 278, 0, 0, .null) := by decide +kernel
theorem x_258_277 : Tr sc d 258 (277, [some (.ref xk), l1, l2, l3], [.ref k1, .int i0], h) Q = Tr sc d 258 (278, [some (.ref xk), l1, l2, l3], [.ref xk, .ref k1, .int i0], h) Q := t_aload_n k_258_277 rfl
theorem k_258_278 : lk 258 278 = some (.iload_n 3, 279, 3, 0, .null) := by decide +kernel
theorem x_258_278 : Tr sc d 258 (278, [l0, l1, l2, some (.int x)], [.ref k2, .ref k1, .int i0], h) Q = Tr sc d 258 (279, [l0, l1, l2, some (.int x)], [.int x, .ref k2, .ref k1, .int i0], h) Q := t_iload_n k_258_278 rfl
theorem k_258_279 : lk 258 279 = some (.iconst 1, 280, 0, 0, .int 1) := by decide +kernel
theorem x_258_279 : Tr sc d 258 (279, [l0, l1, l2, l3], [.int i3, .ref k2, .ref k1, .int i0], h) Q = Tr sc d 258 (280, [l0, l1, l2, l3], [.int 1, .int i3, .ref k2, .ref k1, .int i0], h) Q := t_go k_258_279 rfl
theorem k_258_280 : lk 258 280 = some (.iadd, 281, 0, 0, .null) := by decide +kernel
theorem x_258_280 : Tr sc d 258 (280, [l0, l1, l2, l3], [.int i4, .int i3, .ref k2, .ref k1, .int i0], h) Q = Tr sc d 258 (281, [l0, l1, l2, l3], [.int (i3 + i4), .ref k2, .ref k1, .int i0], h) Q := t_go k_258_280 rfl
theorem k_258_281 : lk 258 281 = some (.iaload, 282, 0, 0, .null) := by decide +kernel
theorem x_258_281 : Tr sc d 258 (281, [l0, l1, l2, l3], [.int i3, .ref k2, .ref k1, .int i0], h) Q = (iOk sc h k2 i3 ∧ Tr sc d 258 (282, [l0, l1, l2, l3], [.int (iRd sc h k2 i3), .ref k1, .int i0], h) Q) := t_iald k_258_281
theorem k_258_282 : lk 258 282 = some (.aload_n 0, 283, 0, 0, .null) := by decide +kernel
theorem x_258_282 : Tr sc d 258 (282, [some (.ref xk), l1, l2, l3], [.int i2, .ref k1, .int i0], h) Q = Tr sc d 258 (283, [some (.ref xk), l1, l2, l3], [.ref xk, .int i2, .ref k1, .int i0], h) Q := t_aload_n k_258_282 rfl
theorem k_258_283 : lk 258 283 = some (.iload_n 3, 284, 3, 0, .null) := by decide +kernel
theorem x_258_283 : Tr sc d 258 (283, [l0, l1, l2, some (.int x)], [.ref k3, .int i2, .ref k1, .int i0], h) Q = Tr sc d 258 (284, [l0, l1, l2, some (.int x)], [.int x, .ref k3, .int i2, .ref k1, .int i0], h) Q := t_iload_n k_258_283 rfl
theorem k_258_284 : lk 258 284 = some (.iconst 2, 285, 0, 0, .int 2) := by decide +kernel
theorem x_258_284 : Tr sc d 258 (284, [l0, l1, l2, l3], [.int i4, .ref k3, .int i2, .ref k1, .int i0], h) Q = Tr sc d 258 (285, [l0, l1, l2, l3], [.int 2, .int i4, .ref k3, .int i2, .ref k1, .int i0], h) Q := t_go k_258_284 rfl
theorem k_258_285 : lk 258 285 = some (.iadd, 286, 0, 0, .null) := by decide +kernel
theorem x_258_285 : Tr sc d 258 (285, [l0, l1, l2, l3], [.int i5, .int i4, .ref k3, .int i2, .ref k1, .int i0], h) Q = Tr sc d 258 (286, [l0, l1, l2, l3], [.int (i4 + i5), .ref k3, .int i2, .ref k1, .int i0], h) Q := t_go k_258_285 rfl
theorem k_258_286 : lk 258 286 = some (.iaload, 287, 0, 0, .null) := by decide +kernel
theorem x_258_286 : Tr sc d 258 (286, [l0, l1, l2, l3], [.int i4, .ref k3, .int i2, .ref k1, .int i0], h) Q = (iOk sc h k3 i4 ∧ Tr sc d 258 (287, [l0, l1, l2, l3], [.int (iRd sc h k3 i4), .int i2, .ref k1, .int i0], h) Q) := t_iald k_258_286
theorem k_258_287 : lk 258 287 = some (.aload_n 0, 288, 0, 0, .null) := by decide +kernel
theorem x_258_287 : Tr sc d 258 (287, [some (.ref xk), l1, l2, l3], [.int i3, .int i2, .ref k1, .int i0], h) Q = Tr sc d 258 (288, [some (.ref xk), l1, l2, l3], [.ref xk, .int i3, .int i2, .ref k1, .int i0], h) Q := t_aload_n k_258_287 rfl
theorem k_258_288 : lk 258 288 = some (.iload_n 3, 289, 3, 0, .null) := by decide +kernel
theorem x_258_288 : Tr sc d 258 (288, [l0, l1, l2, some (.int x)], [.ref k4, .int i3, .int i2, .ref k1, .int i0], h) Q = Tr sc d 258 (289, [l0, l1, l2, some (.int x)], [.int x, .ref k4, .int i3, .int i2, .ref k1, .int i0], h) Q := t_iload_n k_258_288 rfl
theorem k_258_289 : lk 258 289 = some (.iconst 3, 290, 0, 0, .int 3) := by decide +kernel
theorem x_258_289 : Tr sc d 258 (289, [l0, l1, l2, l3], [.int i5, .ref k4, .int i3, .int i2, .ref k1, .int i0], h) Q = Tr sc d 258 (290, [l0, l1, l2, l3], [.int 3, .int i5, .ref k4, .int i3, .int i2, .ref k1, .int i0], h) Q := t_go k_258_289 rfl
theorem k_258_290 : lk 258 290 = some (.iadd, 291, 0, 0, .null) := by decide +kernel
theorem x_258_290 : Tr sc d 258 (290, [l0, l1, l2, l3], [.int i6, .int i5, .ref k4, .int i3, .int i2, .ref k1, .int i0], h) Q = Tr sc d 258 (291, [l0, l1, l2, l3], [.int (i5 + i6), .ref k4, .int i3, .int i2, .ref k1, .int i0], h) Q := t_go k_258_290 rfl
theorem k_258_291 : lk 258 291 = some (.iaload, 292, 0, 0, .null) := by decide +kernel
theorem x_258_291 : Tr sc d 258 (291, [l0, l1, l2, l3], [.int i5, .ref k4, .int i3, .int i2, .ref k1, .int i0], h) Q = (iOk sc h k4 i5 ∧ Tr sc d 258 (292, [l0, l1, l2, l3], [.int (iRd sc h k4 i5), .int i3, .int i2, .ref k1, .int i0], h) Q) := t_iald k_258_291
theorem k_258_292 : lk 258 292 = some (.invokevirtual 22, 295, 165, 3, .null) := by decide +kernel
theorem x_258_292 : Tr sc (d + 1) 258 (292, [l0, l1, l2, l3], [.int i4, .int i3, .int i2, .ref k1, .int i0], h) Q = (okp h k1 10 = true ∧ Tr sc d 165 (ent0 165 [.ref k1, .int i2, .int i3, .int i4] h) (fun z => Tr sc (d + 1) 258 (295, [l0, l1, l2, l3], z.1.toList ++ [.int i0], z.2) Q)) := t_cv (as := [.int i2, .int i3, .int i4]) (r := [.int i0]) k_258_292 rfl rfl (Nat.le_of_ble_eq_true rfl) (Nat.le_of_ble_eq_true rfl) (Nat.le_of_ble_eq_true rfl)
theorem k_258_295 : lk 258 295 = some (.if_icmp .eq 1453, 298, 1748, 0, .null) := by decide +kernel
theorem x_258_295 : Tr sc d 258 (295, [l0, l1, l2, l3], [.int i1, .int i0], h) Q = if i0 = i1 then Tr sc d 258 (1748, [l0, l1, l2, l3], [], h) Q else Tr sc d 258 (298, [l0, l1, l2, l3], [], h) Q := t_if k_258_295 rfl
theorem k_258_298 : lk 258 298 = some (.iconst 0, 299, 0, 0, .int 0) := by decide +kernel
theorem x_258_298 : Tr sc d 258 (298, [l0, l1, l2, l3], [], h) Q = Tr sc d 258 (299, [l0, l1, l2, l3], [.int 0], h) Q := t_go k_258_298 rfl
theorem k_258_299 : lk 258 299 = some (.ireturn, 300, 0, 0, .null) := by decide +kernel
theorem x_258_299 : Tr sc d 258 (299, [l0, l1, l2, l3], [.int i0], h) Q = (vp_nar .boolean i0 = i0 ∧ Q (some (.int i0), h)) := t_zret k_258_299 r_258
theorem k_258_300 : lk 258 300 = some (.aload_n 1, 301, 1, 0, .null) := by decide +kernel
theorem x_258_300 : Tr sc d 258 (300, [l0, some (.ref xk), l2, l3], [], h) Q = Tr sc d 258 (301, [l0, some (.ref xk), l2, l3], [.ref xk], h) Q := t_aload_n k_258_300 rfl
theorem k_258_301 : lk 258 301 = some (.aload_n 0, 302, 0, 0, .null) := by decide +kernel
theorem x_258_301 : Tr sc d 258 (301, [some (.ref xk), l1, l2, l3], [.ref k0], h) Q = Tr sc d 258 (302, [some (.ref xk), l1, l2, l3], [.ref xk, .ref k0], h) Q := t_aload_n k_258_301 rfl
theorem k_258_302 : lk 258 302 = some (.iload_n 3, 303, 3, 0, .null) := by decide +kernel
theorem x_258_302 : Tr sc d 258 (302, [l0, l1, l2, some (.int x)], [.ref k1, .ref k0], h) Q = Tr sc d 258 (303, [l0, l1, l2, some (.int x)], [.int x, .ref k1, .ref k0], h) Q := t_iload_n k_258_302 rfl
theorem k_258_303 : lk 258 303 = some (.iconst 1, 304, 0, 0, .int 1) := by decide +kernel
theorem x_258_303 : Tr sc d 258 (303, [l0, l1, l2, l3], [.int i2, .ref k1, .ref k0], h) Q = Tr sc d 258 (304, [l0, l1, l2, l3], [.int 1, .int i2, .ref k1, .ref k0], h) Q := t_go k_258_303 rfl
theorem k_258_304 : lk 258 304 = some (.iadd, 305, 0, 0, .null) := by decide +kernel
theorem x_258_304 : Tr sc d 258 (304, [l0, l1, l2, l3], [.int i3, .int i2, .ref k1, .ref k0], h) Q = Tr sc d 258 (305, [l0, l1, l2, l3], [.int (i2 + i3), .ref k1, .ref k0], h) Q := t_go k_258_304 rfl
theorem k_258_305 : lk 258 305 = some (.iaload, 306, 0, 0, .null) := by decide +kernel
theorem x_258_305 : Tr sc d 258 (305, [l0, l1, l2, l3], [.int i2, .ref k1, .ref k0], h) Q = (iOk sc h k1 i2 ∧ Tr sc d 258 (306, [l0, l1, l2, l3], [.int (iRd sc h k1 i2), .ref k0], h) Q) := t_iald k_258_305
theorem k_258_306 : lk 258 306 = some (.invokevirtual 23, 309, 98, 1, .null) := by decide +kernel
theorem x_258_306 : Tr sc (d + 1) 258 (306, [l0, l1, l2, l3], [.int i1, .ref k0], h) Q = (okp h k0 9 = true ∧ Tr sc d 98 (ent0 98 [.ref k0, .int i1] h) (fun z => Tr sc (d + 1) 258 (309, [l0, l1, l2, l3], z.1.toList ++ [], z.2) Q)) := t_cv (as := [.int i1]) (r := []) k_258_306 rfl rfl (Nat.le_of_ble_eq_true rfl) (Nat.le_of_ble_eq_true rfl) (Nat.le_of_ble_eq_true rfl)
theorem k_258_309 : lk 258 309 = some (.aload_n 2, 310, 2, 0, .null) := by decide +kernel
theorem x_258_309 : Tr sc d 258 (309, [l0, l1, some (.ref xk), l3], [.int i0], h) Q = Tr sc d 258 (310, [l0, l1, some (.ref xk), l3], [.ref xk, .int i0], h) Q := t_aload_n k_258_309 rfl
theorem k_258_310 : lk 258 310 = some (.aload_n 0, 311, 0, 0, .null) := by decide +kernel
theorem x_258_310 : Tr sc d 258 (310, [some (.ref xk), l1, l2, l3], [.ref k1, .int i0], h) Q = Tr sc d 258 (311, [some (.ref xk), l1, l2, l3], [.ref xk, .ref k1, .int i0], h) Q := t_aload_n k_258_310 rfl
theorem k_258_311 : lk 258 311 = some (.iload_n 3, 312, 3, 0, .null) := by decide +kernel
theorem x_258_311 : Tr sc d 258 (311, [l0, l1, l2, some (.int x)], [.ref k2, .ref k1, .int i0], h) Q = Tr sc d 258 (312, [l0, l1, l2, some (.int x)], [.int x, .ref k2, .ref k1, .int i0], h) Q := t_iload_n k_258_311 rfl
theorem k_258_312 : lk 258 312 = some (.iconst 1, 313, 0, 0, .int 1) := by decide +kernel
theorem x_258_312 : Tr sc d 258 (312, [l0, l1, l2, l3], [.int i3, .ref k2, .ref k1, .int i0], h) Q = Tr sc d 258 (313, [l0, l1, l2, l3], [.int 1, .int i3, .ref k2, .ref k1, .int i0], h) Q := t_go k_258_312 rfl
theorem k_258_313 : lk 258 313 = some (.iadd, 314, 0, 0, .null) := by decide +kernel
theorem x_258_313 : Tr sc d 258 (313, [l0, l1, l2, l3], [.int i4, .int i3, .ref k2, .ref k1, .int i0], h) Q = Tr sc d 258 (314, [l0, l1, l2, l3], [.int (i3 + i4), .ref k2, .ref k1, .int i0], h) Q := t_go k_258_313 rfl
theorem k_258_314 : lk 258 314 = some (.iaload, 315, 0, 0, .null) := by decide +kernel
theorem x_258_314 : Tr sc d 258 (314, [l0, l1, l2, l3], [.int i3, .ref k2, .ref k1, .int i0], h) Q = (iOk sc h k2 i3 ∧ Tr sc d 258 (315, [l0, l1, l2, l3], [.int (iRd sc h k2 i3), .ref k1, .int i0], h) Q) := t_iald k_258_314
theorem k_258_315 : lk 258 315 = some (.invokevirtual 27, 318, 166, 1, .null) := by decide +kernel
theorem x_258_315 : Tr sc (d + 1) 258 (315, [l0, l1, l2, l3], [.int i2, .ref k1, .int i0], h) Q = (okp h k1 10 = true ∧ Tr sc d 166 (ent0 166 [.ref k1, .int i2] h) (fun z => Tr sc (d + 1) 258 (318, [l0, l1, l2, l3], z.1.toList ++ [.int i0], z.2) Q)) := t_cv (as := [.int i2]) (r := [.int i0]) k_258_315 rfl rfl (Nat.le_of_ble_eq_true rfl) (Nat.le_of_ble_eq_true rfl) (Nat.le_of_ble_eq_true rfl)
theorem k_258_318 : lk 258 318 = some (.if_icmp .eq 1430, 321, 1748, 0, .null) := by decide +kernel
theorem x_258_318 : Tr sc d 258 (318, [l0, l1, l2, l3], [.int i1, .int i0], h) Q = if i0 = i1 then Tr sc d 258 (1748, [l0, l1, l2, l3], [], h) Q else Tr sc d 258 (321, [l0, l1, l2, l3], [], h) Q := t_if k_258_318 rfl
theorem k_258_321 : lk 258 321 = some (.iconst 0, 322, 0, 0, .int 0) := by decide +kernel
theorem x_258_321 : Tr sc d 258 (321, [l0, l1, l2, l3], [], h) Q = Tr sc d 258 (322, [l0, l1, l2, l3], [.int 0], h) Q := t_go k_258_321 rfl
theorem k_258_322 : lk 258 322 = some (.ireturn, 323, 0, 0, .null) := by decide +kernel
theorem x_258_322 : Tr sc d 258 (322, [l0, l1, l2, l3], [.int i0], h) Q = (vp_nar .boolean i0 = i0 ∧ Q (some (.int i0), h)) := t_zret k_258_322 r_258
theorem k_258_323 : lk 258 323 = some (.aload_n 1, 324, 1, 0, .null) := by decide +kernel
theorem x_258_323 : Tr sc d 258 (323, [l0, some (.ref xk), l2, l3], [], h) Q = Tr sc d 258 (324, [l0, some (.ref xk), l2, l3], [.ref xk], h) Q := t_aload_n k_258_323 rfl
theorem k_258_324 : lk 258 324 = some (.aload_n 0, 325, 0, 0, .null) := by decide +kernel
theorem x_258_324 : Tr sc d 258 (324, [some (.ref xk), l1, l2, l3], [.ref k0], h) Q = Tr sc d 258 (325, [some (.ref xk), l1, l2, l3], [.ref xk, .ref k0], h) Q := t_aload_n k_258_324 rfl
theorem k_258_325 : lk 258 325 = some (.iload_n 3, 326, 3, 0, .null) := by decide +kernel
theorem x_258_325 : Tr sc d 258 (325, [l0, l1, l2, some (.int x)], [.ref k1, .ref k0], h) Q = Tr sc d 258 (326, [l0, l1, l2, some (.int x)], [.int x, .ref k1, .ref k0], h) Q := t_iload_n k_258_325 rfl
theorem k_258_326 : lk 258 326 = some (.iconst 1, 327, 0, 0, .int 1) := by decide +kernel
theorem x_258_326 : Tr sc d 258 (326, [l0, l1, l2, l3], [.int i2, .ref k1, .ref k0], h) Q = Tr sc d 258 (327, [l0, l1, l2, l3], [.int 1, .int i2, .ref k1, .ref k0], h) Q := t_go k_258_326 rfl
theorem k_258_327 : lk 258 327 = some (.iadd, 328, 0, 0, .null) := by decide +kernel
theorem x_258_327 : Tr sc d 258 (327, [l0, l1, l2, l3], [.int i3, .int i2, .ref k1, .ref k0], h) Q = Tr sc d 258 (328, [l0, l1, l2, l3], [.int (i2 + i3), .ref k1, .ref k0], h) Q := t_go k_258_327 rfl
theorem k_258_328 : lk 258 328 = some (.iaload, 329, 0, 0, .null) := by decide +kernel
theorem x_258_328 : Tr sc d 258 (328, [l0, l1, l2, l3], [.int i2, .ref k1, .ref k0], h) Q = (iOk sc h k1 i2 ∧ Tr sc d 258 (329, [l0, l1, l2, l3], [.int (iRd sc h k1 i2), .ref k0], h) Q) := t_iald k_258_328
theorem k_258_329 : lk 258 329 = some (.aload_n 0, 330, 0, 0, .null) := by decide +kernel
theorem x_258_329 : Tr sc d 258 (329, [some (.ref xk), l1, l2, l3], [.int i1, .ref k0], h) Q = Tr sc d 258 (330, [some (.ref xk), l1, l2, l3], [.ref xk, .int i1, .ref k0], h) Q := t_aload_n k_258_329 rfl
theorem k_258_330 : lk 258 330 = some (.iload_n 3, 331, 3, 0, .null) := by decide +kernel
theorem x_258_330 : Tr sc d 258 (330, [l0, l1, l2, some (.int x)], [.ref k2, .int i1, .ref k0], h) Q = Tr sc d 258 (331, [l0, l1, l2, some (.int x)], [.int x, .ref k2, .int i1, .ref k0], h) Q := t_iload_n k_258_330 rfl
theorem k_258_331 : lk 258 331 = some (.iconst 2, 332, 0, 0, .int 2) := by decide +kernel
theorem x_258_331 : Tr sc d 258 (331, [l0, l1, l2, l3], [.int i3, .ref k2, .int i1, .ref k0], h) Q = Tr sc d 258 (332, [l0, l1, l2, l3], [.int 2, .int i3, .ref k2, .int i1, .ref k0], h) Q := t_go k_258_331 rfl
theorem k_258_332 : lk 258 332 = some (.iadd, 333, 0, 0, .null) := by decide +kernel
theorem x_258_332 : Tr sc d 258 (332, [l0, l1, l2, l3], [.int i4, .int i3, .ref k2, .int i1, .ref k0], h) Q = Tr sc d 258 (333, [l0, l1, l2, l3], [.int (i3 + i4), .ref k2, .int i1, .ref k0], h) Q := t_go k_258_332 rfl
theorem k_258_333 : lk 258 333 = some (.iaload, 334, 0, 0, .null) := by decide +kernel
theorem x_258_333 : Tr sc d 258 (333, [l0, l1, l2, l3], [.int i3, .ref k2, .int i1, .ref k0], h) Q = (iOk sc h k2 i3 ∧ Tr sc d 258 (334, [l0, l1, l2, l3], [.int (iRd sc h k2 i3), .int i1, .ref k0], h) Q) := t_iald k_258_333
theorem k_258_334 : lk 258 334 = some (.aload_n 0, 335, 0, 0, .null) := by decide +kernel
theorem x_258_334 : Tr sc d 258 (334, [some (.ref xk), l1, l2, l3], [.int i2, .int i1, .ref k0], h) Q = Tr sc d 258 (335, [some (.ref xk), l1, l2, l3], [.ref xk, .int i2, .int i1, .ref k0], h) Q := t_aload_n k_258_334 rfl
theorem k_258_335 : lk 258 335 = some (.iload_n 3, 336, 3, 0, .null) := by decide +kernel
theorem x_258_335 : Tr sc d 258 (335, [l0, l1, l2, some (.int x)], [.ref k3, .int i2, .int i1, .ref k0], h) Q = Tr sc d 258 (336, [l0, l1, l2, some (.int x)], [.int x, .ref k3, .int i2, .int i1, .ref k0], h) Q := t_iload_n k_258_335 rfl
theorem k_258_336 : lk 258 336 = some (.iconst 3, 337, 0, 0, .int 3) := by decide +kernel
theorem x_258_336 : Tr sc d 258 (336, [l0, l1, l2, l3], [.int i4, .ref k3, .int i2, .int i1, .ref k0], h) Q = Tr sc d 258 (337, [l0, l1, l2, l3], [.int 3, .int i4, .ref k3, .int i2, .int i1, .ref k0], h) Q := t_go k_258_336 rfl
theorem k_258_337 : lk 258 337 = some (.iadd, 338, 0, 0, .null) := by decide +kernel
theorem x_258_337 : Tr sc d 258 (337, [l0, l1, l2, l3], [.int i5, .int i4, .ref k3, .int i2, .int i1, .ref k0], h) Q = Tr sc d 258 (338, [l0, l1, l2, l3], [.int (i4 + i5), .ref k3, .int i2, .int i1, .ref k0], h) Q := t_go k_258_337 rfl
theorem k_258_338 : lk 258 338 = some (.iaload, 339, 0, 0, .null) := by decide +kernel
theorem x_258_338 : Tr sc d 258 (338, [l0, l1, l2, l3], [.int i4, .ref k3, .int i2, .int i1, .ref k0], h) Q = (iOk sc h k3 i4 ∧ Tr sc d 258 (339, [l0, l1, l2, l3], [.int (iRd sc h k3 i4), .int i2, .int i1, .ref k0], h) Q) := t_iald k_258_338
theorem k_258_339 : lk 258 339 = some (.aload_n 0, 340, 0, 0, .null) := by decide +kernel
theorem x_258_339 : Tr sc d 258 (339, [some (.ref xk), l1, l2, l3], [.int i3, .int i2, .int i1, .ref k0], h) Q = Tr sc d 258 (340, [some (.ref xk), l1, l2, l3], [.ref xk, .int i3, .int i2, .int i1, .ref k0], h) Q := t_aload_n k_258_339 rfl
theorem k_258_340 : lk 258 340 = some (.iload_n 3, 341, 3, 0, .null) := by decide +kernel
theorem x_258_340 : Tr sc d 258 (340, [l0, l1, l2, some (.int x)], [.ref k4, .int i3, .int i2, .int i1, .ref k0], h) Q = Tr sc d 258 (341, [l0, l1, l2, some (.int x)], [.int x, .ref k4, .int i3, .int i2, .int i1, .ref k0], h) Q := t_iload_n k_258_340 rfl
theorem k_258_341 : lk 258 341 = some (.iconst 4, 342, 0, 0, .int 4) := by decide +kernel
theorem x_258_341 : Tr sc d 258 (341, [l0, l1, l2, l3], [.int i5, .ref k4, .int i3, .int i2, .int i1, .ref k0], h) Q = Tr sc d 258 (342, [l0, l1, l2, l3], [.int 4, .int i5, .ref k4, .int i3, .int i2, .int i1, .ref k0], h) Q := t_go k_258_341 rfl
theorem k_258_342 : lk 258 342 = some (.iadd, 343, 0, 0, .null) := by decide +kernel
theorem x_258_342 : Tr sc d 258 (342, [l0, l1, l2, l3], [.int i6, .int i5, .ref k4, .int i3, .int i2, .int i1, .ref k0], h) Q = Tr sc d 258 (343, [l0, l1, l2, l3], [.int (i5 + i6), .ref k4, .int i3, .int i2, .int i1, .ref k0], h) Q := t_go k_258_342 rfl
theorem k_258_343 : lk 258 343 = some (.iaload, 344, 0, 0, .null) := by decide +kernel
theorem x_258_343 : Tr sc d 258 (343, [l0, l1, l2, l3], [.int i5, .ref k4, .int i3, .int i2, .int i1, .ref k0], h) Q = (iOk sc h k4 i5 ∧ Tr sc d 258 (344, [l0, l1, l2, l3], [.int (iRd sc h k4 i5), .int i3, .int i2, .int i1, .ref k0], h) Q) := t_iald k_258_343
theorem k_258_344 : lk 258 344 = some (.aload_n 0, 345, 0, 0, .null) := by decide +kernel
theorem x_258_344 : Tr sc d 258 (344, [some (.ref xk), l1, l2, l3], [.int i4, .int i3, .int i2, .int i1, .ref k0], h) Q = Tr sc d 258 (345, [some (.ref xk), l1, l2, l3], [.ref xk, .int i4, .int i3, .int i2, .int i1, .ref k0], h) Q := t_aload_n k_258_344 rfl
theorem k_258_345 : lk 258 345 = some (.iload_n 3, 346, 3, 0, .null) := by decide +kernel
theorem x_258_345 : Tr sc d 258 (345, [l0, l1, l2, some (.int x)], [.ref k5, .int i4, .int i3, .int i2, .int i1, .ref k0], h) Q = Tr sc d 258 (346, [l0, l1, l2, some (.int x)], [.int x, .ref k5, .int i4, .int i3, .int i2, .int i1, .ref k0], h) Q := t_iload_n k_258_345 rfl
theorem k_258_346 : lk 258 346 = some (.iconst 5, 347, 0, 0, .int 5) := by decide +kernel
theorem x_258_346 : Tr sc d 258 (346, [l0, l1, l2, l3], [.int i6, .ref k5, .int i4, .int i3, .int i2, .int i1, .ref k0], h) Q = Tr sc d 258 (347, [l0, l1, l2, l3], [.int 5, .int i6, .ref k5, .int i4, .int i3, .int i2, .int i1, .ref k0], h) Q := t_go k_258_346 rfl
theorem k_258_347 : lk 258 347 = some (.iadd, 348, 0, 0, .null) := by decide +kernel
theorem x_258_347 : Tr sc d 258 (347, [l0, l1, l2, l3], [.int i7, .int i6, .ref k5, .int i4, .int i3, .int i2, .int i1, .ref k0], h) Q = Tr sc d 258 (348, [l0, l1, l2, l3], [.int (i6 + i7), .ref k5, .int i4, .int i3, .int i2, .int i1, .ref k0], h) Q := t_go k_258_347 rfl
theorem k_258_348 : lk 258 348 = some (.iaload, 349, 0, 0, .null) := by decide +kernel
theorem x_258_348 : Tr sc d 258 (348, [l0, l1, l2, l3], [.int i6, .ref k5, .int i4, .int i3, .int i2, .int i1, .ref k0], h) Q = (iOk sc h k5 i6 ∧ Tr sc d 258 (349, [l0, l1, l2, l3], [.int (iRd sc h k5 i6), .int i4, .int i3, .int i2, .int i1, .ref k0], h) Q) := t_iald k_258_348
theorem k_258_349 : lk 258 349 = some (.invokevirtual 28, 352, 99, 5, .null) := by decide +kernel
theorem x_258_349 : Tr sc (d + 1) 258 (349, [l0, l1, l2, l3], [.int i5, .int i4, .int i3, .int i2, .int i1, .ref k0], h) Q = (okp h k0 9 = true ∧ Tr sc d 99 (ent0 99 [.ref k0, .int i1, .int i2, .int i3, .int i4, .int i5] h) (fun z => Tr sc (d + 1) 258 (352, [l0, l1, l2, l3], z.1.toList ++ [], z.2) Q)) := t_cv (as := [.int i1, .int i2, .int i3, .int i4, .int i5]) (r := []) k_258_349 rfl rfl (Nat.le_of_ble_eq_true rfl) (Nat.le_of_ble_eq_true rfl) (Nat.le_of_ble_eq_true rfl)
theorem k_258_352 : lk 258 352 = some (.aload_n 2, 353, 2, 0, .null) := by decide +kernel
theorem x_258_352 : Tr sc d 258 (352, [l0, l1, some (.ref xk), l3], [.int i0], h) Q = Tr sc d 258 (353, [l0, l1, some (.ref xk), l3], [.ref xk, .int i0], h) Q := t_aload_n k_258_352 rfl
theorem k_258_353 : lk 258 353 = some (.aload_n 0, 354, 0, 0, .null) := by decide +kernel
theorem x_258_353 : Tr sc d 258 (353, [some (.ref xk), l1, l2, l3], [.ref k1, .int i0], h) Q = Tr sc d 258 (354, [some (.ref xk), l1, l2, l3], [.ref xk, .ref k1, .int i0], h) Q := t_aload_n k_258_353 rfl
theorem k_258_354 : lk 258 354 = some (.iload_n 3, 355, 3, 0, .null) := by decide +kernel
theorem x_258_354 : Tr sc d 258 (354, [l0, l1, l2, some (.int x)], [.ref k2, .ref k1, .int i0], h) Q = Tr sc d 258 (355, [l0, l1, l2, some (.int x)], [.int x, .ref k2, .ref k1, .int i0], h) Q := t_iload_n k_258_354 rfl
theorem k_258_355 : lk 258 355 = some (.iconst 1, 356, 0, 0, .int 1) := by decide +kernel
theorem x_258_355 : Tr sc d 258 (355, [l0, l1, l2, l3], [.int i3, .ref k2, .ref k1, .int i0], h) Q = Tr sc d 258 (356, [l0, l1, l2, l3], [.int 1, .int i3, .ref k2, .ref k1, .int i0], h) Q := t_go k_258_355 rfl
theorem k_258_356 : lk 258 356 = some (.iadd, 357, 0, 0, .null) := by decide +kernel
theorem x_258_356 : Tr sc d 258 (356, [l0, l1, l2, l3], [.int i4, .int i3, .ref k2, .ref k1, .int i0], h) Q = Tr sc d 258 (357, [l0, l1, l2, l3], [.int (i3 + i4), .ref k2, .ref k1, .int i0], h) Q := t_go k_258_356 rfl
theorem k_258_357 : lk 258 357 = some (.iaload, 358, 0, 0, .null) := by decide +kernel
theorem x_258_357 : Tr sc d 258 (357, [l0, l1, l2, l3], [.int i3, .ref k2, .ref k1, .int i0], h) Q = (iOk sc h k2 i3 ∧ Tr sc d 258 (358, [l0, l1, l2, l3], [.int (iRd sc h k2 i3), .ref k1, .int i0], h) Q) := t_iald k_258_357
theorem k_258_358 : lk 258 358 = some (.aload_n 0, 359, 0, 0, .null) := by decide +kernel
theorem x_258_358 : Tr sc d 258 (358, [some (.ref xk), l1, l2, l3], [.int i2, .ref k1, .int i0], h) Q = Tr sc d 258 (359, [some (.ref xk), l1, l2, l3], [.ref xk, .int i2, .ref k1, .int i0], h) Q := t_aload_n k_258_358 rfl
theorem k_258_359 : lk 258 359 = some (.iload_n 3, 360, 3, 0, .null) := by decide +kernel
theorem x_258_359 : Tr sc d 258 (359, [l0, l1, l2, some (.int x)], [.ref k3, .int i2, .ref k1, .int i0], h) Q = Tr sc d 258 (360, [l0, l1, l2, some (.int x)], [.int x, .ref k3, .int i2, .ref k1, .int i0], h) Q := t_iload_n k_258_359 rfl
theorem k_258_360 : lk 258 360 = some (.iconst 2, 361, 0, 0, .int 2) := by decide +kernel
theorem x_258_360 : Tr sc d 258 (360, [l0, l1, l2, l3], [.int i4, .ref k3, .int i2, .ref k1, .int i0], h) Q = Tr sc d 258 (361, [l0, l1, l2, l3], [.int 2, .int i4, .ref k3, .int i2, .ref k1, .int i0], h) Q := t_go k_258_360 rfl
theorem k_258_361 : lk 258 361 = some (.iadd, 362, 0, 0, .null) := by decide +kernel
theorem x_258_361 : Tr sc d 258 (361, [l0, l1, l2, l3], [.int i5, .int i4, .ref k3, .int i2, .ref k1, .int i0], h) Q = Tr sc d 258 (362, [l0, l1, l2, l3], [.int (i4 + i5), .ref k3, .int i2, .ref k1, .int i0], h) Q := t_go k_258_361 rfl
theorem k_258_362 : lk 258 362 = some (.iaload, 363, 0, 0, .null) := by decide +kernel
theorem x_258_362 : Tr sc d 258 (362, [l0, l1, l2, l3], [.int i4, .ref k3, .int i2, .ref k1, .int i0], h) Q = (iOk sc h k3 i4 ∧ Tr sc d 258 (363, [l0, l1, l2, l3], [.int (iRd sc h k3 i4), .int i2, .ref k1, .int i0], h) Q) := t_iald k_258_362
theorem k_258_363 : lk 258 363 = some (.aload_n 0, 364, 0, 0, .null) := by decide +kernel
theorem x_258_363 : Tr sc d 258 (363, [some (.ref xk), l1, l2, l3], [.int i3, .int i2, .ref k1, .int i0], h) Q = Tr sc d 258 (364, [some (.ref xk), l1, l2, l3], [.ref xk, .int i3, .int i2, .ref k1, .int i0], h) Q := t_aload_n k_258_363 rfl
theorem k_258_364 : lk 258 364 = some (.iload_n 3, 365, 3, 0, .null) := by decide +kernel
theorem x_258_364 : Tr sc d 258 (364, [l0, l1, l2, some (.int x)], [.ref k4, .int i3, .int i2, .ref k1, .int i0], h) Q = Tr sc d 258 (365, [l0, l1, l2, some (.int x)], [.int x, .ref k4, .int i3, .int i2, .ref k1, .int i0], h) Q := t_iload_n k_258_364 rfl
theorem k_258_365 : lk 258 365 = some (.iconst 3, 366, 0, 0, .int 3) := by decide +kernel
theorem x_258_365 : Tr sc d 258 (365, [l0, l1, l2, l3], [.int i5, .ref k4, .int i3, .int i2, .ref k1, .int i0], h) Q = Tr sc d 258 (366, [l0, l1, l2, l3], [.int 3, .int i5, .ref k4, .int i3, .int i2, .ref k1, .int i0], h) Q := t_go k_258_365 rfl
theorem k_258_366 : lk 258 366 = some (.iadd, 367, 0, 0, .null) := by decide +kernel
theorem x_258_366 : Tr sc d 258 (366, [l0, l1, l2, l3], [.int i6, .int i5, .ref k4, .int i3, .int i2, .ref k1, .int i0], h) Q = Tr sc d 258 (367, [l0, l1, l2, l3], [.int (i5 + i6), .ref k4, .int i3, .int i2, .ref k1, .int i0], h) Q := t_go k_258_366 rfl
theorem k_258_367 : lk 258 367 = some (.iaload, 368, 0, 0, .null) := by decide +kernel
theorem x_258_367 : Tr sc d 258 (367, [l0, l1, l2, l3], [.int i5, .ref k4, .int i3, .int i2, .ref k1, .int i0], h) Q = (iOk sc h k4 i5 ∧ Tr sc d 258 (368, [l0, l1, l2, l3], [.int (iRd sc h k4 i5), .int i3, .int i2, .ref k1, .int i0], h) Q) := t_iald k_258_367
theorem k_258_368 : lk 258 368 = some (.aload_n 0, 369, 0, 0, .null) := by decide +kernel
theorem x_258_368 : Tr sc d 258 (368, [some (.ref xk), l1, l2, l3], [.int i4, .int i3, .int i2, .ref k1, .int i0], h) Q = Tr sc d 258 (369, [some (.ref xk), l1, l2, l3], [.ref xk, .int i4, .int i3, .int i2, .ref k1, .int i0], h) Q := t_aload_n k_258_368 rfl
theorem k_258_369 : lk 258 369 = some (.iload_n 3, 370, 3, 0, .null) := by decide +kernel
theorem x_258_369 : Tr sc d 258 (369, [l0, l1, l2, some (.int x)], [.ref k5, .int i4, .int i3, .int i2, .ref k1, .int i0], h) Q = Tr sc d 258 (370, [l0, l1, l2, some (.int x)], [.int x, .ref k5, .int i4, .int i3, .int i2, .ref k1, .int i0], h) Q := t_iload_n k_258_369 rfl
theorem k_258_370 : lk 258 370 = some (.iconst 4, 371, 0, 0, .int 4) := by decide +kernel
theorem x_258_370 : Tr sc d 258 (370, [l0, l1, l2, l3], [.int i6, .ref k5, .int i4, .int i3, .int i2, .ref k1, .int i0], h) Q = Tr sc d 258 (371, [l0, l1, l2, l3], [.int 4, .int i6, .ref k5, .int i4, .int i3, .int i2, .ref k1, .int i0], h) Q := t_go k_258_370 rfl
theorem k_258_371 : lk 258 371 = some (.iadd, 372, 0, 0, .null) := by decide +kernel
theorem x_258_371 : Tr sc d 258 (371, [l0, l1, l2, l3], [.int i7, .int i6, .ref k5, .int i4, .int i3, .int i2, .ref k1, .int i0], h) Q = Tr sc d 258 (372, [l0, l1, l2, l3], [.int (i6 + i7), .ref k5, .int i4, .int i3, .int i2, .ref k1, .int i0], h) Q := t_go k_258_371 rfl
theorem k_258_372 : lk 258 372 = some (.iaload, 373, 0, 0, .null) := by decide +kernel
theorem x_258_372 : Tr sc d 258 (372, [l0, l1, l2, l3], [.int i6, .ref k5, .int i4, .int i3, .int i2, .ref k1, .int i0], h) Q = (iOk sc h k5 i6 ∧ Tr sc d 258 (373, [l0, l1, l2, l3], [.int (iRd sc h k5 i6), .int i4, .int i3, .int i2, .ref k1, .int i0], h) Q) := t_iald k_258_372
theorem k_258_373 : lk 258 373 = some (.aload_n 0, 374, 0, 0, .null) := by decide +kernel
theorem x_258_373 : Tr sc d 258 (373, [some (.ref xk), l1, l2, l3], [.int i5, .int i4, .int i3, .int i2, .ref k1, .int i0], h) Q = Tr sc d 258 (374, [some (.ref xk), l1, l2, l3], [.ref xk, .int i5, .int i4, .int i3, .int i2, .ref k1, .int i0], h) Q := t_aload_n k_258_373 rfl
theorem k_258_374 : lk 258 374 = some (.iload_n 3, 375, 3, 0, .null) := by decide +kernel
theorem x_258_374 : Tr sc d 258 (374, [l0, l1, l2, some (.int x)], [.ref k6, .int i5, .int i4, .int i3, .int i2, .ref k1, .int i0], h) Q = Tr sc d 258 (375, [l0, l1, l2, some (.int x)], [.int x, .ref k6, .int i5, .int i4, .int i3, .int i2, .ref k1, .int i0], h) Q := t_iload_n k_258_374 rfl
theorem k_258_375 : lk 258 375 = some (.iconst 5, 376, 0, 0, .int 5) := by decide +kernel
theorem x_258_375 : Tr sc d 258 (375, [l0, l1, l2, l3], [.int i7, .ref k6, .int i5, .int i4, .int i3, .int i2, .ref k1, .int i0], h) Q = Tr sc d 258 (376, [l0, l1, l2, l3], [.int 5, .int i7, .ref k6, .int i5, .int i4, .int i3, .int i2, .ref k1, .int i0], h) Q := t_go k_258_375 rfl
theorem k_258_376 : lk 258 376 = some (.iadd, 377, 0, 0, .null) := by decide +kernel
theorem x_258_376 : Tr sc d 258 (376, [l0, l1, l2, l3], [.int i8, .int i7, .ref k6, .int i5, .int i4, .int i3, .int i2, .ref k1, .int i0], h) Q = Tr sc d 258 (377, [l0, l1, l2, l3], [.int (i7 + i8), .ref k6, .int i5, .int i4, .int i3, .int i2, .ref k1, .int i0], h) Q := t_go k_258_376 rfl
theorem k_258_377 : lk 258 377 = some (.iaload, 378, 0, 0, .null) := by decide +kernel
theorem x_258_377 : Tr sc d 258 (377, [l0, l1, l2, l3], [.int i7, .ref k6, .int i5, .int i4, .int i3, .int i2, .ref k1, .int i0], h) Q = (iOk sc h k6 i7 ∧ Tr sc d 258 (378, [l0, l1, l2, l3], [.int (iRd sc h k6 i7), .int i5, .int i4, .int i3, .int i2, .ref k1, .int i0], h) Q) := t_iald k_258_377
theorem k_258_378 : lk 258 378 = some (.invokevirtual 32, 381, 167, 5, .null) := by decide +kernel
theorem x_258_378 : Tr sc (d + 1) 258 (378, [l0, l1, l2, l3], [.int i6, .int i5, .int i4, .int i3, .int i2, .ref k1, .int i0], h) Q = (okp h k1 10 = true ∧ Tr sc d 167 (ent0 167 [.ref k1, .int i2, .int i3, .int i4, .int i5, .int i6] h) (fun z => Tr sc (d + 1) 258 (381, [l0, l1, l2, l3], z.1.toList ++ [.int i0], z.2) Q)) := t_cv (as := [.int i2, .int i3, .int i4, .int i5, .int i6]) (r := [.int i0]) k_258_378 rfl rfl (Nat.le_of_ble_eq_true rfl) (Nat.le_of_ble_eq_true rfl) (Nat.le_of_ble_eq_true rfl)
theorem k_258_381 : lk 258 381 = some (.if_icmp .eq 1367, 384, 1748, 0, .null) := by decide +kernel
theorem x_258_381 : Tr sc d 258 (381, [l0, l1, l2, l3], [.int i1, .int i0], h) Q = if i0 = i1 then Tr sc d 258 (1748, [l0, l1, l2, l3], [], h) Q else Tr sc d 258 (384, [l0, l1, l2, l3], [], h) Q := t_if k_258_381 rfl
theorem k_258_384 : lk 258 384 = some (.iconst 0, 385, 0, 0, .int 0) := by decide +kernel
theorem x_258_384 : Tr sc d 258 (384, [l0, l1, l2, l3], [], h) Q = Tr sc d 258 (385, [l0, l1, l2, l3], [.int 0], h) Q := t_go k_258_384 rfl
theorem k_258_385 : lk 258 385 = some (.ireturn, 386, 0, 0, .null) := by decide +kernel
theorem x_258_385 : Tr sc d 258 (385, [l0, l1, l2, l3], [.int i0], h) Q = (vp_nar .boolean i0 = i0 ∧ Q (some (.int i0), h)) := t_zret k_258_385 r_258
theorem k_258_386 : lk 258 386 = some (.aload_n 1, 387, 1, 0, .null) := by decide +kernel
theorem x_258_386 : Tr sc d 258 (386, [l0, some (.ref xk), l2, l3], [], h) Q = Tr sc d 258 (387, [l0, some (.ref xk), l2, l3], [.ref xk], h) Q := t_aload_n k_258_386 rfl
theorem k_258_387 : lk 258 387 = some (.aload_n 0, 388, 0, 0, .null) := by decide +kernel
theorem x_258_387 : Tr sc d 258 (387, [some (.ref xk), l1, l2, l3], [.ref k0], h) Q = Tr sc d 258 (388, [some (.ref xk), l1, l2, l3], [.ref xk, .ref k0], h) Q := t_aload_n k_258_387 rfl
theorem k_258_388 : lk 258 388 = some (.iload_n 3, 389, 3, 0, .null) := by decide +kernel
theorem x_258_388 : Tr sc d 258 (388, [l0, l1, l2, some (.int x)], [.ref k1, .ref k0], h) Q = Tr sc d 258 (389, [l0, l1, l2, some (.int x)], [.int x, .ref k1, .ref k0], h) Q := t_iload_n k_258_388 rfl
theorem k_258_389 : lk 258 389 = some (.iconst 1, 390, 0, 0, .int 1) := by decide +kernel
theorem x_258_389 : Tr sc d 258 (389, [l0, l1, l2, l3], [.int i2, .ref k1, .ref k0], h) Q = Tr sc d 258 (390, [l0, l1, l2, l3], [.int 1, .int i2, .ref k1, .ref k0], h) Q := t_go k_258_389 rfl
theorem k_258_390 : lk 258 390 = some (.iadd, 391, 0, 0, .null) := by decide +kernel
theorem x_258_390 : Tr sc d 258 (390, [l0, l1, l2, l3], [.int i3, .int i2, .ref k1, .ref k0], h) Q = Tr sc d 258 (391, [l0, l1, l2, l3], [.int (i2 + i3), .ref k1, .ref k0], h) Q := t_go k_258_390 rfl
theorem k_258_391 : lk 258 391 = some (.iaload, 392, 0, 0, .null) := by decide +kernel
theorem x_258_391 : Tr sc d 258 (391, [l0, l1, l2, l3], [.int i2, .ref k1, .ref k0], h) Q = (iOk sc h k1 i2 ∧ Tr sc d 258 (392, [l0, l1, l2, l3], [.int (iRd sc h k1 i2), .ref k0], h) Q) := t_iald k_258_391
theorem k_258_392 : lk 258 392 = some (.invokevirtual 33, 395, 100, 1, .null) := by decide +kernel
theorem x_258_392 : Tr sc (d + 1) 258 (392, [l0, l1, l2, l3], [.int i1, .ref k0], h) Q = (okp h k0 9 = true ∧ Tr sc d 100 (ent0 100 [.ref k0, .int i1] h) (fun z => Tr sc (d + 1) 258 (395, [l0, l1, l2, l3], z.1.toList ++ [], z.2) Q)) := t_cv (as := [.int i1]) (r := []) k_258_392 rfl rfl (Nat.le_of_ble_eq_true rfl) (Nat.le_of_ble_eq_true rfl) (Nat.le_of_ble_eq_true rfl)
theorem k_258_395 : lk 258 395 = some (.aload_n 2, 396, 2, 0, .null) := by decide +kernel
theorem x_258_395 : Tr sc d 258 (395, [l0, l1, some (.ref xk), l3], [.int i0], h) Q = Tr sc d 258 (396, [l0, l1, some (.ref xk), l3], [.ref xk, .int i0], h) Q := t_aload_n k_258_395 rfl
theorem k_258_396 : lk 258 396 = some (.aload_n 0, 397, 0, 0, .null) := by decide +kernel
theorem x_258_396 : Tr sc d 258 (396, [some (.ref xk), l1, l2, l3], [.ref k1, .int i0], h) Q = Tr sc d 258 (397, [some (.ref xk), l1, l2, l3], [.ref xk, .ref k1, .int i0], h) Q := t_aload_n k_258_396 rfl
theorem k_258_397 : lk 258 397 = some (.iload_n 3, 398, 3, 0, .null) := by decide +kernel
theorem x_258_397 : Tr sc d 258 (397, [l0, l1, l2, some (.int x)], [.ref k2, .ref k1, .int i0], h) Q = Tr sc d 258 (398, [l0, l1, l2, some (.int x)], [.int x, .ref k2, .ref k1, .int i0], h) Q := t_iload_n k_258_397 rfl
theorem k_258_398 : lk 258 398 = some (.iconst 1, 399, 0, 0, .int 1) := by decide +kernel
theorem x_258_398 : Tr sc d 258 (398, [l0, l1, l2, l3], [.int i3, .ref k2, .ref k1, .int i0], h) Q = Tr sc d 258 (399, [l0, l1, l2, l3], [.int 1, .int i3, .ref k2, .ref k1, .int i0], h) Q := t_go k_258_398 rfl
theorem k_258_399 : lk 258 399 = some (.iadd, 400, 0, 0, .null) := by decide +kernel
theorem x_258_399 : Tr sc d 258 (399, [l0, l1, l2, l3], [.int i4, .int i3, .ref k2, .ref k1, .int i0], h) Q = Tr sc d 258 (400, [l0, l1, l2, l3], [.int (i3 + i4), .ref k2, .ref k1, .int i0], h) Q := t_go k_258_399 rfl
theorem k_258_400 : lk 258 400 = some (.iaload, 401, 0, 0, .null) := by decide +kernel
theorem x_258_400 : Tr sc d 258 (400, [l0, l1, l2, l3], [.int i3, .ref k2, .ref k1, .int i0], h) Q = (iOk sc h k2 i3 ∧ Tr sc d 258 (401, [l0, l1, l2, l3], [.int (iRd sc h k2 i3), .ref k1, .int i0], h) Q) := t_iald k_258_400
theorem k_258_401 : lk 258 401 = some (.invokevirtual 36, 404, 168, 1, .null) := by decide +kernel
theorem x_258_401 : Tr sc (d + 1) 258 (401, [l0, l1, l2, l3], [.int i2, .ref k1, .int i0], h) Q = (okp h k1 10 = true ∧ Tr sc d 168 (ent0 168 [.ref k1, .int i2] h) (fun z => Tr sc (d + 1) 258 (404, [l0, l1, l2, l3], z.1.toList ++ [.int i0], z.2) Q)) := t_cv (as := [.int i2]) (r := [.int i0]) k_258_401 rfl rfl (Nat.le_of_ble_eq_true rfl) (Nat.le_of_ble_eq_true rfl) (Nat.le_of_ble_eq_true rfl)
theorem k_258_404 : lk 258 404 = some (.if_icmp .eq 1344, 407, 1748, 0, .null) := by decide +kernel
theorem x_258_404 : Tr sc d 258 (404, [l0, l1, l2, l3], [.int i1, .int i0], h) Q = if i0 = i1 then Tr sc d 258 (1748, [l0, l1, l2, l3], [], h) Q else Tr sc d 258 (407, [l0, l1, l2, l3], [], h) Q := t_if k_258_404 rfl
theorem k_258_407 : lk 258 407 = some (.iconst 0, 408, 0, 0, .int 0) := by decide +kernel
theorem x_258_407 : Tr sc d 258 (407, [l0, l1, l2, l3], [], h) Q = Tr sc d 258 (408, [l0, l1, l2, l3], [.int 0], h) Q := t_go k_258_407 rfl
theorem k_258_408 : lk 258 408 = some (.ireturn, 409, 0, 0, .null) := by decide +kernel
theorem x_258_408 : Tr sc d 258 (408, [l0, l1, l2, l3], [.int i0], h) Q = (vp_nar .boolean i0 = i0 ∧ Q (some (.int i0), h)) := t_zret k_258_408 r_258
theorem k_258_409 : lk 258 409 = some (.aload_n 1, 410, 1, 0, .null) := by decide +kernel
theorem x_258_409 : Tr sc d 258 (409, [l0, some (.ref xk), l2, l3], [], h) Q = Tr sc d 258 (410, [l0, some (.ref xk), l2, l3], [.ref xk], h) Q := t_aload_n k_258_409 rfl
theorem k_258_410 : lk 258 410 = some (.aload_n 0, 411, 0, 0, .null) := by decide +kernel
theorem x_258_410 : Tr sc d 258 (410, [some (.ref xk), l1, l2, l3], [.ref k0], h) Q = Tr sc d 258 (411, [some (.ref xk), l1, l2, l3], [.ref xk, .ref k0], h) Q := t_aload_n k_258_410 rfl
theorem k_258_411 : lk 258 411 = some (.iload_n 3, 412, 3, 0, .null) := by decide +kernel
theorem x_258_411 : Tr sc d 258 (411, [l0, l1, l2, some (.int x)], [.ref k1, .ref k0], h) Q = Tr sc d 258 (412, [l0, l1, l2, some (.int x)], [.int x, .ref k1, .ref k0], h) Q := t_iload_n k_258_411 rfl
theorem k_258_412 : lk 258 412 = some (.iconst 1, 413, 0, 0, .int 1) := by decide +kernel
theorem x_258_412 : Tr sc d 258 (412, [l0, l1, l2, l3], [.int i2, .ref k1, .ref k0], h) Q = Tr sc d 258 (413, [l0, l1, l2, l3], [.int 1, .int i2, .ref k1, .ref k0], h) Q := t_go k_258_412 rfl
theorem k_258_413 : lk 258 413 = some (.iadd, 414, 0, 0, .null) := by decide +kernel
theorem x_258_413 : Tr sc d 258 (413, [l0, l1, l2, l3], [.int i3, .int i2, .ref k1, .ref k0], h) Q = Tr sc d 258 (414, [l0, l1, l2, l3], [.int (i2 + i3), .ref k1, .ref k0], h) Q := t_go k_258_413 rfl
theorem k_258_414 : lk 258 414 = some (.iaload, 415, 0, 0, .null) := by decide +kernel
theorem x_258_414 : Tr sc d 258 (414, [l0, l1, l2, l3], [.int i2, .ref k1, .ref k0], h) Q = (iOk sc h k1 i2 ∧ Tr sc d 258 (415, [l0, l1, l2, l3], [.int (iRd sc h k1 i2), .ref k0], h) Q) := t_iald k_258_414
theorem k_258_415 : lk 258 415 = some (.aload_n 0, 416, 0, 0, .null) := by decide +kernel
theorem x_258_415 : Tr sc d 258 (415, [some (.ref xk), l1, l2, l3], [.int i1, .ref k0], h) Q = Tr sc d 258 (416, [some (.ref xk), l1, l2, l3], [.ref xk, .int i1, .ref k0], h) Q := t_aload_n k_258_415 rfl
theorem k_258_416 : lk 258 416 = some (.iload_n 3, 417, 3, 0, .null) := by decide +kernel
theorem x_258_416 : Tr sc d 258 (416, [l0, l1, l2, some (.int x)], [.ref k2, .int i1, .ref k0], h) Q = Tr sc d 258 (417, [l0, l1, l2, some (.int x)], [.int x, .ref k2, .int i1, .ref k0], h) Q := t_iload_n k_258_416 rfl
theorem k_258_417 : lk 258 417 = some (.iconst 2, 418, 0, 0, .int 2) := by decide +kernel
theorem x_258_417 : Tr sc d 258 (417, [l0, l1, l2, l3], [.int i3, .ref k2, .int i1, .ref k0], h) Q = Tr sc d 258 (418, [l0, l1, l2, l3], [.int 2, .int i3, .ref k2, .int i1, .ref k0], h) Q := t_go k_258_417 rfl
theorem k_258_418 : lk 258 418 = some (.iadd, 419, 0, 0, .null) := by decide +kernel
theorem x_258_418 : Tr sc d 258 (418, [l0, l1, l2, l3], [.int i4, .int i3, .ref k2, .int i1, .ref k0], h) Q = Tr sc d 258 (419, [l0, l1, l2, l3], [.int (i3 + i4), .ref k2, .int i1, .ref k0], h) Q := t_go k_258_418 rfl
theorem k_258_419 : lk 258 419 = some (.iaload, 420, 0, 0, .null) := by decide +kernel
theorem x_258_419 : Tr sc d 258 (419, [l0, l1, l2, l3], [.int i3, .ref k2, .int i1, .ref k0], h) Q = (iOk sc h k2 i3 ∧ Tr sc d 258 (420, [l0, l1, l2, l3], [.int (iRd sc h k2 i3), .int i1, .ref k0], h) Q) := t_iald k_258_419
theorem k_258_420 : lk 258 420 = some (.invokevirtual 37, 423, 101, 2, .null) := by decide +kernel
theorem x_258_420 : Tr sc (d + 1) 258 (420, [l0, l1, l2, l3], [.int i2, .int i1, .ref k0], h) Q = (okp h k0 9 = true ∧ Tr sc d 101 (ent0 101 [.ref k0, .int i1, .int i2] h) (fun z => Tr sc (d + 1) 258 (423, [l0, l1, l2, l3], z.1.toList ++ [], z.2) Q)) := t_cv (as := [.int i1, .int i2]) (r := []) k_258_420 rfl rfl (Nat.le_of_ble_eq_true rfl) (Nat.le_of_ble_eq_true rfl) (Nat.le_of_ble_eq_true rfl)
theorem k_258_423 : lk 258 423 = some (.aload_n 2, 424, 2, 0, .null) := by decide +kernel
theorem x_258_423 : Tr sc d 258 (423, [l0, l1, some (.ref xk), l3], [.int i0], h) Q = Tr sc d 258 (424, [l0, l1, some (.ref xk), l3], [.ref xk, .int i0], h) Q := t_aload_n k_258_423 rfl
theorem k_258_424 : lk 258 424 = some (.aload_n 0, 425, 0, 0, .null) := by decide +kernel
theorem x_258_424 : Tr sc d 258 (424, [some (.ref xk), l1, l2, l3], [.ref k1, .int i0], h) Q = Tr sc d 258 (425, [some (.ref xk), l1, l2, l3], [.ref xk, .ref k1, .int i0], h) Q := t_aload_n k_258_424 rfl
theorem k_258_425 : lk 258 425 = some (.iload_n 3, 426, 3, 0, .null) := by decide +kernel
theorem x_258_425 : Tr sc d 258 (425, [l0, l1, l2, some (.int x)], [.ref k2, .ref k1, .int i0], h) Q = Tr sc d 258 (426, [l0, l1, l2, some (.int x)], [.int x, .ref k2, .ref k1, .int i0], h) Q := t_iload_n k_258_425 rfl
theorem k_258_426 : lk 258 426 = some (.iconst 1, 427, 0, 0, .int 1) := by decide +kernel
theorem x_258_426 : Tr sc d 258 (426, [l0, l1, l2, l3], [.int i3, .ref k2, .ref k1, .int i0], h) Q = Tr sc d 258 (427, [l0, l1, l2, l3], [.int 1, .int i3, .ref k2, .ref k1, .int i0], h) Q := t_go k_258_426 rfl
theorem k_258_427 : lk 258 427 = some (.iadd, 428, 0, 0, .null) := by decide +kernel
theorem x_258_427 : Tr sc d 258 (427, [l0, l1, l2, l3], [.int i4, .int i3, .ref k2, .ref k1, .int i0], h) Q = Tr sc d 258 (428, [l0, l1, l2, l3], [.int (i3 + i4), .ref k2, .ref k1, .int i0], h) Q := t_go k_258_427 rfl
theorem k_258_428 : lk 258 428 = some (.iaload, 429, 0, 0, .null) := by decide +kernel
theorem x_258_428 : Tr sc d 258 (428, [l0, l1, l2, l3], [.int i3, .ref k2, .ref k1, .int i0], h) Q = (iOk sc h k2 i3 ∧ Tr sc d 258 (429, [l0, l1, l2, l3], [.int (iRd sc h k2 i3), .ref k1, .int i0], h) Q) := t_iald k_258_428
theorem k_258_429 : lk 258 429 = some (.aload_n 0, 430, 0, 0, .null) := by decide +kernel
theorem x_258_429 : Tr sc d 258 (429, [some (.ref xk), l1, l2, l3], [.int i2, .ref k1, .int i0], h) Q = Tr sc d 258 (430, [some (.ref xk), l1, l2, l3], [.ref xk, .int i2, .ref k1, .int i0], h) Q := t_aload_n k_258_429 rfl
theorem k_258_430 : lk 258 430 = some (.iload_n 3, 431, 3, 0, .null) := by decide +kernel
theorem x_258_430 : Tr sc d 258 (430, [l0, l1, l2, some (.int x)], [.ref k3, .int i2, .ref k1, .int i0], h) Q = Tr sc d 258 (431, [l0, l1, l2, some (.int x)], [.int x, .ref k3, .int i2, .ref k1, .int i0], h) Q := t_iload_n k_258_430 rfl
theorem k_258_431 : lk 258 431 = some (.iconst 2, 432, 0, 0, .int 2) := by decide +kernel
theorem x_258_431 : Tr sc d 258 (431, [l0, l1, l2, l3], [.int i4, .ref k3, .int i2, .ref k1, .int i0], h) Q = Tr sc d 258 (432, [l0, l1, l2, l3], [.int 2, .int i4, .ref k3, .int i2, .ref k1, .int i0], h) Q := t_go k_258_431 rfl
theorem k_258_432 : lk 258 432 = some (.iadd, 433, 0, 0, .null) := by decide +kernel
theorem x_258_432 : Tr sc d 258 (432, [l0, l1, l2, l3], [.int i5, .int i4, .ref k3, .int i2, .ref k1, .int i0], h) Q = Tr sc d 258 (433, [l0, l1, l2, l3], [.int (i4 + i5), .ref k3, .int i2, .ref k1, .int i0], h) Q := t_go k_258_432 rfl
theorem k_258_433 : lk 258 433 = some (.iaload, 434, 0, 0, .null) := by decide +kernel
theorem x_258_433 : Tr sc d 258 (433, [l0, l1, l2, l3], [.int i4, .ref k3, .int i2, .ref k1, .int i0], h) Q = (iOk sc h k3 i4 ∧ Tr sc d 258 (434, [l0, l1, l2, l3], [.int (iRd sc h k3 i4), .int i2, .ref k1, .int i0], h) Q) := t_iald k_258_433
theorem k_258_434 : lk 258 434 = some (.invokevirtual 40, 437, 169, 2, .null) := by decide +kernel
theorem x_258_434 : Tr sc (d + 1) 258 (434, [l0, l1, l2, l3], [.int i3, .int i2, .ref k1, .int i0], h) Q = (okp h k1 10 = true ∧ Tr sc d 169 (ent0 169 [.ref k1, .int i2, .int i3] h) (fun z => Tr sc (d + 1) 258 (437, [l0, l1, l2, l3], z.1.toList ++ [.int i0], z.2) Q)) := t_cv (as := [.int i2, .int i3]) (r := [.int i0]) k_258_434 rfl rfl (Nat.le_of_ble_eq_true rfl) (Nat.le_of_ble_eq_true rfl) (Nat.le_of_ble_eq_true rfl)
theorem k_258_437 : lk 258 437 = some (.if_icmp .eq 1311, 440, 1748, 0, .null) := by decide +kernel
theorem x_258_437 : Tr sc d 258 (437, [l0, l1, l2, l3], [.int i1, .int i0], h) Q = if i0 = i1 then Tr sc d 258 (1748, [l0, l1, l2, l3], [], h) Q else Tr sc d 258 (440, [l0, l1, l2, l3], [], h) Q := t_if k_258_437 rfl
theorem k_258_440 : lk 258 440 = some (.iconst 0, 441, 0, 0, .int 0) := by decide +kernel
theorem x_258_440 : Tr sc d 258 (440, [l0, l1, l2, l3], [], h) Q = Tr sc d 258 (441, [l0, l1, l2, l3], [.int 0], h) Q := t_go k_258_440 rfl
theorem k_258_441 : lk 258 441 = some (.ireturn, 442, 0, 0, .null) := by decide +kernel
theorem x_258_441 : Tr sc d 258 (441, [l0, l1, l2, l3], [.int i0], h) Q = (vp_nar .boolean i0 = i0 ∧ Q (some (.int i0), h)) := t_zret k_258_441 r_258
theorem k_258_442 : lk 258 442 = some (.aload_n 1, 443, 1, 0, .null) := by decide +kernel
theorem x_258_442 : Tr sc d 258 (442, [l0, some (.ref xk), l2, l3], [], h) Q = Tr sc d 258 (443, [l0, some (.ref xk), l2, l3], [.ref xk], h) Q := t_aload_n k_258_442 rfl
theorem k_258_443 : lk 258 443 = some (.aload_n 0, 444, 0, 0, .null) := by decide +kernel
theorem x_258_443 : Tr sc d 258 (443, [some (.ref xk), l1, l2, l3], [.ref k0], h) Q = Tr sc d 258 (444, [some (.ref xk), l1, l2, l3], [.ref xk, .ref k0], h) Q := t_aload_n k_258_443 rfl
theorem k_258_444 : lk 258 444 = some (.iload_n 3, 445, 3, 0, .null) := by decide +kernel
theorem x_258_444 : Tr sc d 258 (444, [l0, l1, l2, some (.int x)], [.ref k1, .ref k0], h) Q = Tr sc d 258 (445, [l0, l1, l2, some (.int x)], [.int x, .ref k1, .ref k0], h) Q := t_iload_n k_258_444 rfl
theorem k_258_445 : lk 258 445 = some (.iconst 1, 446, 0, 0, .int 1) := by decide +kernel
theorem x_258_445 : Tr sc d 258 (445, [l0, l1, l2, l3], [.int i2, .ref k1, .ref k0], h) Q = Tr sc d 258 (446, [l0, l1, l2, l3], [.int 1, .int i2, .ref k1, .ref k0], h) Q := t_go k_258_445 rfl
theorem k_258_446 : lk 258 446 = some (.iadd, 447, 0, 0, .null) := by decide +kernel
theorem x_258_446 : Tr sc d 258 (446, [l0, l1, l2, l3], [.int i3, .int i2, .ref k1, .ref k0], h) Q = Tr sc d 258 (447, [l0, l1, l2, l3], [.int (i2 + i3), .ref k1, .ref k0], h) Q := t_go k_258_446 rfl
theorem k_258_447 : lk 258 447 = some (.iaload, 448, 0, 0, .null) := by decide +kernel
theorem x_258_447 : Tr sc d 258 (447, [l0, l1, l2, l3], [.int i2, .ref k1, .ref k0], h) Q = (iOk sc h k1 i2 ∧ Tr sc d 258 (448, [l0, l1, l2, l3], [.int (iRd sc h k1 i2), .ref k0], h) Q) := t_iald k_258_447
theorem k_258_448 : lk 258 448 = some (.aload_n 0, 449, 0, 0, .null) := by decide +kernel
theorem x_258_448 : Tr sc d 258 (448, [some (.ref xk), l1, l2, l3], [.int i1, .ref k0], h) Q = Tr sc d 258 (449, [some (.ref xk), l1, l2, l3], [.ref xk, .int i1, .ref k0], h) Q := t_aload_n k_258_448 rfl
theorem k_258_449 : lk 258 449 = some (.iload_n 3, 450, 3, 0, .null) := by decide +kernel
theorem x_258_449 : Tr sc d 258 (449, [l0, l1, l2, some (.int x)], [.ref k2, .int i1, .ref k0], h) Q = Tr sc d 258 (450, [l0, l1, l2, some (.int x)], [.int x, .ref k2, .int i1, .ref k0], h) Q := t_iload_n k_258_449 rfl
theorem k_258_450 : lk 258 450 = some (.iconst 2, 451, 0, 0, .int 2) := by decide +kernel
theorem x_258_450 : Tr sc d 258 (450, [l0, l1, l2, l3], [.int i3, .ref k2, .int i1, .ref k0], h) Q = Tr sc d 258 (451, [l0, l1, l2, l3], [.int 2, .int i3, .ref k2, .int i1, .ref k0], h) Q := t_go k_258_450 rfl
theorem k_258_451 : lk 258 451 = some (.iadd, 452, 0, 0, .null) := by decide +kernel
theorem x_258_451 : Tr sc d 258 (451, [l0, l1, l2, l3], [.int i4, .int i3, .ref k2, .int i1, .ref k0], h) Q = Tr sc d 258 (452, [l0, l1, l2, l3], [.int (i3 + i4), .ref k2, .int i1, .ref k0], h) Q := t_go k_258_451 rfl
theorem k_258_452 : lk 258 452 = some (.iaload, 453, 0, 0, .null) := by decide +kernel
theorem x_258_452 : Tr sc d 258 (452, [l0, l1, l2, l3], [.int i3, .ref k2, .int i1, .ref k0], h) Q = (iOk sc h k2 i3 ∧ Tr sc d 258 (453, [l0, l1, l2, l3], [.int (iRd sc h k2 i3), .int i1, .ref k0], h) Q) := t_iald k_258_452
theorem k_258_453 : lk 258 453 = some (.aload_n 0, 454, 0, 0, .null) := by decide +kernel
theorem x_258_453 : Tr sc d 258 (453, [some (.ref xk), l1, l2, l3], [.int i2, .int i1, .ref k0], h) Q = Tr sc d 258 (454, [some (.ref xk), l1, l2, l3], [.ref xk, .int i2, .int i1, .ref k0], h) Q := t_aload_n k_258_453 rfl
theorem k_258_454 : lk 258 454 = some (.iload_n 3, 455, 3, 0, .null) := by decide +kernel
theorem x_258_454 : Tr sc d 258 (454, [l0, l1, l2, some (.int x)], [.ref k3, .int i2, .int i1, .ref k0], h) Q = Tr sc d 258 (455, [l0, l1, l2, some (.int x)], [.int x, .ref k3, .int i2, .int i1, .ref k0], h) Q := t_iload_n k_258_454 rfl
theorem k_258_455 : lk 258 455 = some (.iconst 3, 456, 0, 0, .int 3) := by decide +kernel
theorem x_258_455 : Tr sc d 258 (455, [l0, l1, l2, l3], [.int i4, .ref k3, .int i2, .int i1, .ref k0], h) Q = Tr sc d 258 (456, [l0, l1, l2, l3], [.int 3, .int i4, .ref k3, .int i2, .int i1, .ref k0], h) Q := t_go k_258_455 rfl
theorem k_258_456 : lk 258 456 = some (.iadd, 457, 0, 0, .null) := by decide +kernel
theorem x_258_456 : Tr sc d 258 (456, [l0, l1, l2, l3], [.int i5, .int i4, .ref k3, .int i2, .int i1, .ref k0], h) Q = Tr sc d 258 (457, [l0, l1, l2, l3], [.int (i4 + i5), .ref k3, .int i2, .int i1, .ref k0], h) Q := t_go k_258_456 rfl
theorem k_258_457 : lk 258 457 = some (.iaload, 458, 0, 0, .null) := by decide +kernel
theorem x_258_457 : Tr sc d 258 (457, [l0, l1, l2, l3], [.int i4, .ref k3, .int i2, .int i1, .ref k0], h) Q = (iOk sc h k3 i4 ∧ Tr sc d 258 (458, [l0, l1, l2, l3], [.int (iRd sc h k3 i4), .int i2, .int i1, .ref k0], h) Q) := t_iald k_258_457
theorem k_258_458 : lk 258 458 = some (.invokevirtual 41, 461, 102, 3, .null) := by decide +kernel
theorem x_258_458 : Tr sc (d + 1) 258 (458, [l0, l1, l2, l3], [.int i3, .int i2, .int i1, .ref k0], h) Q = (okp h k0 9 = true ∧ Tr sc d 102 (ent0 102 [.ref k0, .int i1, .int i2, .int i3] h) (fun z => Tr sc (d + 1) 258 (461, [l0, l1, l2, l3], z.1.toList ++ [], z.2) Q)) := t_cv (as := [.int i1, .int i2, .int i3]) (r := []) k_258_458 rfl rfl (Nat.le_of_ble_eq_true rfl) (Nat.le_of_ble_eq_true rfl) (Nat.le_of_ble_eq_true rfl)
theorem k_258_461 : lk 258 461 = some (.aload_n 2, 462, 2, 0, .null) := by decide +kernel
theorem x_258_461 : Tr sc d 258 (461, [l0, l1, some (.ref xk), l3], [.int i0], h) Q = Tr sc d 258 (462, [l0, l1, some (.ref xk), l3], [.ref xk, .int i0], h) Q := t_aload_n k_258_461 rfl
theorem k_258_462 : lk 258 462 = some (.aload_n 0, 463, 0, 0, .null) := by decide +kernel
theorem x_258_462 : Tr sc d 258 (462, [some (.ref xk), l1, l2, l3], [.ref k1, .int i0], h) Q = Tr sc d 258 (463, [some (.ref xk), l1, l2, l3], [.ref xk, .ref k1, .int i0], h) Q := t_aload_n k_258_462 rfl
theorem k_258_463 : lk 258 463 = some (.iload_n 3, 464, 3, 0, .null) := by decide +kernel
theorem x_258_463 : Tr sc d 258 (463, [l0, l1, l2, some (.int x)], [.ref k2, .ref k1, .int i0], h) Q = Tr sc d 258 (464, [l0, l1, l2, some (.int x)], [.int x, .ref k2, .ref k1, .int i0], h) Q := t_iload_n k_258_463 rfl
theorem k_258_464 : lk 258 464 = some (.iconst 1, 465, 0, 0, .int 1) := by decide +kernel
theorem x_258_464 : Tr sc d 258 (464, [l0, l1, l2, l3], [.int i3, .ref k2, .ref k1, .int i0], h) Q = Tr sc d 258 (465, [l0, l1, l2, l3], [.int 1, .int i3, .ref k2, .ref k1, .int i0], h) Q := t_go k_258_464 rfl
theorem k_258_465 : lk 258 465 = some (.iadd, 466, 0, 0, .null) := by decide +kernel
theorem x_258_465 : Tr sc d 258 (465, [l0, l1, l2, l3], [.int i4, .int i3, .ref k2, .ref k1, .int i0], h) Q = Tr sc d 258 (466, [l0, l1, l2, l3], [.int (i3 + i4), .ref k2, .ref k1, .int i0], h) Q := t_go k_258_465 rfl
theorem k_258_466 : lk 258 466 = some (.iaload, 467, 0, 0, .null) := by decide +kernel
theorem x_258_466 : Tr sc d 258 (466, [l0, l1, l2, l3], [.int i3, .ref k2, .ref k1, .int i0], h) Q = (iOk sc h k2 i3 ∧ Tr sc d 258 (467, [l0, l1, l2, l3], [.int (iRd sc h k2 i3), .ref k1, .int i0], h) Q) := t_iald k_258_466
theorem k_258_467 : lk 258 467 = some (.aload_n 0, 468, 0, 0, .null) := by decide +kernel
theorem x_258_467 : Tr sc d 258 (467, [some (.ref xk), l1, l2, l3], [.int i2, .ref k1, .int i0], h) Q = Tr sc d 258 (468, [some (.ref xk), l1, l2, l3], [.ref xk, .int i2, .ref k1, .int i0], h) Q := t_aload_n k_258_467 rfl
theorem k_258_468 : lk 258 468 = some (.iload_n 3, 469, 3, 0, .null) := by decide +kernel
theorem x_258_468 : Tr sc d 258 (468, [l0, l1, l2, some (.int x)], [.ref k3, .int i2, .ref k1, .int i0], h) Q = Tr sc d 258 (469, [l0, l1, l2, some (.int x)], [.int x, .ref k3, .int i2, .ref k1, .int i0], h) Q := t_iload_n k_258_468 rfl
theorem k_258_469 : lk 258 469 = some (.iconst 2, 470, 0, 0, .int 2) := by decide +kernel
theorem x_258_469 : Tr sc d 258 (469, [l0, l1, l2, l3], [.int i4, .ref k3, .int i2, .ref k1, .int i0], h) Q = Tr sc d 258 (470, [l0, l1, l2, l3], [.int 2, .int i4, .ref k3, .int i2, .ref k1, .int i0], h) Q := t_go k_258_469 rfl
theorem k_258_470 : lk 258 470 = some (.iadd, 471, 0, 0, .null) := by decide +kernel
theorem x_258_470 : Tr sc d 258 (470, [l0, l1, l2, l3], [.int i5, .int i4, .ref k3, .int i2, .ref k1, .int i0], h) Q = Tr sc d 258 (471, [l0, l1, l2, l3], [.int (i4 + i5), .ref k3, .int i2, .ref k1, .int i0], h) Q := t_go k_258_470 rfl
theorem k_258_471 : lk 258 471 = some (.iaload, 472, 0, 0, .null) := by decide +kernel
theorem x_258_471 : Tr sc d 258 (471, [l0, l1, l2, l3], [.int i4, .ref k3, .int i2, .ref k1, .int i0], h) Q = (iOk sc h k3 i4 ∧ Tr sc d 258 (472, [l0, l1, l2, l3], [.int (iRd sc h k3 i4), .int i2, .ref k1, .int i0], h) Q) := t_iald k_258_471
theorem k_258_472 : lk 258 472 = some (.aload_n 0, 473, 0, 0, .null) := by decide +kernel
theorem x_258_472 : Tr sc d 258 (472, [some (.ref xk), l1, l2, l3], [.int i3, .int i2, .ref k1, .int i0], h) Q = Tr sc d 258 (473, [some (.ref xk), l1, l2, l3], [.ref xk, .int i3, .int i2, .ref k1, .int i0], h) Q := t_aload_n k_258_472 rfl
theorem k_258_473 : lk 258 473 = some (.iload_n 3, 474, 3, 0, .null) := by decide +kernel
theorem x_258_473 : Tr sc d 258 (473, [l0, l1, l2, some (.int x)], [.ref k4, .int i3, .int i2, .ref k1, .int i0], h) Q = Tr sc d 258 (474, [l0, l1, l2, some (.int x)], [.int x, .ref k4, .int i3, .int i2, .ref k1, .int i0], h) Q := t_iload_n k_258_473 rfl
theorem k_258_474 : lk 258 474 = some (.iconst 3, 475, 0, 0, .int 3) := by decide +kernel
theorem x_258_474 : Tr sc d 258 (474, [l0, l1, l2, l3], [.int i5, .ref k4, .int i3, .int i2, .ref k1, .int i0], h) Q = Tr sc d 258 (475, [l0, l1, l2, l3], [.int 3, .int i5, .ref k4, .int i3, .int i2, .ref k1, .int i0], h) Q := t_go k_258_474 rfl
theorem k_258_475 : lk 258 475 = some (.iadd, 476, 0, 0, .null) := by decide +kernel
theorem x_258_475 : Tr sc d 258 (475, [l0, l1, l2, l3], [.int i6, .int i5, .ref k4, .int i3, .int i2, .ref k1, .int i0], h) Q = Tr sc d 258 (476, [l0, l1, l2, l3], [.int (i5 + i6), .ref k4, .int i3, .int i2, .ref k1, .int i0], h) Q := t_go k_258_475 rfl
theorem k_258_476 : lk 258 476 = some (.iaload, 477, 0, 0, .null) := by decide +kernel
theorem x_258_476 : Tr sc d 258 (476, [l0, l1, l2, l3], [.int i5, .ref k4, .int i3, .int i2, .ref k1, .int i0], h) Q = (iOk sc h k4 i5 ∧ Tr sc d 258 (477, [l0, l1, l2, l3], [.int (iRd sc h k4 i5), .int i3, .int i2, .ref k1, .int i0], h) Q) := t_iald k_258_476
theorem k_258_477 : lk 258 477 = some (.invokevirtual 44, 480, 170, 3, .null) := by decide +kernel
theorem x_258_477 : Tr sc (d + 1) 258 (477, [l0, l1, l2, l3], [.int i4, .int i3, .int i2, .ref k1, .int i0], h) Q = (okp h k1 10 = true ∧ Tr sc d 170 (ent0 170 [.ref k1, .int i2, .int i3, .int i4] h) (fun z => Tr sc (d + 1) 258 (480, [l0, l1, l2, l3], z.1.toList ++ [.int i0], z.2) Q)) := t_cv (as := [.int i2, .int i3, .int i4]) (r := [.int i0]) k_258_477 rfl rfl (Nat.le_of_ble_eq_true rfl) (Nat.le_of_ble_eq_true rfl) (Nat.le_of_ble_eq_true rfl)
theorem k_258_480 : lk 258 480 = some (.if_icmp .eq 1268, 483, 1748, 0, .null) := by decide +kernel
theorem x_258_480 : Tr sc d 258 (480, [l0, l1, l2, l3], [.int i1, .int i0], h) Q = if i0 = i1 then Tr sc d 258 (1748, [l0, l1, l2, l3], [], h) Q else Tr sc d 258 (483, [l0, l1, l2, l3], [], h) Q := t_if k_258_480 rfl
theorem k_258_483 : lk 258 483 = some (.iconst 0, 484, 0, 0, .int 0) := by decide +kernel
theorem x_258_483 : Tr sc d 258 (483, [l0, l1, l2, l3], [], h) Q = Tr sc d 258 (484, [l0, l1, l2, l3], [.int 0], h) Q := t_go k_258_483 rfl
theorem k_258_484 : lk 258 484 = some (.ireturn, 485, 0, 0, .null) := by decide +kernel
theorem x_258_484 : Tr sc d 258 (484, [l0, l1, l2, l3], [.int i0], h) Q = (vp_nar .boolean i0 = i0 ∧ Q (some (.int i0), h)) := t_zret k_258_484 r_258
theorem k_258_485 : lk 258 485 = some (.aload_n 1, 486, 1, 0, .null) := by decide +kernel
theorem x_258_485 : Tr sc d 258 (485, [l0, some (.ref xk), l2, l3], [], h) Q = Tr sc d 258 (486, [l0, some (.ref xk), l2, l3], [.ref xk], h) Q := t_aload_n k_258_485 rfl
theorem k_258_486 : lk 258 486 = some (.aload_n 0, 487, 0, 0, .null) := by decide +kernel
theorem x_258_486 : Tr sc d 258 (486, [some (.ref xk), l1, l2, l3], [.ref k0], h) Q = Tr sc d 258 (487, [some (.ref xk), l1, l2, l3], [.ref xk, .ref k0], h) Q := t_aload_n k_258_486 rfl
theorem k_258_487 : lk 258 487 = some (.iload_n 3, 488, 3, 0, .null) := by decide +kernel
theorem x_258_487 : Tr sc d 258 (487, [l0, l1, l2, some (.int x)], [.ref k1, .ref k0], h) Q = Tr sc d 258 (488, [l0, l1, l2, some (.int x)], [.int x, .ref k1, .ref k0], h) Q := t_iload_n k_258_487 rfl
theorem k_258_488 : lk 258 488 = some (.iconst 1, 489, 0, 0, .int 1) := by decide +kernel
theorem x_258_488 : Tr sc d 258 (488, [l0, l1, l2, l3], [.int i2, .ref k1, .ref k0], h) Q = Tr sc d 258 (489, [l0, l1, l2, l3], [.int 1, .int i2, .ref k1, .ref k0], h) Q := t_go k_258_488 rfl
theorem k_258_489 : lk 258 489 = some (.iadd, 490, 0, 0, .null) := by decide +kernel
theorem x_258_489 : Tr sc d 258 (489, [l0, l1, l2, l3], [.int i3, .int i2, .ref k1, .ref k0], h) Q = Tr sc d 258 (490, [l0, l1, l2, l3], [.int (i2 + i3), .ref k1, .ref k0], h) Q := t_go k_258_489 rfl
theorem k_258_490 : lk 258 490 = some (.iaload, 491, 0, 0, .null) := by decide +kernel
theorem x_258_490 : Tr sc d 258 (490, [l0, l1, l2, l3], [.int i2, .ref k1, .ref k0], h) Q = (iOk sc h k1 i2 ∧ Tr sc d 258 (491, [l0, l1, l2, l3], [.int (iRd sc h k1 i2), .ref k0], h) Q) := t_iald k_258_490
theorem k_258_491 : lk 258 491 = some (.invokevirtual 45, 494, 103, 1, .null) := by decide +kernel
theorem x_258_491 : Tr sc (d + 1) 258 (491, [l0, l1, l2, l3], [.int i1, .ref k0], h) Q = (okp h k0 9 = true ∧ Tr sc d 103 (ent0 103 [.ref k0, .int i1] h) (fun z => Tr sc (d + 1) 258 (494, [l0, l1, l2, l3], z.1.toList ++ [], z.2) Q)) := t_cv (as := [.int i1]) (r := []) k_258_491 rfl rfl (Nat.le_of_ble_eq_true rfl) (Nat.le_of_ble_eq_true rfl) (Nat.le_of_ble_eq_true rfl)
theorem k_258_494 : lk 258 494 = some (.aload_n 2, 495, 2, 0, .null) := by decide +kernel
theorem x_258_494 : Tr sc d 258 (494, [l0, l1, some (.ref xk), l3], [.int i0], h) Q = Tr sc d 258 (495, [l0, l1, some (.ref xk), l3], [.ref xk, .int i0], h) Q := t_aload_n k_258_494 rfl
theorem k_258_495 : lk 258 495 = some (.aload_n 0, 496, 0, 0, .null) := by decide +kernel
theorem x_258_495 : Tr sc d 258 (495, [some (.ref xk), l1, l2, l3], [.ref k1, .int i0], h) Q = Tr sc d 258 (496, [some (.ref xk), l1, l2, l3], [.ref xk, .ref k1, .int i0], h) Q := t_aload_n k_258_495 rfl
theorem k_258_496 : lk 258 496 = some (.iload_n 3, 497, 3, 0, .null) := by decide +kernel
theorem x_258_496 : Tr sc d 258 (496, [l0, l1, l2, some (.int x)], [.ref k2, .ref k1, .int i0], h) Q = Tr sc d 258 (497, [l0, l1, l2, some (.int x)], [.int x, .ref k2, .ref k1, .int i0], h) Q := t_iload_n k_258_496 rfl
theorem k_258_497 : lk 258 497 = some (.iconst 1, 498, 0, 0, .int 1) := by decide +kernel
theorem x_258_497 : Tr sc d 258 (497, [l0, l1, l2, l3], [.int i3, .ref k2, .ref k1, .int i0], h) Q = Tr sc d 258 (498, [l0, l1, l2, l3], [.int 1, .int i3, .ref k2, .ref k1, .int i0], h) Q := t_go k_258_497 rfl
theorem k_258_498 : lk 258 498 = some (.iadd, 499, 0, 0, .null) := by decide +kernel
theorem x_258_498 : Tr sc d 258 (498, [l0, l1, l2, l3], [.int i4, .int i3, .ref k2, .ref k1, .int i0], h) Q = Tr sc d 258 (499, [l0, l1, l2, l3], [.int (i3 + i4), .ref k2, .ref k1, .int i0], h) Q := t_go k_258_498 rfl
theorem k_258_499 : lk 258 499 = some (.iaload, 500, 0, 0, .null) := by decide +kernel
theorem x_258_499 : Tr sc d 258 (499, [l0, l1, l2, l3], [.int i3, .ref k2, .ref k1, .int i0], h) Q = (iOk sc h k2 i3 ∧ Tr sc d 258 (500, [l0, l1, l2, l3], [.int (iRd sc h k2 i3), .ref k1, .int i0], h) Q) := t_iald k_258_499
theorem k_258_500 : lk 258 500 = some (.invokevirtual 48, 503, 174, 1, .null) := by decide +kernel
theorem x_258_500 : Tr sc (d + 1) 258 (500, [l0, l1, l2, l3], [.int i2, .ref k1, .int i0], h) Q = (okp h k1 10 = true ∧ Tr sc d 174 (ent0 174 [.ref k1, .int i2] h) (fun z => Tr sc (d + 1) 258 (503, [l0, l1, l2, l3], z.1.toList ++ [.int i0], z.2) Q)) := t_cv (as := [.int i2]) (r := [.int i0]) k_258_500 rfl rfl (Nat.le_of_ble_eq_true rfl) (Nat.le_of_ble_eq_true rfl) (Nat.le_of_ble_eq_true rfl)
theorem k_258_503 : lk 258 503 = some (.if_icmp .eq 1245, 506, 1748, 0, .null) := by decide +kernel
theorem x_258_503 : Tr sc d 258 (503, [l0, l1, l2, l3], [.int i1, .int i0], h) Q = if i0 = i1 then Tr sc d 258 (1748, [l0, l1, l2, l3], [], h) Q else Tr sc d 258 (506, [l0, l1, l2, l3], [], h) Q := t_if k_258_503 rfl
theorem k_258_506 : lk 258 506 = some (.iconst 0, 507, 0, 0, .int 0) := by decide +kernel
theorem x_258_506 : Tr sc d 258 (506, [l0, l1, l2, l3], [], h) Q = Tr sc d 258 (507, [l0, l1, l2, l3], [.int 0], h) Q := t_go k_258_506 rfl
theorem k_258_507 : lk 258 507 = some (.ireturn, 508, 0, 0, .null) := by decide +kernel
theorem x_258_507 : Tr sc d 258 (507, [l0, l1, l2, l3], [.int i0], h) Q = (vp_nar .boolean i0 = i0 ∧ Q (some (.int i0), h)) := t_zret k_258_507 r_258
theorem k_258_508 : lk 258 508 = some (.aload_n 1, 509, 1, 0, .null) := by decide +kernel
theorem x_258_508 : Tr sc d 258 (508, [l0, some (.ref xk), l2, l3], [], h) Q = Tr sc d 258 (509, [l0, some (.ref xk), l2, l3], [.ref xk], h) Q := t_aload_n k_258_508 rfl
theorem k_258_509 : lk 258 509 = some (.aload_n 0, 510, 0, 0, .null) := by decide +kernel
theorem x_258_509 : Tr sc d 258 (509, [some (.ref xk), l1, l2, l3], [.ref k0], h) Q = Tr sc d 258 (510, [some (.ref xk), l1, l2, l3], [.ref xk, .ref k0], h) Q := t_aload_n k_258_509 rfl
theorem k_258_510 : lk 258 510 = some (.iload_n 3, 511, 3, 0, .null) := by decide +kernel
theorem x_258_510 : Tr sc d 258 (510, [l0, l1, l2, some (.int x)], [.ref k1, .ref k0], h) Q = Tr sc d 258 (511, [l0, l1, l2, some (.int x)], [.int x, .ref k1, .ref k0], h) Q := t_iload_n k_258_510 rfl
theorem k_258_511 : lk 258 511 = some (.iconst 1, 512, 0, 0, .int 1) := by decide +kernel
theorem x_258_511 : Tr sc d 258 (511, [l0, l1, l2, l3], [.int i2, .ref k1, .ref k0], h) Q = Tr sc d 258 (512, [l0, l1, l2, l3], [.int 1, .int i2, .ref k1, .ref k0], h) Q := t_go k_258_511 rfl
theorem k_258_512 : lk 258 512 = some (.iadd, 513, 0, 0, .null) := by decide +kernel
theorem x_258_512 : Tr sc d 258 (512, [l0, l1, l2, l3], [.int i3, .int i2, .ref k1, .ref k0], h) Q = Tr sc d 258 (513, [l0, l1, l2, l3], [.int (i2 + i3), .ref k1, .ref k0], h) Q := t_go k_258_512 rfl
theorem k_258_513 : lk 258 513 = some (.iaload, 514, 0, 0, .null) := by decide +kernel
theorem x_258_513 : Tr sc d 258 (513, [l0, l1, l2, l3], [.int i2, .ref k1, .ref k0], h) Q = (iOk sc h k1 i2 ∧ Tr sc d 258 (514, [l0, l1, l2, l3], [.int (iRd sc h k1 i2), .ref k0], h) Q) := t_iald k_258_513
theorem k_258_514 : lk 258 514 = some (.aload_n 0, 515, 0, 0, .null) := by decide +kernel
theorem x_258_514 : Tr sc d 258 (514, [some (.ref xk), l1, l2, l3], [.int i1, .ref k0], h) Q = Tr sc d 258 (515, [some (.ref xk), l1, l2, l3], [.ref xk, .int i1, .ref k0], h) Q := t_aload_n k_258_514 rfl
theorem k_258_515 : lk 258 515 = some (.iload_n 3, 516, 3, 0, .null) := by decide +kernel
theorem x_258_515 : Tr sc d 258 (515, [l0, l1, l2, some (.int x)], [.ref k2, .int i1, .ref k0], h) Q = Tr sc d 258 (516, [l0, l1, l2, some (.int x)], [.int x, .ref k2, .int i1, .ref k0], h) Q := t_iload_n k_258_515 rfl
theorem k_258_516 : lk 258 516 = some (.iconst 2, 517, 0, 0, .int 2) := by decide +kernel
theorem x_258_516 : Tr sc d 258 (516, [l0, l1, l2, l3], [.int i3, .ref k2, .int i1, .ref k0], h) Q = Tr sc d 258 (517, [l0, l1, l2, l3], [.int 2, .int i3, .ref k2, .int i1, .ref k0], h) Q := t_go k_258_516 rfl
theorem k_258_517 : lk 258 517 = some (.iadd, 518, 0, 0, .null) := by decide +kernel
theorem x_258_517 : Tr sc d 258 (517, [l0, l1, l2, l3], [.int i4, .int i3, .ref k2, .int i1, .ref k0], h) Q = Tr sc d 258 (518, [l0, l1, l2, l3], [.int (i3 + i4), .ref k2, .int i1, .ref k0], h) Q := t_go k_258_517 rfl
theorem k_258_518 : lk 258 518 = some (.iaload, 519, 0, 0, .null) := by decide +kernel
theorem x_258_518 : Tr sc d 258 (518, [l0, l1, l2, l3], [.int i3, .ref k2, .int i1, .ref k0], h) Q = (iOk sc h k2 i3 ∧ Tr sc d 258 (519, [l0, l1, l2, l3], [.int (iRd sc h k2 i3), .int i1, .ref k0], h) Q) := t_iald k_258_518
theorem k_258_519 : lk 258 519 = some (.invokevirtual 49, 522, 104, 2, .null) := by decide +kernel
theorem x_258_519 : Tr sc (d + 1) 258 (519, [l0, l1, l2, l3], [.int i2, .int i1, .ref k0], h) Q = (okp h k0 9 = true ∧ Tr sc d 104 (ent0 104 [.ref k0, .int i1, .int i2] h) (fun z => Tr sc (d + 1) 258 (522, [l0, l1, l2, l3], z.1.toList ++ [], z.2) Q)) := t_cv (as := [.int i1, .int i2]) (r := []) k_258_519 rfl rfl (Nat.le_of_ble_eq_true rfl) (Nat.le_of_ble_eq_true rfl) (Nat.le_of_ble_eq_true rfl)
theorem k_258_522 : lk 258 522 = some (.aload_n 2, 523, 2, 0, .null) := by decide +kernel
theorem x_258_522 : Tr sc d 258 (522, [l0, l1, some (.ref xk), l3], [.int i0], h) Q = Tr sc d 258 (523, [l0, l1, some (.ref xk), l3], [.ref xk, .int i0], h) Q := t_aload_n k_258_522 rfl
theorem k_258_523 : lk 258 523 = some (.aload_n 0, 524, 0, 0, .null) := by decide +kernel
theorem x_258_523 : Tr sc d 258 (523, [some (.ref xk), l1, l2, l3], [.ref k1, .int i0], h) Q = Tr sc d 258 (524, [some (.ref xk), l1, l2, l3], [.ref xk, .ref k1, .int i0], h) Q := t_aload_n k_258_523 rfl
theorem k_258_524 : lk 258 524 = some (.iload_n 3, 525, 3, 0, .null) := by decide +kernel
theorem x_258_524 : Tr sc d 258 (524, [l0, l1, l2, some (.int x)], [.ref k2, .ref k1, .int i0], h) Q = Tr sc d 258 (525, [l0, l1, l2, some (.int x)], [.int x, .ref k2, .ref k1, .int i0], h) Q := t_iload_n k_258_524 rfl
theorem k_258_525 : lk 258 525 = some (.iconst 1, 526, 0, 0, .int 1) := by decide +kernel
theorem x_258_525 : Tr sc d 258 (525, [l0, l1, l2, l3], [.int i3, .ref k2, .ref k1, .int i0], h) Q = Tr sc d 258 (526, [l0, l1, l2, l3], [.int 1, .int i3, .ref k2, .ref k1, .int i0], h) Q := t_go k_258_525 rfl
theorem k_258_526 : lk 258 526 = some (.iadd, 527, 0, 0, .null) := by decide +kernel
theorem x_258_526 : Tr sc d 258 (526, [l0, l1, l2, l3], [.int i4, .int i3, .ref k2, .ref k1, .int i0], h) Q = Tr sc d 258 (527, [l0, l1, l2, l3], [.int (i3 + i4), .ref k2, .ref k1, .int i0], h) Q := t_go k_258_526 rfl
theorem k_258_527 : lk 258 527 = some (.iaload, 528, 0, 0, .null) := by decide +kernel
theorem x_258_527 : Tr sc d 258 (527, [l0, l1, l2, l3], [.int i3, .ref k2, .ref k1, .int i0], h) Q = (iOk sc h k2 i3 ∧ Tr sc d 258 (528, [l0, l1, l2, l3], [.int (iRd sc h k2 i3), .ref k1, .int i0], h) Q) := t_iald k_258_527
theorem k_258_528 : lk 258 528 = some (.aload_n 0, 529, 0, 0, .null) := by decide +kernel
theorem x_258_528 : Tr sc d 258 (528, [some (.ref xk), l1, l2, l3], [.int i2, .ref k1, .int i0], h) Q = Tr sc d 258 (529, [some (.ref xk), l1, l2, l3], [.ref xk, .int i2, .ref k1, .int i0], h) Q := t_aload_n k_258_528 rfl
theorem k_258_529 : lk 258 529 = some (.iload_n 3, 530, 3, 0, .null) := by decide +kernel
theorem x_258_529 : Tr sc d 258 (529, [l0, l1, l2, some (.int x)], [.ref k3, .int i2, .ref k1, .int i0], h) Q = Tr sc d 258 (530, [l0, l1, l2, some (.int x)], [.int x, .ref k3, .int i2, .ref k1, .int i0], h) Q := t_iload_n k_258_529 rfl
theorem k_258_530 : lk 258 530 = some (.iconst 2, 531, 0, 0, .int 2) := by decide +kernel
theorem x_258_530 : Tr sc d 258 (530, [l0, l1, l2, l3], [.int i4, .ref k3, .int i2, .ref k1, .int i0], h) Q = Tr sc d 258 (531, [l0, l1, l2, l3], [.int 2, .int i4, .ref k3, .int i2, .ref k1, .int i0], h) Q := t_go k_258_530 rfl
theorem k_258_531 : lk 258 531 = some (.iadd, 532, 0, 0, .null) := by decide +kernel
theorem x_258_531 : Tr sc d 258 (531, [l0, l1, l2, l3], [.int i5, .int i4, .ref k3, .int i2, .ref k1, .int i0], h) Q = Tr sc d 258 (532, [l0, l1, l2, l3], [.int (i4 + i5), .ref k3, .int i2, .ref k1, .int i0], h) Q := t_go k_258_531 rfl
theorem k_258_532 : lk 258 532 = some (.iaload, 533, 0, 0, .null) := by decide +kernel
theorem x_258_532 : Tr sc d 258 (532, [l0, l1, l2, l3], [.int i4, .ref k3, .int i2, .ref k1, .int i0], h) Q = (iOk sc h k3 i4 ∧ Tr sc d 258 (533, [l0, l1, l2, l3], [.int (iRd sc h k3 i4), .int i2, .ref k1, .int i0], h) Q) := t_iald k_258_532
theorem k_258_533 : lk 258 533 = some (.invokevirtual 52, 536, 180, 2, .null) := by decide +kernel
theorem x_258_533 : Tr sc (d + 1) 258 (533, [l0, l1, l2, l3], [.int i3, .int i2, .ref k1, .int i0], h) Q = (okp h k1 10 = true ∧ Tr sc d 180 (ent0 180 [.ref k1, .int i2, .int i3] h) (fun z => Tr sc (d + 1) 258 (536, [l0, l1, l2, l3], z.1.toList ++ [.int i0], z.2) Q)) := t_cv (as := [.int i2, .int i3]) (r := [.int i0]) k_258_533 rfl rfl (Nat.le_of_ble_eq_true rfl) (Nat.le_of_ble_eq_true rfl) (Nat.le_of_ble_eq_true rfl)
theorem k_258_536 : lk 258 536 = some (.if_icmp .eq 1212, 539, 1748, 0, .null) := by decide +kernel
theorem x_258_536 : Tr sc d 258 (536, [l0, l1, l2, l3], [.int i1, .int i0], h) Q = if i0 = i1 then Tr sc d 258 (1748, [l0, l1, l2, l3], [], h) Q else Tr sc d 258 (539, [l0, l1, l2, l3], [], h) Q := t_if k_258_536 rfl
theorem k_258_539 : lk 258 539 = some (.iconst 0, 540, 0, 0, .int 0) := by decide +kernel
theorem x_258_539 : Tr sc d 258 (539, [l0, l1, l2, l3], [], h) Q = Tr sc d 258 (540, [l0, l1, l2, l3], [.int 0], h) Q := t_go k_258_539 rfl
theorem k_258_540 : lk 258 540 = some (.ireturn, 541, 0, 0, .null) := by decide +kernel
theorem x_258_540 : Tr sc d 258 (540, [l0, l1, l2, l3], [.int i0], h) Q = (vp_nar .boolean i0 = i0 ∧ Q (some (.int i0), h)) := t_zret k_258_540 r_258
theorem k_258_541 : lk 258 541 = some (.aload_n 1, 542, 1, 0, .null) := by decide +kernel
theorem x_258_541 : Tr sc d 258 (541, [l0, some (.ref xk), l2, l3], [], h) Q = Tr sc d 258 (542, [l0, some (.ref xk), l2, l3], [.ref xk], h) Q := t_aload_n k_258_541 rfl
theorem k_258_542 : lk 258 542 = some (.aload_n 0, 543, 0, 0, .null) := by decide +kernel
theorem x_258_542 : Tr sc d 258 (542, [some (.ref xk), l1, l2, l3], [.ref k0], h) Q = Tr sc d 258 (543, [some (.ref xk), l1, l2, l3], [.ref xk, .ref k0], h) Q := t_aload_n k_258_542 rfl
theorem k_258_543 : lk 258 543 = some (.iload_n 3, 544, 3, 0, .null) := by decide +kernel
theorem x_258_543 : Tr sc d 258 (543, [l0, l1, l2, some (.int x)], [.ref k1, .ref k0], h) Q = Tr sc d 258 (544, [l0, l1, l2, some (.int x)], [.int x, .ref k1, .ref k0], h) Q := t_iload_n k_258_543 rfl
theorem k_258_544 : lk 258 544 = some (.iconst 1, 545, 0, 0, .int 1) := by decide +kernel
theorem x_258_544 : Tr sc d 258 (544, [l0, l1, l2, l3], [.int i2, .ref k1, .ref k0], h) Q = Tr sc d 258 (545, [l0, l1, l2, l3], [.int 1, .int i2, .ref k1, .ref k0], h) Q := t_go k_258_544 rfl
theorem k_258_545 : lk 258 545 = some (.iadd, 546, 0, 0, .null) := by decide +kernel
theorem x_258_545 : Tr sc d 258 (545, [l0, l1, l2, l3], [.int i3, .int i2, .ref k1, .ref k0], h) Q = Tr sc d 258 (546, [l0, l1, l2, l3], [.int (i2 + i3), .ref k1, .ref k0], h) Q := t_go k_258_545 rfl
theorem k_258_546 : lk 258 546 = some (.iaload, 547, 0, 0, .null) := by decide +kernel
theorem x_258_546 : Tr sc d 258 (546, [l0, l1, l2, l3], [.int i2, .ref k1, .ref k0], h) Q = (iOk sc h k1 i2 ∧ Tr sc d 258 (547, [l0, l1, l2, l3], [.int (iRd sc h k1 i2), .ref k0], h) Q) := t_iald k_258_546
theorem k_258_547 : lk 258 547 = some (.aload_n 0, 548, 0, 0, .null) := by decide +kernel
theorem x_258_547 : Tr sc d 258 (547, [some (.ref xk), l1, l2, l3], [.int i1, .ref k0], h) Q = Tr sc d 258 (548, [some (.ref xk), l1, l2, l3], [.ref xk, .int i1, .ref k0], h) Q := t_aload_n k_258_547 rfl
theorem k_258_548 : lk 258 548 = some (.iload_n 3, 549, 3, 0, .null) := by decide +kernel
theorem x_258_548 : Tr sc d 258 (548, [l0, l1, l2, some (.int x)], [.ref k2, .int i1, .ref k0], h) Q = Tr sc d 258 (549, [l0, l1, l2, some (.int x)], [.int x, .ref k2, .int i1, .ref k0], h) Q := t_iload_n k_258_548 rfl
theorem k_258_549 : lk 258 549 = some (.iconst 2, 550, 0, 0, .int 2) := by decide +kernel
theorem x_258_549 : Tr sc d 258 (549, [l0, l1, l2, l3], [.int i3, .ref k2, .int i1, .ref k0], h) Q = Tr sc d 258 (550, [l0, l1, l2, l3], [.int 2, .int i3, .ref k2, .int i1, .ref k0], h) Q := t_go k_258_549 rfl
theorem k_258_550 : lk 258 550 = some (.iadd, 551, 0, 0, .null) := by decide +kernel
theorem x_258_550 : Tr sc d 258 (550, [l0, l1, l2, l3], [.int i4, .int i3, .ref k2, .int i1, .ref k0], h) Q = Tr sc d 258 (551, [l0, l1, l2, l3], [.int (i3 + i4), .ref k2, .int i1, .ref k0], h) Q := t_go k_258_550 rfl
theorem k_258_551 : lk 258 551 = some (.iaload, 552, 0, 0, .null) := by decide +kernel
theorem x_258_551 : Tr sc d 258 (551, [l0, l1, l2, l3], [.int i3, .ref k2, .int i1, .ref k0], h) Q = (iOk sc h k2 i3 ∧ Tr sc d 258 (552, [l0, l1, l2, l3], [.int (iRd sc h k2 i3), .int i1, .ref k0], h) Q) := t_iald k_258_551
theorem k_258_552 : lk 258 552 = some (.aload_n 0, 553, 0, 0, .null) := by decide +kernel
theorem x_258_552 : Tr sc d 258 (552, [some (.ref xk), l1, l2, l3], [.int i2, .int i1, .ref k0], h) Q = Tr sc d 258 (553, [some (.ref xk), l1, l2, l3], [.ref xk, .int i2, .int i1, .ref k0], h) Q := t_aload_n k_258_552 rfl
theorem k_258_553 : lk 258 553 = some (.iload_n 3, 554, 3, 0, .null) := by decide +kernel
theorem x_258_553 : Tr sc d 258 (553, [l0, l1, l2, some (.int x)], [.ref k3, .int i2, .int i1, .ref k0], h) Q = Tr sc d 258 (554, [l0, l1, l2, some (.int x)], [.int x, .ref k3, .int i2, .int i1, .ref k0], h) Q := t_iload_n k_258_553 rfl
theorem k_258_554 : lk 258 554 = some (.iconst 3, 555, 0, 0, .int 3) := by decide +kernel
theorem x_258_554 : Tr sc d 258 (554, [l0, l1, l2, l3], [.int i4, .ref k3, .int i2, .int i1, .ref k0], h) Q = Tr sc d 258 (555, [l0, l1, l2, l3], [.int 3, .int i4, .ref k3, .int i2, .int i1, .ref k0], h) Q := t_go k_258_554 rfl
theorem k_258_555 : lk 258 555 = some (.iadd, 556, 0, 0, .null) := by decide +kernel
theorem x_258_555 : Tr sc d 258 (555, [l0, l1, l2, l3], [.int i5, .int i4, .ref k3, .int i2, .int i1, .ref k0], h) Q = Tr sc d 258 (556, [l0, l1, l2, l3], [.int (i4 + i5), .ref k3, .int i2, .int i1, .ref k0], h) Q := t_go k_258_555 rfl
theorem k_258_556 : lk 258 556 = some (.iaload, 557, 0, 0, .null) := by decide +kernel
theorem x_258_556 : Tr sc d 258 (556, [l0, l1, l2, l3], [.int i4, .ref k3, .int i2, .int i1, .ref k0], h) Q = (iOk sc h k3 i4 ∧ Tr sc d 258 (557, [l0, l1, l2, l3], [.int (iRd sc h k3 i4), .int i2, .int i1, .ref k0], h) Q) := t_iald k_258_556
theorem k_258_557 : lk 258 557 = some (.invokevirtual 53, 560, 105, 3, .null) := by decide +kernel
theorem x_258_557 : Tr sc (d + 1) 258 (557, [l0, l1, l2, l3], [.int i3, .int i2, .int i1, .ref k0], h) Q = (okp h k0 9 = true ∧ Tr sc d 105 (ent0 105 [.ref k0, .int i1, .int i2, .int i3] h) (fun z => Tr sc (d + 1) 258 (560, [l0, l1, l2, l3], z.1.toList ++ [], z.2) Q)) := t_cv (as := [.int i1, .int i2, .int i3]) (r := []) k_258_557 rfl rfl (Nat.le_of_ble_eq_true rfl) (Nat.le_of_ble_eq_true rfl) (Nat.le_of_ble_eq_true rfl)
theorem k_258_560 : lk 258 560 = some (.aload_n 2, 561, 2, 0, .null) := by decide +kernel
theorem x_258_560 : Tr sc d 258 (560, [l0, l1, some (.ref xk), l3], [.int i0], h) Q = Tr sc d 258 (561, [l0, l1, some (.ref xk), l3], [.ref xk, .int i0], h) Q := t_aload_n k_258_560 rfl
theorem k_258_561 : lk 258 561 = some (.aload_n 0, 562, 0, 0, .null) := by decide +kernel
theorem x_258_561 : Tr sc d 258 (561, [some (.ref xk), l1, l2, l3], [.ref k1, .int i0], h) Q = Tr sc d 258 (562, [some (.ref xk), l1, l2, l3], [.ref xk, .ref k1, .int i0], h) Q := t_aload_n k_258_561 rfl
theorem k_258_562 : lk 258 562 = some (.iload_n 3, 563, 3, 0, .null) := by decide +kernel
theorem x_258_562 : Tr sc d 258 (562, [l0, l1, l2, some (.int x)], [.ref k2, .ref k1, .int i0], h) Q = Tr sc d 258 (563, [l0, l1, l2, some (.int x)], [.int x, .ref k2, .ref k1, .int i0], h) Q := t_iload_n k_258_562 rfl
theorem k_258_563 : lk 258 563 = some (.iconst 1, 564, 0, 0, .int 1) := by decide +kernel
theorem x_258_563 : Tr sc d 258 (563, [l0, l1, l2, l3], [.int i3, .ref k2, .ref k1, .int i0], h) Q = Tr sc d 258 (564, [l0, l1, l2, l3], [.int 1, .int i3, .ref k2, .ref k1, .int i0], h) Q := t_go k_258_563 rfl
theorem k_258_564 : lk 258 564 = some (.iadd, 565, 0, 0, .null) := by decide +kernel
theorem x_258_564 : Tr sc d 258 (564, [l0, l1, l2, l3], [.int i4, .int i3, .ref k2, .ref k1, .int i0], h) Q = Tr sc d 258 (565, [l0, l1, l2, l3], [.int (i3 + i4), .ref k2, .ref k1, .int i0], h) Q := t_go k_258_564 rfl
theorem k_258_565 : lk 258 565 = some (.iaload, 566, 0, 0, .null) := by decide +kernel
theorem x_258_565 : Tr sc d 258 (565, [l0, l1, l2, l3], [.int i3, .ref k2, .ref k1, .int i0], h) Q = (iOk sc h k2 i3 ∧ Tr sc d 258 (566, [l0, l1, l2, l3], [.int (iRd sc h k2 i3), .ref k1, .int i0], h) Q) := t_iald k_258_565
theorem k_258_566 : lk 258 566 = some (.aload_n 0, 567, 0, 0, .null) := by decide +kernel
theorem x_258_566 : Tr sc d 258 (566, [some (.ref xk), l1, l2, l3], [.int i2, .ref k1, .int i0], h) Q = Tr sc d 258 (567, [some (.ref xk), l1, l2, l3], [.ref xk, .int i2, .ref k1, .int i0], h) Q := t_aload_n k_258_566 rfl
theorem k_258_567 : lk 258 567 = some (.iload_n 3, 568, 3, 0, .null) := by decide +kernel
theorem x_258_567 : Tr sc d 258 (567, [l0, l1, l2, some (.int x)], [.ref k3, .int i2, .ref k1, .int i0], h) Q = Tr sc d 258 (568, [l0, l1, l2, some (.int x)], [.int x, .ref k3, .int i2, .ref k1, .int i0], h) Q := t_iload_n k_258_567 rfl
theorem k_258_568 : lk 258 568 = some (.iconst 2, 569, 0, 0, .int 2) := by decide +kernel
theorem x_258_568 : Tr sc d 258 (568, [l0, l1, l2, l3], [.int i4, .ref k3, .int i2, .ref k1, .int i0], h) Q = Tr sc d 258 (569, [l0, l1, l2, l3], [.int 2, .int i4, .ref k3, .int i2, .ref k1, .int i0], h) Q := t_go k_258_568 rfl
theorem k_258_569 : lk 258 569 = some (.iadd, 570, 0, 0, .null) := by decide +kernel
theorem x_258_569 : Tr sc d 258 (569, [l0, l1, l2, l3], [.int i5, .int i4, .ref k3, .int i2, .ref k1, .int i0], h) Q = Tr sc d 258 (570, [l0, l1, l2, l3], [.int (i4 + i5), .ref k3, .int i2, .ref k1, .int i0], h) Q := t_go k_258_569 rfl
theorem k_258_570 : lk 258 570 = some (.iaload, 571, 0, 0, .null) := by decide +kernel
theorem x_258_570 : Tr sc d 258 (570, [l0, l1, l2, l3], [.int i4, .ref k3, .int i2, .ref k1, .int i0], h) Q = (iOk sc h k3 i4 ∧ Tr sc d 258 (571, [l0, l1, l2, l3], [.int (iRd sc h k3 i4), .int i2, .ref k1, .int i0], h) Q) := t_iald k_258_570
theorem k_258_571 : lk 258 571 = some (.aload_n 0, 572, 0, 0, .null) := by decide +kernel
theorem x_258_571 : Tr sc d 258 (571, [some (.ref xk), l1, l2, l3], [.int i3, .int i2, .ref k1, .int i0], h) Q = Tr sc d 258 (572, [some (.ref xk), l1, l2, l3], [.ref xk, .int i3, .int i2, .ref k1, .int i0], h) Q := t_aload_n k_258_571 rfl
theorem k_258_572 : lk 258 572 = some (.iload_n 3, 573, 3, 0, .null) := by decide +kernel
theorem x_258_572 : Tr sc d 258 (572, [l0, l1, l2, some (.int x)], [.ref k4, .int i3, .int i2, .ref k1, .int i0], h) Q = Tr sc d 258 (573, [l0, l1, l2, some (.int x)], [.int x, .ref k4, .int i3, .int i2, .ref k1, .int i0], h) Q := t_iload_n k_258_572 rfl
theorem k_258_573 : lk 258 573 = some (.iconst 3, 574, 0, 0, .int 3) := by decide +kernel
theorem x_258_573 : Tr sc d 258 (573, [l0, l1, l2, l3], [.int i5, .ref k4, .int i3, .int i2, .ref k1, .int i0], h) Q = Tr sc d 258 (574, [l0, l1, l2, l3], [.int 3, .int i5, .ref k4, .int i3, .int i2, .ref k1, .int i0], h) Q := t_go k_258_573 rfl
theorem k_258_574 : lk 258 574 = some (.iadd, 575, 0, 0, .null) := by decide +kernel
theorem x_258_574 : Tr sc d 258 (574, [l0, l1, l2, l3], [.int i6, .int i5, .ref k4, .int i3, .int i2, .ref k1, .int i0], h) Q = Tr sc d 258 (575, [l0, l1, l2, l3], [.int (i5 + i6), .ref k4, .int i3, .int i2, .ref k1, .int i0], h) Q := t_go k_258_574 rfl
theorem k_258_575 : lk 258 575 = some (.iaload, 576, 0, 0, .null) := by decide +kernel
theorem x_258_575 : Tr sc d 258 (575, [l0, l1, l2, l3], [.int i5, .ref k4, .int i3, .int i2, .ref k1, .int i0], h) Q = (iOk sc h k4 i5 ∧ Tr sc d 258 (576, [l0, l1, l2, l3], [.int (iRd sc h k4 i5), .int i3, .int i2, .ref k1, .int i0], h) Q) := t_iald k_258_575
theorem k_258_576 : lk 258 576 = some (.invokevirtual 56, 579, 187, 3, .null) := by decide +kernel
theorem x_258_576 : Tr sc (d + 1) 258 (576, [l0, l1, l2, l3], [.int i4, .int i3, .int i2, .ref k1, .int i0], h) Q = (okp h k1 10 = true ∧ Tr sc d 187 (ent0 187 [.ref k1, .int i2, .int i3, .int i4] h) (fun z => Tr sc (d + 1) 258 (579, [l0, l1, l2, l3], z.1.toList ++ [.int i0], z.2) Q)) := t_cv (as := [.int i2, .int i3, .int i4]) (r := [.int i0]) k_258_576 rfl rfl (Nat.le_of_ble_eq_true rfl) (Nat.le_of_ble_eq_true rfl) (Nat.le_of_ble_eq_true rfl)
theorem k_258_579 : lk 258 579 = some (.if_icmp .eq 1169, 582, 1748, 0, .null) := by decide +kernel
theorem x_258_579 : Tr sc d 258 (579, [l0, l1, l2, l3], [.int i1, .int i0], h) Q = if i0 = i1 then Tr sc d 258 (1748, [l0, l1, l2, l3], [], h) Q else Tr sc d 258 (582, [l0, l1, l2, l3], [], h) Q := t_if k_258_579 rfl
theorem k_258_582 : lk 258 582 = some (.iconst 0, 583, 0, 0, .int 0) := by decide +kernel
theorem x_258_582 : Tr sc d 258 (582, [l0, l1, l2, l3], [], h) Q = Tr sc d 258 (583, [l0, l1, l2, l3], [.int 0], h) Q := t_go k_258_582 rfl
theorem k_258_583 : lk 258 583 = some (.ireturn, 584, 0, 0, .null) := by decide +kernel
theorem x_258_583 : Tr sc d 258 (583, [l0, l1, l2, l3], [.int i0], h) Q = (vp_nar .boolean i0 = i0 ∧ Q (some (.int i0), h)) := t_zret k_258_583 r_258
theorem k_258_584 : lk 258 584 = some (.aload_n 1, 585, 1, 0, .null) := by decide +kernel
theorem x_258_584 : Tr sc d 258 (584, [l0, some (.ref xk), l2, l3], [], h) Q = Tr sc d 258 (585, [l0, some (.ref xk), l2, l3], [.ref xk], h) Q := t_aload_n k_258_584 rfl
theorem k_258_585 : lk 258 585 = some (.aload_n 0, 586, 0, 0, .null) := by decide +kernel
theorem x_258_585 : Tr sc d 258 (585, [some (.ref xk), l1, l2, l3], [.ref k0], h) Q = Tr sc d 258 (586, [some (.ref xk), l1, l2, l3], [.ref xk, .ref k0], h) Q := t_aload_n k_258_585 rfl
theorem k_258_586 : lk 258 586 = some (.iload_n 3, 587, 3, 0, .null) := by decide +kernel
theorem x_258_586 : Tr sc d 258 (586, [l0, l1, l2, some (.int x)], [.ref k1, .ref k0], h) Q = Tr sc d 258 (587, [l0, l1, l2, some (.int x)], [.int x, .ref k1, .ref k0], h) Q := t_iload_n k_258_586 rfl
theorem k_258_587 : lk 258 587 = some (.iconst 1, 588, 0, 0, .int 1) := by decide +kernel
theorem x_258_587 : Tr sc d 258 (587, [l0, l1, l2, l3], [.int i2, .ref k1, .ref k0], h) Q = Tr sc d 258 (588, [l0, l1, l2, l3], [.int 1, .int i2, .ref k1, .ref k0], h) Q := t_go k_258_587 rfl
theorem k_258_588 : lk 258 588 = some (.iadd, 589, 0, 0, .null) := by decide +kernel
theorem x_258_588 : Tr sc d 258 (588, [l0, l1, l2, l3], [.int i3, .int i2, .ref k1, .ref k0], h) Q = Tr sc d 258 (589, [l0, l1, l2, l3], [.int (i2 + i3), .ref k1, .ref k0], h) Q := t_go k_258_588 rfl
theorem k_258_589 : lk 258 589 = some (.iaload, 590, 0, 0, .null) := by decide +kernel
theorem x_258_589 : Tr sc d 258 (589, [l0, l1, l2, l3], [.int i2, .ref k1, .ref k0], h) Q = (iOk sc h k1 i2 ∧ Tr sc d 258 (590, [l0, l1, l2, l3], [.int (iRd sc h k1 i2), .ref k0], h) Q) := t_iald k_258_589
theorem k_258_590 : lk 258 590 = some (.aload_n 0, 591, 0, 0, .null) := by decide +kernel
theorem x_258_590 : Tr sc d 258 (590, [some (.ref xk), l1, l2, l3], [.int i1, .ref k0], h) Q = Tr sc d 258 (591, [some (.ref xk), l1, l2, l3], [.ref xk, .int i1, .ref k0], h) Q := t_aload_n k_258_590 rfl
theorem k_258_591 : lk 258 591 = some (.iload_n 3, 592, 3, 0, .null) := by decide +kernel
theorem x_258_591 : Tr sc d 258 (591, [l0, l1, l2, some (.int x)], [.ref k2, .int i1, .ref k0], h) Q = Tr sc d 258 (592, [l0, l1, l2, some (.int x)], [.int x, .ref k2, .int i1, .ref k0], h) Q := t_iload_n k_258_591 rfl
theorem k_258_592 : lk 258 592 = some (.iconst 2, 593, 0, 0, .int 2) := by decide +kernel
theorem x_258_592 : Tr sc d 258 (592, [l0, l1, l2, l3], [.int i3, .ref k2, .int i1, .ref k0], h) Q = Tr sc d 258 (593, [l0, l1, l2, l3], [.int 2, .int i3, .ref k2, .int i1, .ref k0], h) Q := t_go k_258_592 rfl
theorem k_258_593 : lk 258 593 = some (.iadd, 594, 0, 0, .null) := by decide +kernel
theorem x_258_593 : Tr sc d 258 (593, [l0, l1, l2, l3], [.int i4, .int i3, .ref k2, .int i1, .ref k0], h) Q = Tr sc d 258 (594, [l0, l1, l2, l3], [.int (i3 + i4), .ref k2, .int i1, .ref k0], h) Q := t_go k_258_593 rfl
theorem k_258_594 : lk 258 594 = some (.iaload, 595, 0, 0, .null) := by decide +kernel
theorem x_258_594 : Tr sc d 258 (594, [l0, l1, l2, l3], [.int i3, .ref k2, .int i1, .ref k0], h) Q = (iOk sc h k2 i3 ∧ Tr sc d 258 (595, [l0, l1, l2, l3], [.int (iRd sc h k2 i3), .int i1, .ref k0], h) Q) := t_iald k_258_594
theorem k_258_595 : lk 258 595 = some (.aload_n 0, 596, 0, 0, .null) := by decide +kernel
theorem x_258_595 : Tr sc d 258 (595, [some (.ref xk), l1, l2, l3], [.int i2, .int i1, .ref k0], h) Q = Tr sc d 258 (596, [some (.ref xk), l1, l2, l3], [.ref xk, .int i2, .int i1, .ref k0], h) Q := t_aload_n k_258_595 rfl
theorem k_258_596 : lk 258 596 = some (.iload_n 3, 597, 3, 0, .null) := by decide +kernel
theorem x_258_596 : Tr sc d 258 (596, [l0, l1, l2, some (.int x)], [.ref k3, .int i2, .int i1, .ref k0], h) Q = Tr sc d 258 (597, [l0, l1, l2, some (.int x)], [.int x, .ref k3, .int i2, .int i1, .ref k0], h) Q := t_iload_n k_258_596 rfl
theorem k_258_597 : lk 258 597 = some (.iconst 3, 598, 0, 0, .int 3) := by decide +kernel
theorem x_258_597 : Tr sc d 258 (597, [l0, l1, l2, l3], [.int i4, .ref k3, .int i2, .int i1, .ref k0], h) Q = Tr sc d 258 (598, [l0, l1, l2, l3], [.int 3, .int i4, .ref k3, .int i2, .int i1, .ref k0], h) Q := t_go k_258_597 rfl
theorem k_258_598 : lk 258 598 = some (.iadd, 599, 0, 0, .null) := by decide +kernel
theorem x_258_598 : Tr sc d 258 (598, [l0, l1, l2, l3], [.int i5, .int i4, .ref k3, .int i2, .int i1, .ref k0], h) Q = Tr sc d 258 (599, [l0, l1, l2, l3], [.int (i4 + i5), .ref k3, .int i2, .int i1, .ref k0], h) Q := t_go k_258_598 rfl
theorem k_258_599 : lk 258 599 = some (.iaload, 600, 0, 0, .null) := by decide +kernel
theorem x_258_599 : Tr sc d 258 (599, [l0, l1, l2, l3], [.int i4, .ref k3, .int i2, .int i1, .ref k0], h) Q = (iOk sc h k3 i4 ∧ Tr sc d 258 (600, [l0, l1, l2, l3], [.int (iRd sc h k3 i4), .int i2, .int i1, .ref k0], h) Q) := t_iald k_258_599
theorem k_258_600 : lk 258 600 = some (.invokevirtual 57, 603, 106, 3, .null) := by decide +kernel
theorem x_258_600 : Tr sc (d + 1) 258 (600, [l0, l1, l2, l3], [.int i3, .int i2, .int i1, .ref k0], h) Q = (okp h k0 9 = true ∧ Tr sc d 106 (ent0 106 [.ref k0, .int i1, .int i2, .int i3] h) (fun z => Tr sc (d + 1) 258 (603, [l0, l1, l2, l3], z.1.toList ++ [], z.2) Q)) := t_cv (as := [.int i1, .int i2, .int i3]) (r := []) k_258_600 rfl rfl (Nat.le_of_ble_eq_true rfl) (Nat.le_of_ble_eq_true rfl) (Nat.le_of_ble_eq_true rfl)
theorem k_258_603 : lk 258 603 = some (.aload_n 2, 604, 2, 0, .null) := by decide +kernel
theorem x_258_603 : Tr sc d 258 (603, [l0, l1, some (.ref xk), l3], [.int i0], h) Q = Tr sc d 258 (604, [l0, l1, some (.ref xk), l3], [.ref xk, .int i0], h) Q := t_aload_n k_258_603 rfl
theorem k_258_604 : lk 258 604 = some (.aload_n 0, 605, 0, 0, .null) := by decide +kernel
theorem x_258_604 : Tr sc d 258 (604, [some (.ref xk), l1, l2, l3], [.ref k1, .int i0], h) Q = Tr sc d 258 (605, [some (.ref xk), l1, l2, l3], [.ref xk, .ref k1, .int i0], h) Q := t_aload_n k_258_604 rfl
theorem k_258_605 : lk 258 605 = some (.iload_n 3, 606, 3, 0, .null) := by decide +kernel
theorem x_258_605 : Tr sc d 258 (605, [l0, l1, l2, some (.int x)], [.ref k2, .ref k1, .int i0], h) Q = Tr sc d 258 (606, [l0, l1, l2, some (.int x)], [.int x, .ref k2, .ref k1, .int i0], h) Q := t_iload_n k_258_605 rfl
theorem k_258_606 : lk 258 606 = some (.iconst 1, 607, 0, 0, .int 1) := by decide +kernel
theorem x_258_606 : Tr sc d 258 (606, [l0, l1, l2, l3], [.int i3, .ref k2, .ref k1, .int i0], h) Q = Tr sc d 258 (607, [l0, l1, l2, l3], [.int 1, .int i3, .ref k2, .ref k1, .int i0], h) Q := t_go k_258_606 rfl
theorem k_258_607 : lk 258 607 = some (.iadd, 608, 0, 0, .null) := by decide +kernel
theorem x_258_607 : Tr sc d 258 (607, [l0, l1, l2, l3], [.int i4, .int i3, .ref k2, .ref k1, .int i0], h) Q = Tr sc d 258 (608, [l0, l1, l2, l3], [.int (i3 + i4), .ref k2, .ref k1, .int i0], h) Q := t_go k_258_607 rfl
theorem k_258_608 : lk 258 608 = some (.iaload, 609, 0, 0, .null) := by decide +kernel
theorem x_258_608 : Tr sc d 258 (608, [l0, l1, l2, l3], [.int i3, .ref k2, .ref k1, .int i0], h) Q = (iOk sc h k2 i3 ∧ Tr sc d 258 (609, [l0, l1, l2, l3], [.int (iRd sc h k2 i3), .ref k1, .int i0], h) Q) := t_iald k_258_608
theorem k_258_609 : lk 258 609 = some (.aload_n 0, 610, 0, 0, .null) := by decide +kernel
theorem x_258_609 : Tr sc d 258 (609, [some (.ref xk), l1, l2, l3], [.int i2, .ref k1, .int i0], h) Q = Tr sc d 258 (610, [some (.ref xk), l1, l2, l3], [.ref xk, .int i2, .ref k1, .int i0], h) Q := t_aload_n k_258_609 rfl
theorem k_258_610 : lk 258 610 = some (.iload_n 3, 611, 3, 0, .null) := by decide +kernel
theorem x_258_610 : Tr sc d 258 (610, [l0, l1, l2, some (.int x)], [.ref k3, .int i2, .ref k1, .int i0], h) Q = Tr sc d 258 (611, [l0, l1, l2, some (.int x)], [.int x, .ref k3, .int i2, .ref k1, .int i0], h) Q := t_iload_n k_258_610 rfl
theorem k_258_611 : lk 258 611 = some (.iconst 2, 612, 0, 0, .int 2) := by decide +kernel
theorem x_258_611 : Tr sc d 258 (611, [l0, l1, l2, l3], [.int i4, .ref k3, .int i2, .ref k1, .int i0], h) Q = Tr sc d 258 (612, [l0, l1, l2, l3], [.int 2, .int i4, .ref k3, .int i2, .ref k1, .int i0], h) Q := t_go k_258_611 rfl
theorem k_258_612 : lk 258 612 = some (.iadd, 613, 0, 0, .null) := by decide +kernel
theorem x_258_612 : Tr sc d 258 (612, [l0, l1, l2, l3], [.int i5, .int i4, .ref k3, .int i2, .ref k1, .int i0], h) Q = Tr sc d 258 (613, [l0, l1, l2, l3], [.int (i4 + i5), .ref k3, .int i2, .ref k1, .int i0], h) Q := t_go k_258_612 rfl
theorem k_258_613 : lk 258 613 = some (.iaload, 614, 0, 0, .null) := by decide +kernel
theorem x_258_613 : Tr sc d 258 (613, [l0, l1, l2, l3], [.int i4, .ref k3, .int i2, .ref k1, .int i0], h) Q = (iOk sc h k3 i4 ∧ Tr sc d 258 (614, [l0, l1, l2, l3], [.int (iRd sc h k3 i4), .int i2, .ref k1, .int i0], h) Q) := t_iald k_258_613
theorem k_258_614 : lk 258 614 = some (.aload_n 0, 615, 0, 0, .null) := by decide +kernel
theorem x_258_614 : Tr sc d 258 (614, [some (.ref xk), l1, l2, l3], [.int i3, .int i2, .ref k1, .int i0], h) Q = Tr sc d 258 (615, [some (.ref xk), l1, l2, l3], [.ref xk, .int i3, .int i2, .ref k1, .int i0], h) Q := t_aload_n k_258_614 rfl
theorem k_258_615 : lk 258 615 = some (.iload_n 3, 616, 3, 0, .null) := by decide +kernel
theorem x_258_615 : Tr sc d 258 (615, [l0, l1, l2, some (.int x)], [.ref k4, .int i3, .int i2, .ref k1, .int i0], h) Q = Tr sc d 258 (616, [l0, l1, l2, some (.int x)], [.int x, .ref k4, .int i3, .int i2, .ref k1, .int i0], h) Q := t_iload_n k_258_615 rfl
theorem k_258_616 : lk 258 616 = some (.iconst 3, 617, 0, 0, .int 3) := by decide +kernel
theorem x_258_616 : Tr sc d 258 (616, [l0, l1, l2, l3], [.int i5, .ref k4, .int i3, .int i2, .ref k1, .int i0], h) Q = Tr sc d 258 (617, [l0, l1, l2, l3], [.int 3, .int i5, .ref k4, .int i3, .int i2, .ref k1, .int i0], h) Q := t_go k_258_616 rfl
theorem k_258_617 : lk 258 617 = some (.iadd, 618, 0, 0, .null) := by decide +kernel
theorem x_258_617 : Tr sc d 258 (617, [l0, l1, l2, l3], [.int i6, .int i5, .ref k4, .int i3, .int i2, .ref k1, .int i0], h) Q = Tr sc d 258 (618, [l0, l1, l2, l3], [.int (i5 + i6), .ref k4, .int i3, .int i2, .ref k1, .int i0], h) Q := t_go k_258_617 rfl
theorem k_258_618 : lk 258 618 = some (.iaload, 619, 0, 0, .null) := by decide +kernel
theorem x_258_618 : Tr sc d 258 (618, [l0, l1, l2, l3], [.int i5, .ref k4, .int i3, .int i2, .ref k1, .int i0], h) Q = (iOk sc h k4 i5 ∧ Tr sc d 258 (619, [l0, l1, l2, l3], [.int (iRd sc h k4 i5), .int i3, .int i2, .ref k1, .int i0], h) Q) := t_iald k_258_618
theorem k_258_619 : lk 258 619 = some (.invokevirtual 60, 622, 188, 3, .null) := by decide +kernel
theorem x_258_619 : Tr sc (d + 1) 258 (619, [l0, l1, l2, l3], [.int i4, .int i3, .int i2, .ref k1, .int i0], h) Q = (okp h k1 10 = true ∧ Tr sc d 188 (ent0 188 [.ref k1, .int i2, .int i3, .int i4] h) (fun z => Tr sc (d + 1) 258 (622, [l0, l1, l2, l3], z.1.toList ++ [.int i0], z.2) Q)) := t_cv (as := [.int i2, .int i3, .int i4]) (r := [.int i0]) k_258_619 rfl rfl (Nat.le_of_ble_eq_true rfl) (Nat.le_of_ble_eq_true rfl) (Nat.le_of_ble_eq_true rfl)
theorem k_258_622 : lk 258 622 = some (.if_icmp .eq 1126, 625, 1748, 0, .null) := by decide +kernel
theorem x_258_622 : Tr sc d 258 (622, [l0, l1, l2, l3], [.int i1, .int i0], h) Q = if i0 = i1 then Tr sc d 258 (1748, [l0, l1, l2, l3], [], h) Q else Tr sc d 258 (625, [l0, l1, l2, l3], [], h) Q := t_if k_258_622 rfl
theorem k_258_625 : lk 258 625 = some (.iconst 0, 626, 0, 0, .int 0) := by decide +kernel
theorem x_258_625 : Tr sc d 258 (625, [l0, l1, l2, l3], [], h) Q = Tr sc d 258 (626, [l0, l1, l2, l3], [.int 0], h) Q := t_go k_258_625 rfl
theorem k_258_626 : lk 258 626 = some (.ireturn, 627, 0, 0, .null) := by decide +kernel
theorem x_258_626 : Tr sc d 258 (626, [l0, l1, l2, l3], [.int i0], h) Q = (vp_nar .boolean i0 = i0 ∧ Q (some (.int i0), h)) := t_zret k_258_626 r_258
theorem k_258_627 : lk 258 627 = some (.aload_n 1, 628, 1, 0, .null) := by decide +kernel
theorem x_258_627 : Tr sc d 258 (627, [l0, some (.ref xk), l2, l3], [], h) Q = Tr sc d 258 (628, [l0, some (.ref xk), l2, l3], [.ref xk], h) Q := t_aload_n k_258_627 rfl
theorem k_258_628 : lk 258 628 = some (.aload_n 0, 629, 0, 0, .null) := by decide +kernel
theorem x_258_628 : Tr sc d 258 (628, [some (.ref xk), l1, l2, l3], [.ref k0], h) Q = Tr sc d 258 (629, [some (.ref xk), l1, l2, l3], [.ref xk, .ref k0], h) Q := t_aload_n k_258_628 rfl
theorem k_258_629 : lk 258 629 = some (.iload_n 3, 630, 3, 0, .null) := by decide +kernel
theorem x_258_629 : Tr sc d 258 (629, [l0, l1, l2, some (.int x)], [.ref k1, .ref k0], h) Q = Tr sc d 258 (630, [l0, l1, l2, some (.int x)], [.int x, .ref k1, .ref k0], h) Q := t_iload_n k_258_629 rfl
theorem k_258_630 : lk 258 630 = some (.iconst 1, 631, 0, 0, .int 1) := by decide +kernel
theorem x_258_630 : Tr sc d 258 (630, [l0, l1, l2, l3], [.int i2, .ref k1, .ref k0], h) Q = Tr sc d 258 (631, [l0, l1, l2, l3], [.int 1, .int i2, .ref k1, .ref k0], h) Q := t_go k_258_630 rfl
theorem k_258_631 : lk 258 631 = some (.iadd, 632, 0, 0, .null) := by decide +kernel
theorem x_258_631 : Tr sc d 258 (631, [l0, l1, l2, l3], [.int i3, .int i2, .ref k1, .ref k0], h) Q = Tr sc d 258 (632, [l0, l1, l2, l3], [.int (i2 + i3), .ref k1, .ref k0], h) Q := t_go k_258_631 rfl
theorem k_258_632 : lk 258 632 = some (.iaload, 633, 0, 0, .null) := by decide +kernel
theorem x_258_632 : Tr sc d 258 (632, [l0, l1, l2, l3], [.int i2, .ref k1, .ref k0], h) Q = (iOk sc h k1 i2 ∧ Tr sc d 258 (633, [l0, l1, l2, l3], [.int (iRd sc h k1 i2), .ref k0], h) Q) := t_iald k_258_632
theorem k_258_633 : lk 258 633 = some (.aload_n 0, 634, 0, 0, .null) := by decide +kernel
theorem x_258_633 : Tr sc d 258 (633, [some (.ref xk), l1, l2, l3], [.int i1, .ref k0], h) Q = Tr sc d 258 (634, [some (.ref xk), l1, l2, l3], [.ref xk, .int i1, .ref k0], h) Q := t_aload_n k_258_633 rfl
theorem k_258_634 : lk 258 634 = some (.iload_n 3, 635, 3, 0, .null) := by decide +kernel
theorem x_258_634 : Tr sc d 258 (634, [l0, l1, l2, some (.int x)], [.ref k2, .int i1, .ref k0], h) Q = Tr sc d 258 (635, [l0, l1, l2, some (.int x)], [.int x, .ref k2, .int i1, .ref k0], h) Q := t_iload_n k_258_634 rfl
theorem k_258_635 : lk 258 635 = some (.iconst 2, 636, 0, 0, .int 2) := by decide +kernel
theorem x_258_635 : Tr sc d 258 (635, [l0, l1, l2, l3], [.int i3, .ref k2, .int i1, .ref k0], h) Q = Tr sc d 258 (636, [l0, l1, l2, l3], [.int 2, .int i3, .ref k2, .int i1, .ref k0], h) Q := t_go k_258_635 rfl
theorem k_258_636 : lk 258 636 = some (.iadd, 637, 0, 0, .null) := by decide +kernel
theorem x_258_636 : Tr sc d 258 (636, [l0, l1, l2, l3], [.int i4, .int i3, .ref k2, .int i1, .ref k0], h) Q = Tr sc d 258 (637, [l0, l1, l2, l3], [.int (i3 + i4), .ref k2, .int i1, .ref k0], h) Q := t_go k_258_636 rfl
theorem k_258_637 : lk 258 637 = some (.iaload, 638, 0, 0, .null) := by decide +kernel
theorem x_258_637 : Tr sc d 258 (637, [l0, l1, l2, l3], [.int i3, .ref k2, .int i1, .ref k0], h) Q = (iOk sc h k2 i3 ∧ Tr sc d 258 (638, [l0, l1, l2, l3], [.int (iRd sc h k2 i3), .int i1, .ref k0], h) Q) := t_iald k_258_637
theorem k_258_638 : lk 258 638 = some (.invokevirtual 61, 641, 107, 2, .null) := by decide +kernel
theorem x_258_638 : Tr sc (d + 1) 258 (638, [l0, l1, l2, l3], [.int i2, .int i1, .ref k0], h) Q = (okp h k0 9 = true ∧ Tr sc d 107 (ent0 107 [.ref k0, .int i1, .int i2] h) (fun z => Tr sc (d + 1) 258 (641, [l0, l1, l2, l3], z.1.toList ++ [], z.2) Q)) := t_cv (as := [.int i1, .int i2]) (r := []) k_258_638 rfl rfl (Nat.le_of_ble_eq_true rfl) (Nat.le_of_ble_eq_true rfl) (Nat.le_of_ble_eq_true rfl)
theorem k_258_641 : lk 258 641 = some (.aload_n 2, 642, 2, 0, .null) := by decide +kernel
theorem x_258_641 : Tr sc d 258 (641, [l0, l1, some (.ref xk), l3], [.int i0], h) Q = Tr sc d 258 (642, [l0, l1, some (.ref xk), l3], [.ref xk, .int i0], h) Q := t_aload_n k_258_641 rfl
theorem k_258_642 : lk 258 642 = some (.aload_n 0, 643, 0, 0, .null) := by decide +kernel
theorem x_258_642 : Tr sc d 258 (642, [some (.ref xk), l1, l2, l3], [.ref k1, .int i0], h) Q = Tr sc d 258 (643, [some (.ref xk), l1, l2, l3], [.ref xk, .ref k1, .int i0], h) Q := t_aload_n k_258_642 rfl
theorem k_258_643 : lk 258 643 = some (.iload_n 3, 644, 3, 0, .null) := by decide +kernel
theorem x_258_643 : Tr sc d 258 (643, [l0, l1, l2, some (.int x)], [.ref k2, .ref k1, .int i0], h) Q = Tr sc d 258 (644, [l0, l1, l2, some (.int x)], [.int x, .ref k2, .ref k1, .int i0], h) Q := t_iload_n k_258_643 rfl
theorem k_258_644 : lk 258 644 = some (.iconst 1, 645, 0, 0, .int 1) := by decide +kernel
theorem x_258_644 : Tr sc d 258 (644, [l0, l1, l2, l3], [.int i3, .ref k2, .ref k1, .int i0], h) Q = Tr sc d 258 (645, [l0, l1, l2, l3], [.int 1, .int i3, .ref k2, .ref k1, .int i0], h) Q := t_go k_258_644 rfl
theorem k_258_645 : lk 258 645 = some (.iadd, 646, 0, 0, .null) := by decide +kernel
theorem x_258_645 : Tr sc d 258 (645, [l0, l1, l2, l3], [.int i4, .int i3, .ref k2, .ref k1, .int i0], h) Q = Tr sc d 258 (646, [l0, l1, l2, l3], [.int (i3 + i4), .ref k2, .ref k1, .int i0], h) Q := t_go k_258_645 rfl
theorem k_258_646 : lk 258 646 = some (.iaload, 647, 0, 0, .null) := by decide +kernel
theorem x_258_646 : Tr sc d 258 (646, [l0, l1, l2, l3], [.int i3, .ref k2, .ref k1, .int i0], h) Q = (iOk sc h k2 i3 ∧ Tr sc d 258 (647, [l0, l1, l2, l3], [.int (iRd sc h k2 i3), .ref k1, .int i0], h) Q) := t_iald k_258_646
theorem k_258_647 : lk 258 647 = some (.aload_n 0, 648, 0, 0, .null) := by decide +kernel
theorem x_258_647 : Tr sc d 258 (647, [some (.ref xk), l1, l2, l3], [.int i2, .ref k1, .int i0], h) Q = Tr sc d 258 (648, [some (.ref xk), l1, l2, l3], [.ref xk, .int i2, .ref k1, .int i0], h) Q := t_aload_n k_258_647 rfl
theorem k_258_648 : lk 258 648 = some (.iload_n 3, 649, 3, 0, .null) := by decide +kernel
theorem x_258_648 : Tr sc d 258 (648, [l0, l1, l2, some (.int x)], [.ref k3, .int i2, .ref k1, .int i0], h) Q = Tr sc d 258 (649, [l0, l1, l2, some (.int x)], [.int x, .ref k3, .int i2, .ref k1, .int i0], h) Q := t_iload_n k_258_648 rfl
theorem k_258_649 : lk 258 649 = some (.iconst 2, 650, 0, 0, .int 2) := by decide +kernel
theorem x_258_649 : Tr sc d 258 (649, [l0, l1, l2, l3], [.int i4, .ref k3, .int i2, .ref k1, .int i0], h) Q = Tr sc d 258 (650, [l0, l1, l2, l3], [.int 2, .int i4, .ref k3, .int i2, .ref k1, .int i0], h) Q := t_go k_258_649 rfl
theorem k_258_650 : lk 258 650 = some (.iadd, 651, 0, 0, .null) := by decide +kernel
theorem x_258_650 : Tr sc d 258 (650, [l0, l1, l2, l3], [.int i5, .int i4, .ref k3, .int i2, .ref k1, .int i0], h) Q = Tr sc d 258 (651, [l0, l1, l2, l3], [.int (i4 + i5), .ref k3, .int i2, .ref k1, .int i0], h) Q := t_go k_258_650 rfl
theorem k_258_651 : lk 258 651 = some (.iaload, 652, 0, 0, .null) := by decide +kernel
theorem x_258_651 : Tr sc d 258 (651, [l0, l1, l2, l3], [.int i4, .ref k3, .int i2, .ref k1, .int i0], h) Q = (iOk sc h k3 i4 ∧ Tr sc d 258 (652, [l0, l1, l2, l3], [.int (iRd sc h k3 i4), .int i2, .ref k1, .int i0], h) Q) := t_iald k_258_651
theorem k_258_652 : lk 258 652 = some (.invokevirtual 64, 655, 189, 2, .null) := by decide +kernel
theorem x_258_652 : Tr sc (d + 1) 258 (652, [l0, l1, l2, l3], [.int i3, .int i2, .ref k1, .int i0], h) Q = (okp h k1 10 = true ∧ Tr sc d 189 (ent0 189 [.ref k1, .int i2, .int i3] h) (fun z => Tr sc (d + 1) 258 (655, [l0, l1, l2, l3], z.1.toList ++ [.int i0], z.2) Q)) := t_cv (as := [.int i2, .int i3]) (r := [.int i0]) k_258_652 rfl rfl (Nat.le_of_ble_eq_true rfl) (Nat.le_of_ble_eq_true rfl) (Nat.le_of_ble_eq_true rfl)
theorem k_258_655 : lk 258 655 = some (.if_icmp .eq 1093, 658, 1748, 0, .null) := by decide +kernel
theorem x_258_655 : Tr sc d 258 (655, [l0, l1, l2, l3], [.int i1, .int i0], h) Q = if i0 = i1 then Tr sc d 258 (1748, [l0, l1, l2, l3], [], h) Q else Tr sc d 258 (658, [l0, l1, l2, l3], [], h) Q := t_if k_258_655 rfl
theorem k_258_658 : lk 258 658 = some (.iconst 0, 659, 0, 0, .int 0) := by decide +kernel
theorem x_258_658 : Tr sc d 258 (658, [l0, l1, l2, l3], [], h) Q = Tr sc d 258 (659, [l0, l1, l2, l3], [.int 0], h) Q := t_go k_258_658 rfl
theorem k_258_659 : lk 258 659 = some (.ireturn, 660, 0, 0, .null) := by decide +kernel
theorem x_258_659 : Tr sc d 258 (659, [l0, l1, l2, l3], [.int i0], h) Q = (vp_nar .boolean i0 = i0 ∧ Q (some (.int i0), h)) := t_zret k_258_659 r_258
theorem k_258_660 : lk 258 660 = some (.aload_n 1, 661, 1, 0, .null) := by decide +kernel
theorem x_258_660 : Tr sc d 258 (660, [l0, some (.ref xk), l2, l3], [], h) Q = Tr sc d 258 (661, [l0, some (.ref xk), l2, l3], [.ref xk], h) Q := t_aload_n k_258_660 rfl
theorem k_258_661 : lk 258 661 = some (.aload_n 0, 662, 0, 0, .null) := by decide +kernel
theorem x_258_661 : Tr sc d 258 (661, [some (.ref xk), l1, l2, l3], [.ref k0], h) Q = Tr sc d 258 (662, [some (.ref xk), l1, l2, l3], [.ref xk, .ref k0], h) Q := t_aload_n k_258_661 rfl
theorem k_258_662 : lk 258 662 = some (.iload_n 3, 663, 3, 0, .null) := by decide +kernel
theorem x_258_662 : Tr sc d 258 (662, [l0, l1, l2, some (.int x)], [.ref k1, .ref k0], h) Q = Tr sc d 258 (663, [l0, l1, l2, some (.int x)], [.int x, .ref k1, .ref k0], h) Q := t_iload_n k_258_662 rfl
theorem k_258_663 : lk 258 663 = some (.iconst 1, 664, 0, 0, .int 1) := by decide +kernel
theorem x_258_663 : Tr sc d 258 (663, [l0, l1, l2, l3], [.int i2, .ref k1, .ref k0], h) Q = Tr sc d 258 (664, [l0, l1, l2, l3], [.int 1, .int i2, .ref k1, .ref k0], h) Q := t_go k_258_663 rfl
theorem k_258_664 : lk 258 664 = some (.iadd, 665, 0, 0, .null) := by decide +kernel
theorem x_258_664 : Tr sc d 258 (664, [l0, l1, l2, l3], [.int i3, .int i2, .ref k1, .ref k0], h) Q = Tr sc d 258 (665, [l0, l1, l2, l3], [.int (i2 + i3), .ref k1, .ref k0], h) Q := t_go k_258_664 rfl
theorem k_258_665 : lk 258 665 = some (.iaload, 666, 0, 0, .null) := by decide +kernel
theorem x_258_665 : Tr sc d 258 (665, [l0, l1, l2, l3], [.int i2, .ref k1, .ref k0], h) Q = (iOk sc h k1 i2 ∧ Tr sc d 258 (666, [l0, l1, l2, l3], [.int (iRd sc h k1 i2), .ref k0], h) Q) := t_iald k_258_665
theorem k_258_666 : lk 258 666 = some (.invokevirtual 65, 669, 108, 1, .null) := by decide +kernel
theorem x_258_666 : Tr sc (d + 1) 258 (666, [l0, l1, l2, l3], [.int i1, .ref k0], h) Q = (okp h k0 9 = true ∧ Tr sc d 108 (ent0 108 [.ref k0, .int i1] h) (fun z => Tr sc (d + 1) 258 (669, [l0, l1, l2, l3], z.1.toList ++ [], z.2) Q)) := t_cv (as := [.int i1]) (r := []) k_258_666 rfl rfl (Nat.le_of_ble_eq_true rfl) (Nat.le_of_ble_eq_true rfl) (Nat.le_of_ble_eq_true rfl)
theorem k_258_669 : lk 258 669 = some (.aload_n 2, 670, 2, 0, .null) := by decide +kernel
theorem x_258_669 : Tr sc d 258 (669, [l0, l1, some (.ref xk), l3], [.int i0], h) Q = Tr sc d 258 (670, [l0, l1, some (.ref xk), l3], [.ref xk, .int i0], h) Q := t_aload_n k_258_669 rfl
theorem k_258_670 : lk 258 670 = some (.aload_n 0, 671, 0, 0, .null) := by decide +kernel
theorem x_258_670 : Tr sc d 258 (670, [some (.ref xk), l1, l2, l3], [.ref k1, .int i0], h) Q = Tr sc d 258 (671, [some (.ref xk), l1, l2, l3], [.ref xk, .ref k1, .int i0], h) Q := t_aload_n k_258_670 rfl
theorem k_258_671 : lk 258 671 = some (.iload_n 3, 672, 3, 0, .null) := by decide +kernel
theorem x_258_671 : Tr sc d 258 (671, [l0, l1, l2, some (.int x)], [.ref k2, .ref k1, .int i0], h) Q = Tr sc d 258 (672, [l0, l1, l2, some (.int x)], [.int x, .ref k2, .ref k1, .int i0], h) Q := t_iload_n k_258_671 rfl
theorem k_258_672 : lk 258 672 = some (.iconst 1, 673, 0, 0, .int 1) := by decide +kernel
theorem x_258_672 : Tr sc d 258 (672, [l0, l1, l2, l3], [.int i3, .ref k2, .ref k1, .int i0], h) Q = Tr sc d 258 (673, [l0, l1, l2, l3], [.int 1, .int i3, .ref k2, .ref k1, .int i0], h) Q := t_go k_258_672 rfl
theorem k_258_673 : lk 258 673 = some (.iadd, 674, 0, 0, .null) := by decide +kernel
theorem x_258_673 : Tr sc d 258 (673, [l0, l1, l2, l3], [.int i4, .int i3, .ref k2, .ref k1, .int i0], h) Q = Tr sc d 258 (674, [l0, l1, l2, l3], [.int (i3 + i4), .ref k2, .ref k1, .int i0], h) Q := t_go k_258_673 rfl
theorem k_258_674 : lk 258 674 = some (.iaload, 675, 0, 0, .null) := by decide +kernel
theorem x_258_674 : Tr sc d 258 (674, [l0, l1, l2, l3], [.int i3, .ref k2, .ref k1, .int i0], h) Q = (iOk sc h k2 i3 ∧ Tr sc d 258 (675, [l0, l1, l2, l3], [.int (iRd sc h k2 i3), .ref k1, .int i0], h) Q) := t_iald k_258_674
theorem k_258_675 : lk 258 675 = some (.invokevirtual 68, 678, 190, 1, .null) := by decide +kernel
theorem x_258_675 : Tr sc (d + 1) 258 (675, [l0, l1, l2, l3], [.int i2, .ref k1, .int i0], h) Q = (okp h k1 10 = true ∧ Tr sc d 190 (ent0 190 [.ref k1, .int i2] h) (fun z => Tr sc (d + 1) 258 (678, [l0, l1, l2, l3], z.1.toList ++ [.int i0], z.2) Q)) := t_cv (as := [.int i2]) (r := [.int i0]) k_258_675 rfl rfl (Nat.le_of_ble_eq_true rfl) (Nat.le_of_ble_eq_true rfl) (Nat.le_of_ble_eq_true rfl)
theorem k_258_678 : lk 258 678 = some (.if_icmp .eq 1070, 681, 1748, 0, .null) := by decide +kernel
theorem x_258_678 : Tr sc d 258 (678, [l0, l1, l2, l3], [.int i1, .int i0], h) Q = if i0 = i1 then Tr sc d 258 (1748, [l0, l1, l2, l3], [], h) Q else Tr sc d 258 (681, [l0, l1, l2, l3], [], h) Q := t_if k_258_678 rfl
theorem k_258_681 : lk 258 681 = some (.iconst 0, 682, 0, 0, .int 0) := by decide +kernel
theorem x_258_681 : Tr sc d 258 (681, [l0, l1, l2, l3], [], h) Q = Tr sc d 258 (682, [l0, l1, l2, l3], [.int 0], h) Q := t_go k_258_681 rfl
theorem k_258_682 : lk 258 682 = some (.ireturn, 683, 0, 0, .null) := by decide +kernel
theorem x_258_682 : Tr sc d 258 (682, [l0, l1, l2, l3], [.int i0], h) Q = (vp_nar .boolean i0 = i0 ∧ Q (some (.int i0), h)) := t_zret k_258_682 r_258
theorem k_258_683 : lk 258 683 = some (.aload_n 1, 684, 1, 0, .null) := by decide +kernel
theorem x_258_683 : Tr sc d 258 (683, [l0, some (.ref xk), l2, l3], [], h) Q = Tr sc d 258 (684, [l0, some (.ref xk), l2, l3], [.ref xk], h) Q := t_aload_n k_258_683 rfl
theorem k_258_684 : lk 258 684 = some (.aload_n 0, 685, 0, 0, .null) := by decide +kernel
theorem x_258_684 : Tr sc d 258 (684, [some (.ref xk), l1, l2, l3], [.ref k0], h) Q = Tr sc d 258 (685, [some (.ref xk), l1, l2, l3], [.ref xk, .ref k0], h) Q := t_aload_n k_258_684 rfl
theorem k_258_685 : lk 258 685 = some (.iload_n 3, 686, 3, 0, .null) := by decide +kernel
theorem x_258_685 : Tr sc d 258 (685, [l0, l1, l2, some (.int x)], [.ref k1, .ref k0], h) Q = Tr sc d 258 (686, [l0, l1, l2, some (.int x)], [.int x, .ref k1, .ref k0], h) Q := t_iload_n k_258_685 rfl
theorem k_258_686 : lk 258 686 = some (.iconst 1, 687, 0, 0, .int 1) := by decide +kernel
theorem x_258_686 : Tr sc d 258 (686, [l0, l1, l2, l3], [.int i2, .ref k1, .ref k0], h) Q = Tr sc d 258 (687, [l0, l1, l2, l3], [.int 1, .int i2, .ref k1, .ref k0], h) Q := t_go k_258_686 rfl
theorem k_258_687 : lk 258 687 = some (.iadd, 688, 0, 0, .null) := by decide +kernel
theorem x_258_687 : Tr sc d 258 (687, [l0, l1, l2, l3], [.int i3, .int i2, .ref k1, .ref k0], h) Q = Tr sc d 258 (688, [l0, l1, l2, l3], [.int (i2 + i3), .ref k1, .ref k0], h) Q := t_go k_258_687 rfl
theorem k_258_688 : lk 258 688 = some (.iaload, 689, 0, 0, .null) := by decide +kernel
theorem x_258_688 : Tr sc d 258 (688, [l0, l1, l2, l3], [.int i2, .ref k1, .ref k0], h) Q = (iOk sc h k1 i2 ∧ Tr sc d 258 (689, [l0, l1, l2, l3], [.int (iRd sc h k1 i2), .ref k0], h) Q) := t_iald k_258_688
theorem k_258_689 : lk 258 689 = some (.aload_n 0, 690, 0, 0, .null) := by decide +kernel
theorem x_258_689 : Tr sc d 258 (689, [some (.ref xk), l1, l2, l3], [.int i1, .ref k0], h) Q = Tr sc d 258 (690, [some (.ref xk), l1, l2, l3], [.ref xk, .int i1, .ref k0], h) Q := t_aload_n k_258_689 rfl
theorem k_258_690 : lk 258 690 = some (.iload_n 3, 691, 3, 0, .null) := by decide +kernel
theorem x_258_690 : Tr sc d 258 (690, [l0, l1, l2, some (.int x)], [.ref k2, .int i1, .ref k0], h) Q = Tr sc d 258 (691, [l0, l1, l2, some (.int x)], [.int x, .ref k2, .int i1, .ref k0], h) Q := t_iload_n k_258_690 rfl
theorem k_258_691 : lk 258 691 = some (.iconst 2, 692, 0, 0, .int 2) := by decide +kernel
theorem x_258_691 : Tr sc d 258 (691, [l0, l1, l2, l3], [.int i3, .ref k2, .int i1, .ref k0], h) Q = Tr sc d 258 (692, [l0, l1, l2, l3], [.int 2, .int i3, .ref k2, .int i1, .ref k0], h) Q := t_go k_258_691 rfl
theorem k_258_692 : lk 258 692 = some (.iadd, 693, 0, 0, .null) := by decide +kernel
theorem x_258_692 : Tr sc d 258 (692, [l0, l1, l2, l3], [.int i4, .int i3, .ref k2, .int i1, .ref k0], h) Q = Tr sc d 258 (693, [l0, l1, l2, l3], [.int (i3 + i4), .ref k2, .int i1, .ref k0], h) Q := t_go k_258_692 rfl
theorem k_258_693 : lk 258 693 = some (.iaload, 694, 0, 0, .null) := by decide +kernel
theorem x_258_693 : Tr sc d 258 (693, [l0, l1, l2, l3], [.int i3, .ref k2, .int i1, .ref k0], h) Q = (iOk sc h k2 i3 ∧ Tr sc d 258 (694, [l0, l1, l2, l3], [.int (iRd sc h k2 i3), .int i1, .ref k0], h) Q) := t_iald k_258_693
theorem k_258_694 : lk 258 694 = some (.invokevirtual 69, 697, 109, 2, .null) := by decide +kernel
theorem x_258_694 : Tr sc (d + 1) 258 (694, [l0, l1, l2, l3], [.int i2, .int i1, .ref k0], h) Q = (okp h k0 9 = true ∧ Tr sc d 109 (ent0 109 [.ref k0, .int i1, .int i2] h) (fun z => Tr sc (d + 1) 258 (697, [l0, l1, l2, l3], z.1.toList ++ [], z.2) Q)) := t_cv (as := [.int i1, .int i2]) (r := []) k_258_694 rfl rfl (Nat.le_of_ble_eq_true rfl) (Nat.le_of_ble_eq_true rfl) (Nat.le_of_ble_eq_true rfl)
theorem k_258_697 : lk 258 697 = some (.aload_n 2, 698, 2, 0, .null) := by decide +kernel
theorem x_258_697 : Tr sc d 258 (697, [l0, l1, some (.ref xk), l3], [.int i0], h) Q = Tr sc d 258 (698, [l0, l1, some (.ref xk), l3], [.ref xk, .int i0], h) Q := t_aload_n k_258_697 rfl
theorem k_258_698 : lk 258 698 = some (.aload_n 0, 699, 0, 0, .null) := by decide +kernel
theorem x_258_698 : Tr sc d 258 (698, [some (.ref xk), l1, l2, l3], [.ref k1, .int i0], h) Q = Tr sc d 258 (699, [some (.ref xk), l1, l2, l3], [.ref xk, .ref k1, .int i0], h) Q := t_aload_n k_258_698 rfl
theorem k_258_699 : lk 258 699 = some (.iload_n 3, 700, 3, 0, .null) := by decide +kernel
theorem x_258_699 : Tr sc d 258 (699, [l0, l1, l2, some (.int x)], [.ref k2, .ref k1, .int i0], h) Q = Tr sc d 258 (700, [l0, l1, l2, some (.int x)], [.int x, .ref k2, .ref k1, .int i0], h) Q := t_iload_n k_258_699 rfl
theorem k_258_700 : lk 258 700 = some (.iconst 1, 701, 0, 0, .int 1) := by decide +kernel
theorem x_258_700 : Tr sc d 258 (700, [l0, l1, l2, l3], [.int i3, .ref k2, .ref k1, .int i0], h) Q = Tr sc d 258 (701, [l0, l1, l2, l3], [.int 1, .int i3, .ref k2, .ref k1, .int i0], h) Q := t_go k_258_700 rfl
theorem k_258_701 : lk 258 701 = some (.iadd, 702, 0, 0, .null) := by decide +kernel
theorem x_258_701 : Tr sc d 258 (701, [l0, l1, l2, l3], [.int i4, .int i3, .ref k2, .ref k1, .int i0], h) Q = Tr sc d 258 (702, [l0, l1, l2, l3], [.int (i3 + i4), .ref k2, .ref k1, .int i0], h) Q := t_go k_258_701 rfl
theorem k_258_702 : lk 258 702 = some (.iaload, 703, 0, 0, .null) := by decide +kernel
theorem x_258_702 : Tr sc d 258 (702, [l0, l1, l2, l3], [.int i3, .ref k2, .ref k1, .int i0], h) Q = (iOk sc h k2 i3 ∧ Tr sc d 258 (703, [l0, l1, l2, l3], [.int (iRd sc h k2 i3), .ref k1, .int i0], h) Q) := t_iald k_258_702
theorem k_258_703 : lk 258 703 = some (.aload_n 0, 704, 0, 0, .null) := by decide +kernel
theorem x_258_703 : Tr sc d 258 (703, [some (.ref xk), l1, l2, l3], [.int i2, .ref k1, .int i0], h) Q = Tr sc d 258 (704, [some (.ref xk), l1, l2, l3], [.ref xk, .int i2, .ref k1, .int i0], h) Q := t_aload_n k_258_703 rfl
theorem k_258_704 : lk 258 704 = some (.iload_n 3, 705, 3, 0, .null) := by decide +kernel
theorem x_258_704 : Tr sc d 258 (704, [l0, l1, l2, some (.int x)], [.ref k3, .int i2, .ref k1, .int i0], h) Q = Tr sc d 258 (705, [l0, l1, l2, some (.int x)], [.int x, .ref k3, .int i2, .ref k1, .int i0], h) Q := t_iload_n k_258_704 rfl
theorem k_258_705 : lk 258 705 = some (.iconst 2, 706, 0, 0, .int 2) := by decide +kernel
theorem x_258_705 : Tr sc d 258 (705, [l0, l1, l2, l3], [.int i4, .ref k3, .int i2, .ref k1, .int i0], h) Q = Tr sc d 258 (706, [l0, l1, l2, l3], [.int 2, .int i4, .ref k3, .int i2, .ref k1, .int i0], h) Q := t_go k_258_705 rfl
theorem k_258_706 : lk 258 706 = some (.iadd, 707, 0, 0, .null) := by decide +kernel
theorem x_258_706 : Tr sc d 258 (706, [l0, l1, l2, l3], [.int i5, .int i4, .ref k3, .int i2, .ref k1, .int i0], h) Q = Tr sc d 258 (707, [l0, l1, l2, l3], [.int (i4 + i5), .ref k3, .int i2, .ref k1, .int i0], h) Q := t_go k_258_706 rfl
theorem k_258_707 : lk 258 707 = some (.iaload, 708, 0, 0, .null) := by decide +kernel
theorem x_258_707 : Tr sc d 258 (707, [l0, l1, l2, l3], [.int i4, .ref k3, .int i2, .ref k1, .int i0], h) Q = (iOk sc h k3 i4 ∧ Tr sc d 258 (708, [l0, l1, l2, l3], [.int (iRd sc h k3 i4), .int i2, .ref k1, .int i0], h) Q) := t_iald k_258_707
theorem k_258_708 : lk 258 708 = some (.invokevirtual 72, 711, 191, 2, .null) := by decide +kernel
theorem x_258_708 : Tr sc (d + 1) 258 (708, [l0, l1, l2, l3], [.int i3, .int i2, .ref k1, .int i0], h) Q = (okp h k1 10 = true ∧ Tr sc d 191 (ent0 191 [.ref k1, .int i2, .int i3] h) (fun z => Tr sc (d + 1) 258 (711, [l0, l1, l2, l3], z.1.toList ++ [.int i0], z.2) Q)) := t_cv (as := [.int i2, .int i3]) (r := [.int i0]) k_258_708 rfl rfl (Nat.le_of_ble_eq_true rfl) (Nat.le_of_ble_eq_true rfl) (Nat.le_of_ble_eq_true rfl)
theorem k_258_711 : lk 258 711 = some (.if_icmp .eq 1037, 714, 1748, 0, .null) := by decide +kernel
theorem x_258_711 : Tr sc d 258 (711, [l0, l1, l2, l3], [.int i1, .int i0], h) Q = if i0 = i1 then Tr sc d 258 (1748, [l0, l1, l2, l3], [], h) Q else Tr sc d 258 (714, [l0, l1, l2, l3], [], h) Q := t_if k_258_711 rfl
theorem k_258_714 : lk 258 714 = some (.iconst 0, 715, 0, 0, .int 0) := by decide +kernel
theorem x_258_714 : Tr sc d 258 (714, [l0, l1, l2, l3], [], h) Q = Tr sc d 258 (715, [l0, l1, l2, l3], [.int 0], h) Q := t_go k_258_714 rfl
theorem k_258_715 : lk 258 715 = some (.ireturn, 716, 0, 0, .null) := by decide +kernel
theorem x_258_715 : Tr sc d 258 (715, [l0, l1, l2, l3], [.int i0], h) Q = (vp_nar .boolean i0 = i0 ∧ Q (some (.int i0), h)) := t_zret k_258_715 r_258
theorem k_258_716 : lk 258 716 = some (.aload_n 1, 717, 1, 0, .null) := by decide +kernel
theorem x_258_716 : Tr sc d 258 (716, [l0, some (.ref xk), l2, l3], [], h) Q = Tr sc d 258 (717, [l0, some (.ref xk), l2, l3], [.ref xk], h) Q := t_aload_n k_258_716 rfl
theorem k_258_717 : lk 258 717 = some (.aload_n 0, 718, 0, 0, .null) := by decide +kernel
theorem x_258_717 : Tr sc d 258 (717, [some (.ref xk), l1, l2, l3], [.ref k0], h) Q = Tr sc d 258 (718, [some (.ref xk), l1, l2, l3], [.ref xk, .ref k0], h) Q := t_aload_n k_258_717 rfl
theorem k_258_718 : lk 258 718 = some (.iload_n 3, 719, 3, 0, .null) := by decide +kernel
theorem x_258_718 : Tr sc d 258 (718, [l0, l1, l2, some (.int x)], [.ref k1, .ref k0], h) Q = Tr sc d 258 (719, [l0, l1, l2, some (.int x)], [.int x, .ref k1, .ref k0], h) Q := t_iload_n k_258_718 rfl
theorem k_258_719 : lk 258 719 = some (.iconst 1, 720, 0, 0, .int 1) := by decide +kernel
theorem x_258_719 : Tr sc d 258 (719, [l0, l1, l2, l3], [.int i2, .ref k1, .ref k0], h) Q = Tr sc d 258 (720, [l0, l1, l2, l3], [.int 1, .int i2, .ref k1, .ref k0], h) Q := t_go k_258_719 rfl
theorem k_258_720 : lk 258 720 = some (.iadd, 721, 0, 0, .null) := by decide +kernel
theorem x_258_720 : Tr sc d 258 (720, [l0, l1, l2, l3], [.int i3, .int i2, .ref k1, .ref k0], h) Q = Tr sc d 258 (721, [l0, l1, l2, l3], [.int (i2 + i3), .ref k1, .ref k0], h) Q := t_go k_258_720 rfl
theorem k_258_721 : lk 258 721 = some (.iaload, 722, 0, 0, .null) := by decide +kernel
theorem x_258_721 : Tr sc d 258 (721, [l0, l1, l2, l3], [.int i2, .ref k1, .ref k0], h) Q = (iOk sc h k1 i2 ∧ Tr sc d 258 (722, [l0, l1, l2, l3], [.int (iRd sc h k1 i2), .ref k0], h) Q) := t_iald k_258_721
theorem k_258_722 : lk 258 722 = some (.aload_n 0, 723, 0, 0, .null) := by decide +kernel
theorem x_258_722 : Tr sc d 258 (722, [some (.ref xk), l1, l2, l3], [.int i1, .ref k0], h) Q = Tr sc d 258 (723, [some (.ref xk), l1, l2, l3], [.ref xk, .int i1, .ref k0], h) Q := t_aload_n k_258_722 rfl
theorem k_258_723 : lk 258 723 = some (.iload_n 3, 724, 3, 0, .null) := by decide +kernel
theorem x_258_723 : Tr sc d 258 (723, [l0, l1, l2, some (.int x)], [.ref k2, .int i1, .ref k0], h) Q = Tr sc d 258 (724, [l0, l1, l2, some (.int x)], [.int x, .ref k2, .int i1, .ref k0], h) Q := t_iload_n k_258_723 rfl
theorem k_258_724 : lk 258 724 = some (.iconst 2, 725, 0, 0, .int 2) := by decide +kernel
theorem x_258_724 : Tr sc d 258 (724, [l0, l1, l2, l3], [.int i3, .ref k2, .int i1, .ref k0], h) Q = Tr sc d 258 (725, [l0, l1, l2, l3], [.int 2, .int i3, .ref k2, .int i1, .ref k0], h) Q := t_go k_258_724 rfl
theorem k_258_725 : lk 258 725 = some (.iadd, 726, 0, 0, .null) := by decide +kernel
theorem x_258_725 : Tr sc d 258 (725, [l0, l1, l2, l3], [.int i4, .int i3, .ref k2, .int i1, .ref k0], h) Q = Tr sc d 258 (726, [l0, l1, l2, l3], [.int (i3 + i4), .ref k2, .int i1, .ref k0], h) Q := t_go k_258_725 rfl
theorem k_258_726 : lk 258 726 = some (.iaload, 727, 0, 0, .null) := by decide +kernel
theorem x_258_726 : Tr sc d 258 (726, [l0, l1, l2, l3], [.int i3, .ref k2, .int i1, .ref k0], h) Q = (iOk sc h k2 i3 ∧ Tr sc d 258 (727, [l0, l1, l2, l3], [.int (iRd sc h k2 i3), .int i1, .ref k0], h) Q) := t_iald k_258_726
theorem k_258_727 : lk 258 727 = some (.aload_n 0, 728, 0, 0, .null) := by decide +kernel
theorem x_258_727 : Tr sc d 258 (727, [some (.ref xk), l1, l2, l3], [.int i2, .int i1, .ref k0], h) Q = Tr sc d 258 (728, [some (.ref xk), l1, l2, l3], [.ref xk, .int i2, .int i1, .ref k0], h) Q := t_aload_n k_258_727 rfl
theorem k_258_728 : lk 258 728 = some (.iload_n 3, 729, 3, 0, .null) := by decide +kernel
theorem x_258_728 : Tr sc d 258 (728, [l0, l1, l2, some (.int x)], [.ref k3, .int i2, .int i1, .ref k0], h) Q = Tr sc d 258 (729, [l0, l1, l2, some (.int x)], [.int x, .ref k3, .int i2, .int i1, .ref k0], h) Q := t_iload_n k_258_728 rfl
theorem k_258_729 : lk 258 729 = some (.iconst 3, 730, 0, 0, .int 3) := by decide +kernel
theorem x_258_729 : Tr sc d 258 (729, [l0, l1, l2, l3], [.int i4, .ref k3, .int i2, .int i1, .ref k0], h) Q = Tr sc d 258 (730, [l0, l1, l2, l3], [.int 3, .int i4, .ref k3, .int i2, .int i1, .ref k0], h) Q := t_go k_258_729 rfl
theorem k_258_730 : lk 258 730 = some (.iadd, 731, 0, 0, .null) := by decide +kernel
theorem x_258_730 : Tr sc d 258 (730, [l0, l1, l2, l3], [.int i5, .int i4, .ref k3, .int i2, .int i1, .ref k0], h) Q = Tr sc d 258 (731, [l0, l1, l2, l3], [.int (i4 + i5), .ref k3, .int i2, .int i1, .ref k0], h) Q := t_go k_258_730 rfl
theorem k_258_731 : lk 258 731 = some (.iaload, 732, 0, 0, .null) := by decide +kernel
theorem x_258_731 : Tr sc d 258 (731, [l0, l1, l2, l3], [.int i4, .ref k3, .int i2, .int i1, .ref k0], h) Q = (iOk sc h k3 i4 ∧ Tr sc d 258 (732, [l0, l1, l2, l3], [.int (iRd sc h k3 i4), .int i2, .int i1, .ref k0], h) Q) := t_iald k_258_731
theorem k_258_732 : lk 258 732 = some (.invokevirtual 73, 735, 110, 3, .null) := by decide +kernel
theorem x_258_732 : Tr sc (d + 1) 258 (732, [l0, l1, l2, l3], [.int i3, .int i2, .int i1, .ref k0], h) Q = (okp h k0 9 = true ∧ Tr sc d 110 (ent0 110 [.ref k0, .int i1, .int i2, .int i3] h) (fun z => Tr sc (d + 1) 258 (735, [l0, l1, l2, l3], z.1.toList ++ [], z.2) Q)) := t_cv (as := [.int i1, .int i2, .int i3]) (r := []) k_258_732 rfl rfl (Nat.le_of_ble_eq_true rfl) (Nat.le_of_ble_eq_true rfl) (Nat.le_of_ble_eq_true rfl)
theorem k_258_735 : lk 258 735 = some (.aload_n 2, 736, 2, 0, .null) := by decide +kernel
theorem x_258_735 : Tr sc d 258 (735, [l0, l1, some (.ref xk), l3], [.int i0], h) Q = Tr sc d 258 (736, [l0, l1, some (.ref xk), l3], [.ref xk, .int i0], h) Q := t_aload_n k_258_735 rfl
theorem k_258_736 : lk 258 736 = some (.aload_n 0, 737, 0, 0, .null) := by decide +kernel
theorem x_258_736 : Tr sc d 258 (736, [some (.ref xk), l1, l2, l3], [.ref k1, .int i0], h) Q = Tr sc d 258 (737, [some (.ref xk), l1, l2, l3], [.ref xk, .ref k1, .int i0], h) Q := t_aload_n k_258_736 rfl
theorem k_258_737 : lk 258 737 = some (.iload_n 3, 738, 3, 0, .null) := by decide +kernel
theorem x_258_737 : Tr sc d 258 (737, [l0, l1, l2, some (.int x)], [.ref k2, .ref k1, .int i0], h) Q = Tr sc d 258 (738, [l0, l1, l2, some (.int x)], [.int x, .ref k2, .ref k1, .int i0], h) Q := t_iload_n k_258_737 rfl
theorem k_258_738 : lk 258 738 = some (.iconst 1, 739, 0, 0, .int 1) := by decide +kernel
theorem x_258_738 : Tr sc d 258 (738, [l0, l1, l2, l3], [.int i3, .ref k2, .ref k1, .int i0], h) Q = Tr sc d 258 (739, [l0, l1, l2, l3], [.int 1, .int i3, .ref k2, .ref k1, .int i0], h) Q := t_go k_258_738 rfl
theorem k_258_739 : lk 258 739 = some (.iadd, 740, 0, 0, .null) := by decide +kernel
theorem x_258_739 : Tr sc d 258 (739, [l0, l1, l2, l3], [.int i4, .int i3, .ref k2, .ref k1, .int i0], h) Q = Tr sc d 258 (740, [l0, l1, l2, l3], [.int (i3 + i4), .ref k2, .ref k1, .int i0], h) Q := t_go k_258_739 rfl
theorem k_258_740 : lk 258 740 = some (.iaload, 741, 0, 0, .null) := by decide +kernel
theorem x_258_740 : Tr sc d 258 (740, [l0, l1, l2, l3], [.int i3, .ref k2, .ref k1, .int i0], h) Q = (iOk sc h k2 i3 ∧ Tr sc d 258 (741, [l0, l1, l2, l3], [.int (iRd sc h k2 i3), .ref k1, .int i0], h) Q) := t_iald k_258_740
theorem k_258_741 : lk 258 741 = some (.aload_n 0, 742, 0, 0, .null) := by decide +kernel
theorem x_258_741 : Tr sc d 258 (741, [some (.ref xk), l1, l2, l3], [.int i2, .ref k1, .int i0], h) Q = Tr sc d 258 (742, [some (.ref xk), l1, l2, l3], [.ref xk, .int i2, .ref k1, .int i0], h) Q := t_aload_n k_258_741 rfl
theorem k_258_742 : lk 258 742 = some (.iload_n 3, 743, 3, 0, .null) := by decide +kernel
theorem x_258_742 : Tr sc d 258 (742, [l0, l1, l2, some (.int x)], [.ref k3, .int i2, .ref k1, .int i0], h) Q = Tr sc d 258 (743, [l0, l1, l2, some (.int x)], [.int x, .ref k3, .int i2, .ref k1, .int i0], h) Q := t_iload_n k_258_742 rfl
theorem k_258_743 : lk 258 743 = some (.iconst 2, 744, 0, 0, .int 2) := by decide +kernel
theorem x_258_743 : Tr sc d 258 (743, [l0, l1, l2, l3], [.int i4, .ref k3, .int i2, .ref k1, .int i0], h) Q = Tr sc d 258 (744, [l0, l1, l2, l3], [.int 2, .int i4, .ref k3, .int i2, .ref k1, .int i0], h) Q := t_go k_258_743 rfl
theorem k_258_744 : lk 258 744 = some (.iadd, 745, 0, 0, .null) := by decide +kernel
theorem x_258_744 : Tr sc d 258 (744, [l0, l1, l2, l3], [.int i5, .int i4, .ref k3, .int i2, .ref k1, .int i0], h) Q = Tr sc d 258 (745, [l0, l1, l2, l3], [.int (i4 + i5), .ref k3, .int i2, .ref k1, .int i0], h) Q := t_go k_258_744 rfl
theorem k_258_745 : lk 258 745 = some (.iaload, 746, 0, 0, .null) := by decide +kernel
theorem x_258_745 : Tr sc d 258 (745, [l0, l1, l2, l3], [.int i4, .ref k3, .int i2, .ref k1, .int i0], h) Q = (iOk sc h k3 i4 ∧ Tr sc d 258 (746, [l0, l1, l2, l3], [.int (iRd sc h k3 i4), .int i2, .ref k1, .int i0], h) Q) := t_iald k_258_745
theorem k_258_746 : lk 258 746 = some (.aload_n 0, 747, 0, 0, .null) := by decide +kernel
theorem x_258_746 : Tr sc d 258 (746, [some (.ref xk), l1, l2, l3], [.int i3, .int i2, .ref k1, .int i0], h) Q = Tr sc d 258 (747, [some (.ref xk), l1, l2, l3], [.ref xk, .int i3, .int i2, .ref k1, .int i0], h) Q := t_aload_n k_258_746 rfl
theorem k_258_747 : lk 258 747 = some (.iload_n 3, 748, 3, 0, .null) := by decide +kernel
theorem x_258_747 : Tr sc d 258 (747, [l0, l1, l2, some (.int x)], [.ref k4, .int i3, .int i2, .ref k1, .int i0], h) Q = Tr sc d 258 (748, [l0, l1, l2, some (.int x)], [.int x, .ref k4, .int i3, .int i2, .ref k1, .int i0], h) Q := t_iload_n k_258_747 rfl
theorem k_258_748 : lk 258 748 = some (.iconst 3, 749, 0, 0, .int 3) := by decide +kernel
theorem x_258_748 : Tr sc d 258 (748, [l0, l1, l2, l3], [.int i5, .ref k4, .int i3, .int i2, .ref k1, .int i0], h) Q = Tr sc d 258 (749, [l0, l1, l2, l3], [.int 3, .int i5, .ref k4, .int i3, .int i2, .ref k1, .int i0], h) Q := t_go k_258_748 rfl
theorem k_258_749 : lk 258 749 = some (.iadd, 750, 0, 0, .null) := by decide +kernel
theorem x_258_749 : Tr sc d 258 (749, [l0, l1, l2, l3], [.int i6, .int i5, .ref k4, .int i3, .int i2, .ref k1, .int i0], h) Q = Tr sc d 258 (750, [l0, l1, l2, l3], [.int (i5 + i6), .ref k4, .int i3, .int i2, .ref k1, .int i0], h) Q := t_go k_258_749 rfl
theorem k_258_750 : lk 258 750 = some (.iaload, 751, 0, 0, .null) := by decide +kernel
theorem x_258_750 : Tr sc d 258 (750, [l0, l1, l2, l3], [.int i5, .ref k4, .int i3, .int i2, .ref k1, .int i0], h) Q = (iOk sc h k4 i5 ∧ Tr sc d 258 (751, [l0, l1, l2, l3], [.int (iRd sc h k4 i5), .int i3, .int i2, .ref k1, .int i0], h) Q) := t_iald k_258_750
theorem k_258_751 : lk 258 751 = some (.invokevirtual 76, 754, 192, 3, .null) := by decide +kernel
theorem x_258_751 : Tr sc (d + 1) 258 (751, [l0, l1, l2, l3], [.int i4, .int i3, .int i2, .ref k1, .int i0], h) Q = (okp h k1 10 = true ∧ Tr sc d 192 (ent0 192 [.ref k1, .int i2, .int i3, .int i4] h) (fun z => Tr sc (d + 1) 258 (754, [l0, l1, l2, l3], z.1.toList ++ [.int i0], z.2) Q)) := t_cv (as := [.int i2, .int i3, .int i4]) (r := [.int i0]) k_258_751 rfl rfl (Nat.le_of_ble_eq_true rfl) (Nat.le_of_ble_eq_true rfl) (Nat.le_of_ble_eq_true rfl)
theorem k_258_754 : lk 258 754 = some (.if_icmp .eq 994, 757, 1748, 0, .null) := by decide +kernel
theorem x_258_754 : Tr sc d 258 (754, [l0, l1, l2, l3], [.int i1, .int i0], h) Q = if i0 = i1 then Tr sc d 258 (1748, [l0, l1, l2, l3], [], h) Q else Tr sc d 258 (757, [l0, l1, l2, l3], [], h) Q := t_if k_258_754 rfl
theorem k_258_757 : lk 258 757 = some (.iconst 0, 758, 0, 0, .int 0) := by decide +kernel
theorem x_258_757 : Tr sc d 258 (757, [l0, l1, l2, l3], [], h) Q = Tr sc d 258 (758, [l0, l1, l2, l3], [.int 0], h) Q := t_go k_258_757 rfl
theorem k_258_758 : lk 258 758 = some (.ireturn, 759, 0, 0, .null) := by decide +kernel
theorem x_258_758 : Tr sc d 258 (758, [l0, l1, l2, l3], [.int i0], h) Q = (vp_nar .boolean i0 = i0 ∧ Q (some (.int i0), h)) := t_zret k_258_758 r_258
theorem k_258_759 : lk 258 759 = some (.aload_n 1, 760, 1, 0, .null) := by decide +kernel
theorem x_258_759 : Tr sc d 258 (759, [l0, some (.ref xk), l2, l3], [], h) Q = Tr sc d 258 (760, [l0, some (.ref xk), l2, l3], [.ref xk], h) Q := t_aload_n k_258_759 rfl
theorem k_258_760 : lk 258 760 = some (.aload_n 0, 761, 0, 0, .null) := by decide +kernel
theorem x_258_760 : Tr sc d 258 (760, [some (.ref xk), l1, l2, l3], [.ref k0], h) Q = Tr sc d 258 (761, [some (.ref xk), l1, l2, l3], [.ref xk, .ref k0], h) Q := t_aload_n k_258_760 rfl
theorem k_258_761 : lk 258 761 = some (.iload_n 3, 762, 3, 0, .null) := by decide +kernel
theorem x_258_761 : Tr sc d 258 (761, [l0, l1, l2, some (.int x)], [.ref k1, .ref k0], h) Q = Tr sc d 258 (762, [l0, l1, l2, some (.int x)], [.int x, .ref k1, .ref k0], h) Q := t_iload_n k_258_761 rfl
theorem k_258_762 : lk 258 762 = some (.iconst 1, 763, 0, 0, .int 1) := by decide +kernel
theorem x_258_762 : Tr sc d 258 (762, [l0, l1, l2, l3], [.int i2, .ref k1, .ref k0], h) Q = Tr sc d 258 (763, [l0, l1, l2, l3], [.int 1, .int i2, .ref k1, .ref k0], h) Q := t_go k_258_762 rfl
theorem k_258_763 : lk 258 763 = some (.iadd, 764, 0, 0, .null) := by decide +kernel
theorem x_258_763 : Tr sc d 258 (763, [l0, l1, l2, l3], [.int i3, .int i2, .ref k1, .ref k0], h) Q = Tr sc d 258 (764, [l0, l1, l2, l3], [.int (i2 + i3), .ref k1, .ref k0], h) Q := t_go k_258_763 rfl
theorem k_258_764 : lk 258 764 = some (.iaload, 765, 0, 0, .null) := by decide +kernel
theorem x_258_764 : Tr sc d 258 (764, [l0, l1, l2, l3], [.int i2, .ref k1, .ref k0], h) Q = (iOk sc h k1 i2 ∧ Tr sc d 258 (765, [l0, l1, l2, l3], [.int (iRd sc h k1 i2), .ref k0], h) Q) := t_iald k_258_764
theorem k_258_765 : lk 258 765 = some (.aload_n 0, 766, 0, 0, .null) := by decide +kernel
theorem x_258_765 : Tr sc d 258 (765, [some (.ref xk), l1, l2, l3], [.int i1, .ref k0], h) Q = Tr sc d 258 (766, [some (.ref xk), l1, l2, l3], [.ref xk, .int i1, .ref k0], h) Q := t_aload_n k_258_765 rfl
theorem k_258_766 : lk 258 766 = some (.iload_n 3, 767, 3, 0, .null) := by decide +kernel
theorem x_258_766 : Tr sc d 258 (766, [l0, l1, l2, some (.int x)], [.ref k2, .int i1, .ref k0], h) Q = Tr sc d 258 (767, [l0, l1, l2, some (.int x)], [.int x, .ref k2, .int i1, .ref k0], h) Q := t_iload_n k_258_766 rfl
theorem k_258_767 : lk 258 767 = some (.iconst 2, 768, 0, 0, .int 2) := by decide +kernel
theorem x_258_767 : Tr sc d 258 (767, [l0, l1, l2, l3], [.int i3, .ref k2, .int i1, .ref k0], h) Q = Tr sc d 258 (768, [l0, l1, l2, l3], [.int 2, .int i3, .ref k2, .int i1, .ref k0], h) Q := t_go k_258_767 rfl
theorem k_258_768 : lk 258 768 = some (.iadd, 769, 0, 0, .null) := by decide +kernel
theorem x_258_768 : Tr sc d 258 (768, [l0, l1, l2, l3], [.int i4, .int i3, .ref k2, .int i1, .ref k0], h) Q = Tr sc d 258 (769, [l0, l1, l2, l3], [.int (i3 + i4), .ref k2, .int i1, .ref k0], h) Q := t_go k_258_768 rfl
theorem k_258_769 : lk 258 769 = some (.iaload, 770, 0, 0, .null) := by decide +kernel
theorem x_258_769 : Tr sc d 258 (769, [l0, l1, l2, l3], [.int i3, .ref k2, .int i1, .ref k0], h) Q = (iOk sc h k2 i3 ∧ Tr sc d 258 (770, [l0, l1, l2, l3], [.int (iRd sc h k2 i3), .int i1, .ref k0], h) Q) := t_iald k_258_769
theorem k_258_770 : lk 258 770 = some (.invokevirtual 77, 773, 111, 2, .null) := by decide +kernel
theorem x_258_770 : Tr sc (d + 1) 258 (770, [l0, l1, l2, l3], [.int i2, .int i1, .ref k0], h) Q = (okp h k0 9 = true ∧ Tr sc d 111 (ent0 111 [.ref k0, .int i1, .int i2] h) (fun z => Tr sc (d + 1) 258 (773, [l0, l1, l2, l3], z.1.toList ++ [], z.2) Q)) := t_cv (as := [.int i1, .int i2]) (r := []) k_258_770 rfl rfl (Nat.le_of_ble_eq_true rfl) (Nat.le_of_ble_eq_true rfl) (Nat.le_of_ble_eq_true rfl)
theorem k_258_773 : lk 258 773 = some (.aload_n 2, 774, 2, 0, .null) := by decide +kernel
theorem x_258_773 : Tr sc d 258 (773, [l0, l1, some (.ref xk), l3], [.int i0], h) Q = Tr sc d 258 (774, [l0, l1, some (.ref xk), l3], [.ref xk, .int i0], h) Q := t_aload_n k_258_773 rfl
theorem k_258_774 : lk 258 774 = some (.aload_n 0, 775, 0, 0, .null) := by decide +kernel
theorem x_258_774 : Tr sc d 258 (774, [some (.ref xk), l1, l2, l3], [.ref k1, .int i0], h) Q = Tr sc d 258 (775, [some (.ref xk), l1, l2, l3], [.ref xk, .ref k1, .int i0], h) Q := t_aload_n k_258_774 rfl
theorem k_258_775 : lk 258 775 = some (.iload_n 3, 776, 3, 0, .null) := by decide +kernel
theorem x_258_775 : Tr sc d 258 (775, [l0, l1, l2, some (.int x)], [.ref k2, .ref k1, .int i0], h) Q = Tr sc d 258 (776, [l0, l1, l2, some (.int x)], [.int x, .ref k2, .ref k1, .int i0], h) Q := t_iload_n k_258_775 rfl
theorem k_258_776 : lk 258 776 = some (.iconst 1, 777, 0, 0, .int 1) := by decide +kernel
theorem x_258_776 : Tr sc d 258 (776, [l0, l1, l2, l3], [.int i3, .ref k2, .ref k1, .int i0], h) Q = Tr sc d 258 (777, [l0, l1, l2, l3], [.int 1, .int i3, .ref k2, .ref k1, .int i0], h) Q := t_go k_258_776 rfl
theorem k_258_777 : lk 258 777 = some (.iadd, 778, 0, 0, .null) := by decide +kernel
theorem x_258_777 : Tr sc d 258 (777, [l0, l1, l2, l3], [.int i4, .int i3, .ref k2, .ref k1, .int i0], h) Q = Tr sc d 258 (778, [l0, l1, l2, l3], [.int (i3 + i4), .ref k2, .ref k1, .int i0], h) Q := t_go k_258_777 rfl
theorem k_258_778 : lk 258 778 = some (.iaload, 779, 0, 0, .null) := by decide +kernel
theorem x_258_778 : Tr sc d 258 (778, [l0, l1, l2, l3], [.int i3, .ref k2, .ref k1, .int i0], h) Q = (iOk sc h k2 i3 ∧ Tr sc d 258 (779, [l0, l1, l2, l3], [.int (iRd sc h k2 i3), .ref k1, .int i0], h) Q) := t_iald k_258_778
theorem k_258_779 : lk 258 779 = some (.aload_n 0, 780, 0, 0, .null) := by decide +kernel
theorem x_258_779 : Tr sc d 258 (779, [some (.ref xk), l1, l2, l3], [.int i2, .ref k1, .int i0], h) Q = Tr sc d 258 (780, [some (.ref xk), l1, l2, l3], [.ref xk, .int i2, .ref k1, .int i0], h) Q := t_aload_n k_258_779 rfl
theorem k_258_780 : lk 258 780 = some (.iload_n 3, 781, 3, 0, .null) := by decide +kernel
theorem x_258_780 : Tr sc d 258 (780, [l0, l1, l2, some (.int x)], [.ref k3, .int i2, .ref k1, .int i0], h) Q = Tr sc d 258 (781, [l0, l1, l2, some (.int x)], [.int x, .ref k3, .int i2, .ref k1, .int i0], h) Q := t_iload_n k_258_780 rfl
theorem k_258_781 : lk 258 781 = some (.iconst 2, 782, 0, 0, .int 2) := by decide +kernel
theorem x_258_781 : Tr sc d 258 (781, [l0, l1, l2, l3], [.int i4, .ref k3, .int i2, .ref k1, .int i0], h) Q = Tr sc d 258 (782, [l0, l1, l2, l3], [.int 2, .int i4, .ref k3, .int i2, .ref k1, .int i0], h) Q := t_go k_258_781 rfl
theorem k_258_782 : lk 258 782 = some (.iadd, 783, 0, 0, .null) := by decide +kernel
theorem x_258_782 : Tr sc d 258 (782, [l0, l1, l2, l3], [.int i5, .int i4, .ref k3, .int i2, .ref k1, .int i0], h) Q = Tr sc d 258 (783, [l0, l1, l2, l3], [.int (i4 + i5), .ref k3, .int i2, .ref k1, .int i0], h) Q := t_go k_258_782 rfl
theorem k_258_783 : lk 258 783 = some (.iaload, 784, 0, 0, .null) := by decide +kernel
theorem x_258_783 : Tr sc d 258 (783, [l0, l1, l2, l3], [.int i4, .ref k3, .int i2, .ref k1, .int i0], h) Q = (iOk sc h k3 i4 ∧ Tr sc d 258 (784, [l0, l1, l2, l3], [.int (iRd sc h k3 i4), .int i2, .ref k1, .int i0], h) Q) := t_iald k_258_783
theorem k_258_784 : lk 258 784 = some (.invokevirtual 80, 787, 194, 2, .null) := by decide +kernel
theorem x_258_784 : Tr sc (d + 1) 258 (784, [l0, l1, l2, l3], [.int i3, .int i2, .ref k1, .int i0], h) Q = (okp h k1 10 = true ∧ Tr sc d 194 (ent0 194 [.ref k1, .int i2, .int i3] h) (fun z => Tr sc (d + 1) 258 (787, [l0, l1, l2, l3], z.1.toList ++ [.int i0], z.2) Q)) := t_cv (as := [.int i2, .int i3]) (r := [.int i0]) k_258_784 rfl rfl (Nat.le_of_ble_eq_true rfl) (Nat.le_of_ble_eq_true rfl) (Nat.le_of_ble_eq_true rfl)
theorem k_258_787 : lk 258 787 = some (.if_icmp .eq 961, 790, 1748, 0, .null) := by decide +kernel
theorem x_258_787 : Tr sc d 258 (787, [l0, l1, l2, l3], [.int i1, .int i0], h) Q = if i0 = i1 then Tr sc d 258 (1748, [l0, l1, l2, l3], [], h) Q else Tr sc d 258 (790, [l0, l1, l2, l3], [], h) Q := t_if k_258_787 rfl
theorem k_258_790 : lk 258 790 = some (.iconst 0, 791, 0, 0, .int 0) := by decide +kernel
theorem x_258_790 : Tr sc d 258 (790, [l0, l1, l2, l3], [], h) Q = Tr sc d 258 (791, [l0, l1, l2, l3], [.int 0], h) Q := t_go k_258_790 rfl
theorem k_258_791 : lk 258 791 = some (.ireturn, 792, 0, 0, .null) := by decide +kernel
theorem x_258_791 : Tr sc d 258 (791, [l0, l1, l2, l3], [.int i0], h) Q = (vp_nar .boolean i0 = i0 ∧ Q (some (.int i0), h)) := t_zret k_258_791 r_258
theorem k_258_792 : lk 258 792 = some (.aload_n 1, 793, 1, 0, .null) := by decide +kernel
theorem x_258_792 : Tr sc d 258 (792, [l0, some (.ref xk), l2, l3], [], h) Q = Tr sc d 258 (793, [l0, some (.ref xk), l2, l3], [.ref xk], h) Q := t_aload_n k_258_792 rfl
theorem k_258_793 : lk 258 793 = some (.aload_n 0, 794, 0, 0, .null) := by decide +kernel
theorem x_258_793 : Tr sc d 258 (793, [some (.ref xk), l1, l2, l3], [.ref k0], h) Q = Tr sc d 258 (794, [some (.ref xk), l1, l2, l3], [.ref xk, .ref k0], h) Q := t_aload_n k_258_793 rfl
theorem k_258_794 : lk 258 794 = some (.iload_n 3, 795, 3, 0, .null) := by decide +kernel
theorem x_258_794 : Tr sc d 258 (794, [l0, l1, l2, some (.int x)], [.ref k1, .ref k0], h) Q = Tr sc d 258 (795, [l0, l1, l2, some (.int x)], [.int x, .ref k1, .ref k0], h) Q := t_iload_n k_258_794 rfl
theorem k_258_795 : lk 258 795 = some (.iconst 1, 796, 0, 0, .int 1) := by decide +kernel
theorem x_258_795 : Tr sc d 258 (795, [l0, l1, l2, l3], [.int i2, .ref k1, .ref k0], h) Q = Tr sc d 258 (796, [l0, l1, l2, l3], [.int 1, .int i2, .ref k1, .ref k0], h) Q := t_go k_258_795 rfl
theorem k_258_796 : lk 258 796 = some (.iadd, 797, 0, 0, .null) := by decide +kernel
theorem x_258_796 : Tr sc d 258 (796, [l0, l1, l2, l3], [.int i3, .int i2, .ref k1, .ref k0], h) Q = Tr sc d 258 (797, [l0, l1, l2, l3], [.int (i2 + i3), .ref k1, .ref k0], h) Q := t_go k_258_796 rfl
theorem k_258_797 : lk 258 797 = some (.iaload, 798, 0, 0, .null) := by decide +kernel
theorem x_258_797 : Tr sc d 258 (797, [l0, l1, l2, l3], [.int i2, .ref k1, .ref k0], h) Q = (iOk sc h k1 i2 ∧ Tr sc d 258 (798, [l0, l1, l2, l3], [.int (iRd sc h k1 i2), .ref k0], h) Q) := t_iald k_258_797
theorem k_258_798 : lk 258 798 = some (.aload_n 0, 799, 0, 0, .null) := by decide +kernel
theorem x_258_798 : Tr sc d 258 (798, [some (.ref xk), l1, l2, l3], [.int i1, .ref k0], h) Q = Tr sc d 258 (799, [some (.ref xk), l1, l2, l3], [.ref xk, .int i1, .ref k0], h) Q := t_aload_n k_258_798 rfl
theorem k_258_799 : lk 258 799 = some (.iload_n 3, 800, 3, 0, .null) := by decide +kernel
theorem x_258_799 : Tr sc d 258 (799, [l0, l1, l2, some (.int x)], [.ref k2, .int i1, .ref k0], h) Q = Tr sc d 258 (800, [l0, l1, l2, some (.int x)], [.int x, .ref k2, .int i1, .ref k0], h) Q := t_iload_n k_258_799 rfl
theorem k_258_800 : lk 258 800 = some (.iconst 2, 801, 0, 0, .int 2) := by decide +kernel
theorem x_258_800 : Tr sc d 258 (800, [l0, l1, l2, l3], [.int i3, .ref k2, .int i1, .ref k0], h) Q = Tr sc d 258 (801, [l0, l1, l2, l3], [.int 2, .int i3, .ref k2, .int i1, .ref k0], h) Q := t_go k_258_800 rfl
theorem k_258_801 : lk 258 801 = some (.iadd, 802, 0, 0, .null) := by decide +kernel
theorem x_258_801 : Tr sc d 258 (801, [l0, l1, l2, l3], [.int i4, .int i3, .ref k2, .int i1, .ref k0], h) Q = Tr sc d 258 (802, [l0, l1, l2, l3], [.int (i3 + i4), .ref k2, .int i1, .ref k0], h) Q := t_go k_258_801 rfl
theorem k_258_802 : lk 258 802 = some (.iaload, 803, 0, 0, .null) := by decide +kernel
theorem x_258_802 : Tr sc d 258 (802, [l0, l1, l2, l3], [.int i3, .ref k2, .int i1, .ref k0], h) Q = (iOk sc h k2 i3 ∧ Tr sc d 258 (803, [l0, l1, l2, l3], [.int (iRd sc h k2 i3), .int i1, .ref k0], h) Q) := t_iald k_258_802
theorem k_258_803 : lk 258 803 = some (.aload_n 0, 804, 0, 0, .null) := by decide +kernel
theorem x_258_803 : Tr sc d 258 (803, [some (.ref xk), l1, l2, l3], [.int i2, .int i1, .ref k0], h) Q = Tr sc d 258 (804, [some (.ref xk), l1, l2, l3], [.ref xk, .int i2, .int i1, .ref k0], h) Q := t_aload_n k_258_803 rfl
theorem k_258_804 : lk 258 804 = some (.iload_n 3, 805, 3, 0, .null) := by decide +kernel
theorem x_258_804 : Tr sc d 258 (804, [l0, l1, l2, some (.int x)], [.ref k3, .int i2, .int i1, .ref k0], h) Q = Tr sc d 258 (805, [l0, l1, l2, some (.int x)], [.int x, .ref k3, .int i2, .int i1, .ref k0], h) Q := t_iload_n k_258_804 rfl
theorem k_258_805 : lk 258 805 = some (.iconst 3, 806, 0, 0, .int 3) := by decide +kernel
theorem x_258_805 : Tr sc d 258 (805, [l0, l1, l2, l3], [.int i4, .ref k3, .int i2, .int i1, .ref k0], h) Q = Tr sc d 258 (806, [l0, l1, l2, l3], [.int 3, .int i4, .ref k3, .int i2, .int i1, .ref k0], h) Q := t_go k_258_805 rfl
theorem k_258_806 : lk 258 806 = some (.iadd, 807, 0, 0, .null) := by decide +kernel
theorem x_258_806 : Tr sc d 258 (806, [l0, l1, l2, l3], [.int i5, .int i4, .ref k3, .int i2, .int i1, .ref k0], h) Q = Tr sc d 258 (807, [l0, l1, l2, l3], [.int (i4 + i5), .ref k3, .int i2, .int i1, .ref k0], h) Q := t_go k_258_806 rfl
theorem k_258_807 : lk 258 807 = some (.iaload, 808, 0, 0, .null) := by decide +kernel
theorem x_258_807 : Tr sc d 258 (807, [l0, l1, l2, l3], [.int i4, .ref k3, .int i2, .int i1, .ref k0], h) Q = (iOk sc h k3 i4 ∧ Tr sc d 258 (808, [l0, l1, l2, l3], [.int (iRd sc h k3 i4), .int i2, .int i1, .ref k0], h) Q) := t_iald k_258_807
theorem k_258_808 : lk 258 808 = some (.aload_n 0, 809, 0, 0, .null) := by decide +kernel
theorem x_258_808 : Tr sc d 258 (808, [some (.ref xk), l1, l2, l3], [.int i3, .int i2, .int i1, .ref k0], h) Q = Tr sc d 258 (809, [some (.ref xk), l1, l2, l3], [.ref xk, .int i3, .int i2, .int i1, .ref k0], h) Q := t_aload_n k_258_808 rfl
theorem k_258_809 : lk 258 809 = some (.iload_n 3, 810, 3, 0, .null) := by decide +kernel
theorem x_258_809 : Tr sc d 258 (809, [l0, l1, l2, some (.int x)], [.ref k4, .int i3, .int i2, .int i1, .ref k0], h) Q = Tr sc d 258 (810, [l0, l1, l2, some (.int x)], [.int x, .ref k4, .int i3, .int i2, .int i1, .ref k0], h) Q := t_iload_n k_258_809 rfl
theorem k_258_810 : lk 258 810 = some (.iconst 4, 811, 0, 0, .int 4) := by decide +kernel
theorem x_258_810 : Tr sc d 258 (810, [l0, l1, l2, l3], [.int i5, .ref k4, .int i3, .int i2, .int i1, .ref k0], h) Q = Tr sc d 258 (811, [l0, l1, l2, l3], [.int 4, .int i5, .ref k4, .int i3, .int i2, .int i1, .ref k0], h) Q := t_go k_258_810 rfl
theorem k_258_811 : lk 258 811 = some (.iadd, 812, 0, 0, .null) := by decide +kernel
theorem x_258_811 : Tr sc d 258 (811, [l0, l1, l2, l3], [.int i6, .int i5, .ref k4, .int i3, .int i2, .int i1, .ref k0], h) Q = Tr sc d 258 (812, [l0, l1, l2, l3], [.int (i5 + i6), .ref k4, .int i3, .int i2, .int i1, .ref k0], h) Q := t_go k_258_811 rfl
theorem k_258_812 : lk 258 812 = some (.iaload, 813, 0, 0, .null) := by decide +kernel
theorem x_258_812 : Tr sc d 258 (812, [l0, l1, l2, l3], [.int i5, .ref k4, .int i3, .int i2, .int i1, .ref k0], h) Q = (iOk sc h k4 i5 ∧ Tr sc d 258 (813, [l0, l1, l2, l3], [.int (iRd sc h k4 i5), .int i3, .int i2, .int i1, .ref k0], h) Q) := t_iald k_258_812
theorem k_258_813 : lk 258 813 = some (.ifCond .eq 7, 816, 820, 0, .null) := by decide +kernel
theorem x_258_813 : Tr sc d 258 (813, [l0, l1, l2, l3], [.int i4, .int i3, .int i2, .int i1, .ref k0], h) Q = if i4 = 0 then Tr sc d 258 (820, [l0, l1, l2, l3], [.int i3, .int i2, .int i1, .ref k0], h) Q else Tr sc d 258 (816, [l0, l1, l2, l3], [.int i3, .int i2, .int i1, .ref k0], h) Q := t_if k_258_813 rfl
theorem k_258_816 : lk 258 816 = some (.iconst 1, 817, 0, 0, .int 1) := by decide +kernel
theorem x_258_816 : Tr sc d 258 (816, [l0, l1, l2, l3], [.int i3, .int i2, .int i1, .ref k0], h) Q = Tr sc d 258 (817, [l0, l1, l2, l3], [.int 1, .int i3, .int i2, .int i1, .ref k0], h) Q := t_go k_258_816 rfl
theorem k_258_817 : lk 258 817 = some (.goto 4, 820, 821, 0, .null) := by decide +kernel
theorem x_258_817 : Tr sc d 258 (817, [l0, l1, l2, l3], [.int i4, .int i3, .int i2, .int i1, .ref k0], h) Q = Tr sc d 258 (821, [l0, l1, l2, l3], [.int i4, .int i3, .int i2, .int i1, .ref k0], h) Q := t_go k_258_817 rfl
theorem k_258_820 : lk 258 820 = some (.iconst 0, 821, 0, 0, .int 0) := by decide +kernel
theorem x_258_820 : Tr sc d 258 (820, [l0, l1, l2, l3], [.int i3, .int i2, .int i1, .ref k0], h) Q = Tr sc d 258 (821, [l0, l1, l2, l3], [.int 0, .int i3, .int i2, .int i1, .ref k0], h) Q := t_go k_258_820 rfl
theorem k_258_821 : lk 258 821 = some (.invokevirtual 81, 824, 112, 4, .null) := by decide +kernel
theorem x_258_821 : Tr sc (d + 1) 258 (821, [l0, l1, l2, l3], [.int i4, .int i3, .int i2, .int i1, .ref k0], h) Q = (okp h k0 9 = true ∧ Tr sc d 112 (ent0 112 [.ref k0, .int i1, .int i2, .int i3, .int i4] h) (fun z => Tr sc (d + 1) 258 (824, [l0, l1, l2, l3], z.1.toList ++ [], z.2) Q)) := t_cv (as := [.int i1, .int i2, .int i3, .int i4]) (r := []) k_258_821 rfl rfl (Nat.le_of_ble_eq_true rfl) (Nat.le_of_ble_eq_true rfl) (Nat.le_of_ble_eq_true rfl)
theorem k_258_824 : lk 258 824 = some (.aload_n 2, 825, 2, 0, .null) := by decide +kernel
theorem x_258_824 : Tr sc d 258 (824, [l0, l1, some (.ref xk), l3], [.int i0], h) Q = Tr sc d 258 (825, [l0, l1, some (.ref xk), l3], [.ref xk, .int i0], h) Q := t_aload_n k_258_824 rfl
theorem k_258_825 : lk 258 825 = some (.aload_n 0, 826, 0, 0, .null) := by decide +kernel
theorem x_258_825 : Tr sc d 258 (825, [some (.ref xk), l1, l2, l3], [.ref k1, .int i0], h) Q = Tr sc d 258 (826, [some (.ref xk), l1, l2, l3], [.ref xk, .ref k1, .int i0], h) Q := t_aload_n k_258_825 rfl
theorem k_258_826 : lk 258 826 = some (.iload_n 3, 827, 3, 0, .null) := by decide +kernel
theorem x_258_826 : Tr sc d 258 (826, [l0, l1, l2, some (.int x)], [.ref k2, .ref k1, .int i0], h) Q = Tr sc d 258 (827, [l0, l1, l2, some (.int x)], [.int x, .ref k2, .ref k1, .int i0], h) Q := t_iload_n k_258_826 rfl
theorem k_258_827 : lk 258 827 = some (.iconst 1, 828, 0, 0, .int 1) := by decide +kernel
theorem x_258_827 : Tr sc d 258 (827, [l0, l1, l2, l3], [.int i3, .ref k2, .ref k1, .int i0], h) Q = Tr sc d 258 (828, [l0, l1, l2, l3], [.int 1, .int i3, .ref k2, .ref k1, .int i0], h) Q := t_go k_258_827 rfl
theorem k_258_828 : lk 258 828 = some (.iadd, 829, 0, 0, .null) := by decide +kernel
theorem x_258_828 : Tr sc d 258 (828, [l0, l1, l2, l3], [.int i4, .int i3, .ref k2, .ref k1, .int i0], h) Q = Tr sc d 258 (829, [l0, l1, l2, l3], [.int (i3 + i4), .ref k2, .ref k1, .int i0], h) Q := t_go k_258_828 rfl
theorem k_258_829 : lk 258 829 = some (.iaload, 830, 0, 0, .null) := by decide +kernel
theorem x_258_829 : Tr sc d 258 (829, [l0, l1, l2, l3], [.int i3, .ref k2, .ref k1, .int i0], h) Q = (iOk sc h k2 i3 ∧ Tr sc d 258 (830, [l0, l1, l2, l3], [.int (iRd sc h k2 i3), .ref k1, .int i0], h) Q) := t_iald k_258_829
theorem k_258_830 : lk 258 830 = some (.aload_n 0, 831, 0, 0, .null) := by decide +kernel
theorem x_258_830 : Tr sc d 258 (830, [some (.ref xk), l1, l2, l3], [.int i2, .ref k1, .int i0], h) Q = Tr sc d 258 (831, [some (.ref xk), l1, l2, l3], [.ref xk, .int i2, .ref k1, .int i0], h) Q := t_aload_n k_258_830 rfl
theorem k_258_831 : lk 258 831 = some (.iload_n 3, 832, 3, 0, .null) := by decide +kernel
theorem x_258_831 : Tr sc d 258 (831, [l0, l1, l2, some (.int x)], [.ref k3, .int i2, .ref k1, .int i0], h) Q = Tr sc d 258 (832, [l0, l1, l2, some (.int x)], [.int x, .ref k3, .int i2, .ref k1, .int i0], h) Q := t_iload_n k_258_831 rfl
theorem k_258_832 : lk 258 832 = some (.iconst 2, 833, 0, 0, .int 2) := by decide +kernel
theorem x_258_832 : Tr sc d 258 (832, [l0, l1, l2, l3], [.int i4, .ref k3, .int i2, .ref k1, .int i0], h) Q = Tr sc d 258 (833, [l0, l1, l2, l3], [.int 2, .int i4, .ref k3, .int i2, .ref k1, .int i0], h) Q := t_go k_258_832 rfl
theorem k_258_833 : lk 258 833 = some (.iadd, 834, 0, 0, .null) := by decide +kernel
theorem x_258_833 : Tr sc d 258 (833, [l0, l1, l2, l3], [.int i5, .int i4, .ref k3, .int i2, .ref k1, .int i0], h) Q = Tr sc d 258 (834, [l0, l1, l2, l3], [.int (i4 + i5), .ref k3, .int i2, .ref k1, .int i0], h) Q := t_go k_258_833 rfl
theorem k_258_834 : lk 258 834 = some (.iaload, 835, 0, 0, .null) := by decide +kernel
theorem x_258_834 : Tr sc d 258 (834, [l0, l1, l2, l3], [.int i4, .ref k3, .int i2, .ref k1, .int i0], h) Q = (iOk sc h k3 i4 ∧ Tr sc d 258 (835, [l0, l1, l2, l3], [.int (iRd sc h k3 i4), .int i2, .ref k1, .int i0], h) Q) := t_iald k_258_834
theorem k_258_835 : lk 258 835 = some (.aload_n 0, 836, 0, 0, .null) := by decide +kernel
theorem x_258_835 : Tr sc d 258 (835, [some (.ref xk), l1, l2, l3], [.int i3, .int i2, .ref k1, .int i0], h) Q = Tr sc d 258 (836, [some (.ref xk), l1, l2, l3], [.ref xk, .int i3, .int i2, .ref k1, .int i0], h) Q := t_aload_n k_258_835 rfl
theorem k_258_836 : lk 258 836 = some (.iload_n 3, 837, 3, 0, .null) := by decide +kernel
theorem x_258_836 : Tr sc d 258 (836, [l0, l1, l2, some (.int x)], [.ref k4, .int i3, .int i2, .ref k1, .int i0], h) Q = Tr sc d 258 (837, [l0, l1, l2, some (.int x)], [.int x, .ref k4, .int i3, .int i2, .ref k1, .int i0], h) Q := t_iload_n k_258_836 rfl
theorem k_258_837 : lk 258 837 = some (.iconst 3, 838, 0, 0, .int 3) := by decide +kernel
theorem x_258_837 : Tr sc d 258 (837, [l0, l1, l2, l3], [.int i5, .ref k4, .int i3, .int i2, .ref k1, .int i0], h) Q = Tr sc d 258 (838, [l0, l1, l2, l3], [.int 3, .int i5, .ref k4, .int i3, .int i2, .ref k1, .int i0], h) Q := t_go k_258_837 rfl
theorem k_258_838 : lk 258 838 = some (.iadd, 839, 0, 0, .null) := by decide +kernel
theorem x_258_838 : Tr sc d 258 (838, [l0, l1, l2, l3], [.int i6, .int i5, .ref k4, .int i3, .int i2, .ref k1, .int i0], h) Q = Tr sc d 258 (839, [l0, l1, l2, l3], [.int (i5 + i6), .ref k4, .int i3, .int i2, .ref k1, .int i0], h) Q := t_go k_258_838 rfl
theorem k_258_839 : lk 258 839 = some (.iaload, 840, 0, 0, .null) := by decide +kernel
theorem x_258_839 : Tr sc d 258 (839, [l0, l1, l2, l3], [.int i5, .ref k4, .int i3, .int i2, .ref k1, .int i0], h) Q = (iOk sc h k4 i5 ∧ Tr sc d 258 (840, [l0, l1, l2, l3], [.int (iRd sc h k4 i5), .int i3, .int i2, .ref k1, .int i0], h) Q) := t_iald k_258_839
theorem k_258_840 : lk 258 840 = some (.aload_n 0, 841, 0, 0, .null) := by decide +kernel
theorem x_258_840 : Tr sc d 258 (840, [some (.ref xk), l1, l2, l3], [.int i4, .int i3, .int i2, .ref k1, .int i0], h) Q = Tr sc d 258 (841, [some (.ref xk), l1, l2, l3], [.ref xk, .int i4, .int i3, .int i2, .ref k1, .int i0], h) Q := t_aload_n k_258_840 rfl
theorem k_258_841 : lk 258 841 = some (.iload_n 3, 842, 3, 0, .null) := by decide +kernel
theorem x_258_841 : Tr sc d 258 (841, [l0, l1, l2, some (.int x)], [.ref k5, .int i4, .int i3, .int i2, .ref k1, .int i0], h) Q = Tr sc d 258 (842, [l0, l1, l2, some (.int x)], [.int x, .ref k5, .int i4, .int i3, .int i2, .ref k1, .int i0], h) Q := t_iload_n k_258_841 rfl
theorem k_258_842 : lk 258 842 = some (.iconst 4, 843, 0, 0, .int 4) := by decide +kernel
theorem x_258_842 : Tr sc d 258 (842, [l0, l1, l2, l3], [.int i6, .ref k5, .int i4, .int i3, .int i2, .ref k1, .int i0], h) Q = Tr sc d 258 (843, [l0, l1, l2, l3], [.int 4, .int i6, .ref k5, .int i4, .int i3, .int i2, .ref k1, .int i0], h) Q := t_go k_258_842 rfl
theorem k_258_843 : lk 258 843 = some (.iadd, 844, 0, 0, .null) := by decide +kernel
theorem x_258_843 : Tr sc d 258 (843, [l0, l1, l2, l3], [.int i7, .int i6, .ref k5, .int i4, .int i3, .int i2, .ref k1, .int i0], h) Q = Tr sc d 258 (844, [l0, l1, l2, l3], [.int (i6 + i7), .ref k5, .int i4, .int i3, .int i2, .ref k1, .int i0], h) Q := t_go k_258_843 rfl
theorem k_258_844 : lk 258 844 = some (.iaload, 845, 0, 0, .null) := by decide +kernel
theorem x_258_844 : Tr sc d 258 (844, [l0, l1, l2, l3], [.int i6, .ref k5, .int i4, .int i3, .int i2, .ref k1, .int i0], h) Q = (iOk sc h k5 i6 ∧ Tr sc d 258 (845, [l0, l1, l2, l3], [.int (iRd sc h k5 i6), .int i4, .int i3, .int i2, .ref k1, .int i0], h) Q) := t_iald k_258_844
theorem k_258_845 : lk 258 845 = some (.ifCond .eq 7, 848, 852, 0, .null) := by decide +kernel
theorem x_258_845 : Tr sc d 258 (845, [l0, l1, l2, l3], [.int i5, .int i4, .int i3, .int i2, .ref k1, .int i0], h) Q = if i5 = 0 then Tr sc d 258 (852, [l0, l1, l2, l3], [.int i4, .int i3, .int i2, .ref k1, .int i0], h) Q else Tr sc d 258 (848, [l0, l1, l2, l3], [.int i4, .int i3, .int i2, .ref k1, .int i0], h) Q := t_if k_258_845 rfl
theorem k_258_848 : lk 258 848 = some (.iconst 1, 849, 0, 0, .int 1) := by decide +kernel
theorem x_258_848 : Tr sc d 258 (848, [l0, l1, l2, l3], [.int i4, .int i3, .int i2, .ref k1, .int i0], h) Q = Tr sc d 258 (849, [l0, l1, l2, l3], [.int 1, .int i4, .int i3, .int i2, .ref k1, .int i0], h) Q := t_go k_258_848 rfl
theorem k_258_849 : lk 258 849 = some (.goto 4, 852, 853, 0, .null) := by decide +kernel
theorem x_258_849 : Tr sc d 258 (849, [l0, l1, l2, l3], [.int i5, .int i4, .int i3, .int i2, .ref k1, .int i0], h) Q = Tr sc d 258 (853, [l0, l1, l2, l3], [.int i5, .int i4, .int i3, .int i2, .ref k1, .int i0], h) Q := t_go k_258_849 rfl
theorem k_258_852 : lk 258 852 = some (.iconst 0, 853, 0, 0, .int 0) := by decide +kernel
theorem x_258_852 : Tr sc d 258 (852, [l0, l1, l2, l3], [.int i4, .int i3, .int i2, .ref k1, .int i0], h) Q = Tr sc d 258 (853, [l0, l1, l2, l3], [.int 0, .int i4, .int i3, .int i2, .ref k1, .int i0], h) Q := t_go k_258_852 rfl
theorem k_258_853 : lk 258 853 = some (.invokevirtual 85, 856, 198, 4, .null) := by decide +kernel
theorem x_258_853 : Tr sc (d + 1) 258 (853, [l0, l1, l2, l3], [.int i5, .int i4, .int i3, .int i2, .ref k1, .int i0], h) Q = (okp h k1 10 = true ∧ Tr sc d 198 (ent0 198 [.ref k1, .int i2, .int i3, .int i4, .int i5] h) (fun z => Tr sc (d + 1) 258 (856, [l0, l1, l2, l3], z.1.toList ++ [.int i0], z.2) Q)) := t_cv (as := [.int i2, .int i3, .int i4, .int i5]) (r := [.int i0]) k_258_853 rfl rfl (Nat.le_of_ble_eq_true rfl) (Nat.le_of_ble_eq_true rfl) (Nat.le_of_ble_eq_true rfl)
theorem k_258_856 : lk 258 856 = some (.if_icmp .eq 892, 859, 1748, 0, .null) := by decide +kernel
theorem x_258_856 : Tr sc d 258 (856, [l0, l1, l2, l3], [.int i1, .int i0], h) Q = if i0 = i1 then Tr sc d 258 (1748, [l0, l1, l2, l3], [], h) Q else Tr sc d 258 (859, [l0, l1, l2, l3], [], h) Q := t_if k_258_856 rfl
theorem k_258_859 : lk 258 859 = some (.iconst 0, 860, 0, 0, .int 0) := by decide +kernel
theorem x_258_859 : Tr sc d 258 (859, [l0, l1, l2, l3], [], h) Q = Tr sc d 258 (860, [l0, l1, l2, l3], [.int 0], h) Q := t_go k_258_859 rfl
theorem k_258_860 : lk 258 860 = some (.ireturn, 861, 0, 0, .null) := by decide +kernel
theorem x_258_860 : Tr sc d 258 (860, [l0, l1, l2, l3], [.int i0], h) Q = (vp_nar .boolean i0 = i0 ∧ Q (some (.int i0), h)) := t_zret k_258_860 r_258
theorem k_258_861 : lk 258 861 = some (.aload_n 1, 862, 1, 0, .null) := by decide +kernel
theorem x_258_861 : Tr sc d 258 (861, [l0, some (.ref xk), l2, l3], [], h) Q = Tr sc d 258 (862, [l0, some (.ref xk), l2, l3], [.ref xk], h) Q := t_aload_n k_258_861 rfl
theorem k_258_862 : lk 258 862 = some (.aload_n 0, 863, 0, 0, .null) := by decide +kernel
theorem x_258_862 : Tr sc d 258 (862, [some (.ref xk), l1, l2, l3], [.ref k0], h) Q = Tr sc d 258 (863, [some (.ref xk), l1, l2, l3], [.ref xk, .ref k0], h) Q := t_aload_n k_258_862 rfl
theorem k_258_863 : lk 258 863 = some (.iload_n 3, 864, 3, 0, .null) := by decide +kernel
theorem x_258_863 : Tr sc d 258 (863, [l0, l1, l2, some (.int x)], [.ref k1, .ref k0], h) Q = Tr sc d 258 (864, [l0, l1, l2, some (.int x)], [.int x, .ref k1, .ref k0], h) Q := t_iload_n k_258_863 rfl
theorem k_258_864 : lk 258 864 = some (.iconst 1, 865, 0, 0, .int 1) := by decide +kernel
theorem x_258_864 : Tr sc d 258 (864, [l0, l1, l2, l3], [.int i2, .ref k1, .ref k0], h) Q = Tr sc d 258 (865, [l0, l1, l2, l3], [.int 1, .int i2, .ref k1, .ref k0], h) Q := t_go k_258_864 rfl
theorem k_258_865 : lk 258 865 = some (.iadd, 866, 0, 0, .null) := by decide +kernel
theorem x_258_865 : Tr sc d 258 (865, [l0, l1, l2, l3], [.int i3, .int i2, .ref k1, .ref k0], h) Q = Tr sc d 258 (866, [l0, l1, l2, l3], [.int (i2 + i3), .ref k1, .ref k0], h) Q := t_go k_258_865 rfl
theorem k_258_866 : lk 258 866 = some (.iaload, 867, 0, 0, .null) := by decide +kernel
theorem x_258_866 : Tr sc d 258 (866, [l0, l1, l2, l3], [.int i2, .ref k1, .ref k0], h) Q = (iOk sc h k1 i2 ∧ Tr sc d 258 (867, [l0, l1, l2, l3], [.int (iRd sc h k1 i2), .ref k0], h) Q) := t_iald k_258_866
theorem k_258_867 : lk 258 867 = some (.aload_n 0, 868, 0, 0, .null) := by decide +kernel
theorem x_258_867 : Tr sc d 258 (867, [some (.ref xk), l1, l2, l3], [.int i1, .ref k0], h) Q = Tr sc d 258 (868, [some (.ref xk), l1, l2, l3], [.ref xk, .int i1, .ref k0], h) Q := t_aload_n k_258_867 rfl
theorem k_258_868 : lk 258 868 = some (.iload_n 3, 869, 3, 0, .null) := by decide +kernel
theorem x_258_868 : Tr sc d 258 (868, [l0, l1, l2, some (.int x)], [.ref k2, .int i1, .ref k0], h) Q = Tr sc d 258 (869, [l0, l1, l2, some (.int x)], [.int x, .ref k2, .int i1, .ref k0], h) Q := t_iload_n k_258_868 rfl
theorem k_258_869 : lk 258 869 = some (.iconst 2, 870, 0, 0, .int 2) := by decide +kernel
theorem x_258_869 : Tr sc d 258 (869, [l0, l1, l2, l3], [.int i3, .ref k2, .int i1, .ref k0], h) Q = Tr sc d 258 (870, [l0, l1, l2, l3], [.int 2, .int i3, .ref k2, .int i1, .ref k0], h) Q := t_go k_258_869 rfl
theorem k_258_870 : lk 258 870 = some (.iadd, 871, 0, 0, .null) := by decide +kernel
theorem x_258_870 : Tr sc d 258 (870, [l0, l1, l2, l3], [.int i4, .int i3, .ref k2, .int i1, .ref k0], h) Q = Tr sc d 258 (871, [l0, l1, l2, l3], [.int (i3 + i4), .ref k2, .int i1, .ref k0], h) Q := t_go k_258_870 rfl
theorem k_258_871 : lk 258 871 = some (.iaload, 872, 0, 0, .null) := by decide +kernel
theorem x_258_871 : Tr sc d 258 (871, [l0, l1, l2, l3], [.int i3, .ref k2, .int i1, .ref k0], h) Q = (iOk sc h k2 i3 ∧ Tr sc d 258 (872, [l0, l1, l2, l3], [.int (iRd sc h k2 i3), .int i1, .ref k0], h) Q) := t_iald k_258_871
theorem k_258_872 : lk 258 872 = some (.aload_n 0, 873, 0, 0, .null) := by decide +kernel
theorem x_258_872 : Tr sc d 258 (872, [some (.ref xk), l1, l2, l3], [.int i2, .int i1, .ref k0], h) Q = Tr sc d 258 (873, [some (.ref xk), l1, l2, l3], [.ref xk, .int i2, .int i1, .ref k0], h) Q := t_aload_n k_258_872 rfl
theorem k_258_873 : lk 258 873 = some (.iload_n 3, 874, 3, 0, .null) := by decide +kernel
theorem x_258_873 : Tr sc d 258 (873, [l0, l1, l2, some (.int x)], [.ref k3, .int i2, .int i1, .ref k0], h) Q = Tr sc d 258 (874, [l0, l1, l2, some (.int x)], [.int x, .ref k3, .int i2, .int i1, .ref k0], h) Q := t_iload_n k_258_873 rfl
theorem k_258_874 : lk 258 874 = some (.iconst 3, 875, 0, 0, .int 3) := by decide +kernel
theorem x_258_874 : Tr sc d 258 (874, [l0, l1, l2, l3], [.int i4, .ref k3, .int i2, .int i1, .ref k0], h) Q = Tr sc d 258 (875, [l0, l1, l2, l3], [.int 3, .int i4, .ref k3, .int i2, .int i1, .ref k0], h) Q := t_go k_258_874 rfl
theorem k_258_875 : lk 258 875 = some (.iadd, 876, 0, 0, .null) := by decide +kernel
theorem x_258_875 : Tr sc d 258 (875, [l0, l1, l2, l3], [.int i5, .int i4, .ref k3, .int i2, .int i1, .ref k0], h) Q = Tr sc d 258 (876, [l0, l1, l2, l3], [.int (i4 + i5), .ref k3, .int i2, .int i1, .ref k0], h) Q := t_go k_258_875 rfl
theorem k_258_876 : lk 258 876 = some (.iaload, 877, 0, 0, .null) := by decide +kernel
theorem x_258_876 : Tr sc d 258 (876, [l0, l1, l2, l3], [.int i4, .ref k3, .int i2, .int i1, .ref k0], h) Q = (iOk sc h k3 i4 ∧ Tr sc d 258 (877, [l0, l1, l2, l3], [.int (iRd sc h k3 i4), .int i2, .int i1, .ref k0], h) Q) := t_iald k_258_876
theorem k_258_877 : lk 258 877 = some (.aload_n 0, 878, 0, 0, .null) := by decide +kernel
theorem x_258_877 : Tr sc d 258 (877, [some (.ref xk), l1, l2, l3], [.int i3, .int i2, .int i1, .ref k0], h) Q = Tr sc d 258 (878, [some (.ref xk), l1, l2, l3], [.ref xk, .int i3, .int i2, .int i1, .ref k0], h) Q := t_aload_n k_258_877 rfl
theorem k_258_878 : lk 258 878 = some (.iload_n 3, 879, 3, 0, .null) := by decide +kernel
theorem x_258_878 : Tr sc d 258 (878, [l0, l1, l2, some (.int x)], [.ref k4, .int i3, .int i2, .int i1, .ref k0], h) Q = Tr sc d 258 (879, [l0, l1, l2, some (.int x)], [.int x, .ref k4, .int i3, .int i2, .int i1, .ref k0], h) Q := t_iload_n k_258_878 rfl
theorem k_258_879 : lk 258 879 = some (.iconst 4, 880, 0, 0, .int 4) := by decide +kernel
theorem x_258_879 : Tr sc d 258 (879, [l0, l1, l2, l3], [.int i5, .ref k4, .int i3, .int i2, .int i1, .ref k0], h) Q = Tr sc d 258 (880, [l0, l1, l2, l3], [.int 4, .int i5, .ref k4, .int i3, .int i2, .int i1, .ref k0], h) Q := t_go k_258_879 rfl
theorem k_258_880 : lk 258 880 = some (.iadd, 881, 0, 0, .null) := by decide +kernel
theorem x_258_880 : Tr sc d 258 (880, [l0, l1, l2, l3], [.int i6, .int i5, .ref k4, .int i3, .int i2, .int i1, .ref k0], h) Q = Tr sc d 258 (881, [l0, l1, l2, l3], [.int (i5 + i6), .ref k4, .int i3, .int i2, .int i1, .ref k0], h) Q := t_go k_258_880 rfl
theorem k_258_881 : lk 258 881 = some (.iaload, 882, 0, 0, .null) := by decide +kernel
theorem x_258_881 : Tr sc d 258 (881, [l0, l1, l2, l3], [.int i5, .ref k4, .int i3, .int i2, .int i1, .ref k0], h) Q = (iOk sc h k4 i5 ∧ Tr sc d 258 (882, [l0, l1, l2, l3], [.int (iRd sc h k4 i5), .int i3, .int i2, .int i1, .ref k0], h) Q) := t_iald k_258_881
theorem k_258_882 : lk 258 882 = some (.aload_n 0, 883, 0, 0, .null) := by decide +kernel
theorem x_258_882 : Tr sc d 258 (882, [some (.ref xk), l1, l2, l3], [.int i4, .int i3, .int i2, .int i1, .ref k0], h) Q = Tr sc d 258 (883, [some (.ref xk), l1, l2, l3], [.ref xk, .int i4, .int i3, .int i2, .int i1, .ref k0], h) Q := t_aload_n k_258_882 rfl
theorem k_258_883 : lk 258 883 = some (.iload_n 3, 884, 3, 0, .null) := by decide +kernel
theorem x_258_883 : Tr sc d 258 (883, [l0, l1, l2, some (.int x)], [.ref k5, .int i4, .int i3, .int i2, .int i1, .ref k0], h) Q = Tr sc d 258 (884, [l0, l1, l2, some (.int x)], [.int x, .ref k5, .int i4, .int i3, .int i2, .int i1, .ref k0], h) Q := t_iload_n k_258_883 rfl
theorem k_258_884 : lk 258 884 = some (.iconst 5, 885, 0, 0, .int 5) := by decide +kernel
theorem x_258_884 : Tr sc d 258 (884, [l0, l1, l2, l3], [.int i6, .ref k5, .int i4, .int i3, .int i2, .int i1, .ref k0], h) Q = Tr sc d 258 (885, [l0, l1, l2, l3], [.int 5, .int i6, .ref k5, .int i4, .int i3, .int i2, .int i1, .ref k0], h) Q := t_go k_258_884 rfl
theorem k_258_885 : lk 258 885 = some (.iadd, 886, 0, 0, .null) := by decide +kernel
theorem x_258_885 : Tr sc d 258 (885, [l0, l1, l2, l3], [.int i7, .int i6, .ref k5, .int i4, .int i3, .int i2, .int i1, .ref k0], h) Q = Tr sc d 258 (886, [l0, l1, l2, l3], [.int (i6 + i7), .ref k5, .int i4, .int i3, .int i2, .int i1, .ref k0], h) Q := t_go k_258_885 rfl
theorem k_258_886 : lk 258 886 = some (.iaload, 887, 0, 0, .null) := by decide +kernel
theorem x_258_886 : Tr sc d 258 (886, [l0, l1, l2, l3], [.int i6, .ref k5, .int i4, .int i3, .int i2, .int i1, .ref k0], h) Q = (iOk sc h k5 i6 ∧ Tr sc d 258 (887, [l0, l1, l2, l3], [.int (iRd sc h k5 i6), .int i4, .int i3, .int i2, .int i1, .ref k0], h) Q) := t_iald k_258_886
theorem k_258_887 : lk 258 887 = some (.ifCond .eq 7, 890, 894, 0, .null) := by decide +kernel
theorem x_258_887 : Tr sc d 258 (887, [l0, l1, l2, l3], [.int i5, .int i4, .int i3, .int i2, .int i1, .ref k0], h) Q = if i5 = 0 then Tr sc d 258 (894, [l0, l1, l2, l3], [.int i4, .int i3, .int i2, .int i1, .ref k0], h) Q else Tr sc d 258 (890, [l0, l1, l2, l3], [.int i4, .int i3, .int i2, .int i1, .ref k0], h) Q := t_if k_258_887 rfl
theorem k_258_890 : lk 258 890 = some (.iconst 1, 891, 0, 0, .int 1) := by decide +kernel
theorem x_258_890 : Tr sc d 258 (890, [l0, l1, l2, l3], [.int i4, .int i3, .int i2, .int i1, .ref k0], h) Q = Tr sc d 258 (891, [l0, l1, l2, l3], [.int 1, .int i4, .int i3, .int i2, .int i1, .ref k0], h) Q := t_go k_258_890 rfl
theorem k_258_891 : lk 258 891 = some (.goto 4, 894, 895, 0, .null) := by decide +kernel
theorem x_258_891 : Tr sc d 258 (891, [l0, l1, l2, l3], [.int i5, .int i4, .int i3, .int i2, .int i1, .ref k0], h) Q = Tr sc d 258 (895, [l0, l1, l2, l3], [.int i5, .int i4, .int i3, .int i2, .int i1, .ref k0], h) Q := t_go k_258_891 rfl
theorem k_258_894 : lk 258 894 = some (.iconst 0, 895, 0, 0, .int 0) := by decide +kernel
theorem x_258_894 : Tr sc d 258 (894, [l0, l1, l2, l3], [.int i4, .int i3, .int i2, .int i1, .ref k0], h) Q = Tr sc d 258 (895, [l0, l1, l2, l3], [.int 0, .int i4, .int i3, .int i2, .int i1, .ref k0], h) Q := t_go k_258_894 rfl
theorem k_258_895 : lk 258 895 = some (.invokevirtual 86, 898, 113, 5, .null) := by decide +kernel
theorem x_258_895 : Tr sc (d + 1) 258 (895, [l0, l1, l2, l3], [.int i5, .int i4, .int i3, .int i2, .int i1, .ref k0], h) Q = (okp h k0 9 = true ∧ Tr sc d 113 (ent0 113 [.ref k0, .int i1, .int i2, .int i3, .int i4, .int i5] h) (fun z => Tr sc (d + 1) 258 (898, [l0, l1, l2, l3], z.1.toList ++ [], z.2) Q)) := t_cv (as := [.int i1, .int i2, .int i3, .int i4, .int i5]) (r := []) k_258_895 rfl rfl (Nat.le_of_ble_eq_true rfl) (Nat.le_of_ble_eq_true rfl) (Nat.le_of_ble_eq_true rfl)
theorem k_258_898 : lk 258 898 = some (.aload_n 2, 899, 2, 0, .null) := by decide +kernel
theorem x_258_898 : Tr sc d 258 (898, [l0, l1, some (.ref xk), l3], [.int i0], h) Q = Tr sc d 258 (899, [l0, l1, some (.ref xk), l3], [.ref xk, .int i0], h) Q := t_aload_n k_258_898 rfl
theorem k_258_899 : lk 258 899 = some (.aload_n 0, 900, 0, 0, .null) := by decide +kernel
theorem x_258_899 : Tr sc d 258 (899, [some (.ref xk), l1, l2, l3], [.ref k1, .int i0], h) Q = Tr sc d 258 (900, [some (.ref xk), l1, l2, l3], [.ref xk, .ref k1, .int i0], h) Q := t_aload_n k_258_899 rfl
theorem k_258_900 : lk 258 900 = some (.iload_n 3, 901, 3, 0, .null) := by decide +kernel
theorem x_258_900 : Tr sc d 258 (900, [l0, l1, l2, some (.int x)], [.ref k2, .ref k1, .int i0], h) Q = Tr sc d 258 (901, [l0, l1, l2, some (.int x)], [.int x, .ref k2, .ref k1, .int i0], h) Q := t_iload_n k_258_900 rfl
theorem k_258_901 : lk 258 901 = some (.iconst 1, 902, 0, 0, .int 1) := by decide +kernel
theorem x_258_901 : Tr sc d 258 (901, [l0, l1, l2, l3], [.int i3, .ref k2, .ref k1, .int i0], h) Q = Tr sc d 258 (902, [l0, l1, l2, l3], [.int 1, .int i3, .ref k2, .ref k1, .int i0], h) Q := t_go k_258_901 rfl
theorem k_258_902 : lk 258 902 = some (.iadd, 903, 0, 0, .null) := by decide +kernel
theorem x_258_902 : Tr sc d 258 (902, [l0, l1, l2, l3], [.int i4, .int i3, .ref k2, .ref k1, .int i0], h) Q = Tr sc d 258 (903, [l0, l1, l2, l3], [.int (i3 + i4), .ref k2, .ref k1, .int i0], h) Q := t_go k_258_902 rfl
theorem k_258_903 : lk 258 903 = some (.iaload, 904, 0, 0, .null) := by decide +kernel
theorem x_258_903 : Tr sc d 258 (903, [l0, l1, l2, l3], [.int i3, .ref k2, .ref k1, .int i0], h) Q = (iOk sc h k2 i3 ∧ Tr sc d 258 (904, [l0, l1, l2, l3], [.int (iRd sc h k2 i3), .ref k1, .int i0], h) Q) := t_iald k_258_903
theorem k_258_904 : lk 258 904 = some (.aload_n 0, 905, 0, 0, .null) := by decide +kernel
theorem x_258_904 : Tr sc d 258 (904, [some (.ref xk), l1, l2, l3], [.int i2, .ref k1, .int i0], h) Q = Tr sc d 258 (905, [some (.ref xk), l1, l2, l3], [.ref xk, .int i2, .ref k1, .int i0], h) Q := t_aload_n k_258_904 rfl
theorem k_258_905 : lk 258 905 = some (.iload_n 3, 906, 3, 0, .null) := by decide +kernel
theorem x_258_905 : Tr sc d 258 (905, [l0, l1, l2, some (.int x)], [.ref k3, .int i2, .ref k1, .int i0], h) Q = Tr sc d 258 (906, [l0, l1, l2, some (.int x)], [.int x, .ref k3, .int i2, .ref k1, .int i0], h) Q := t_iload_n k_258_905 rfl
theorem k_258_906 : lk 258 906 = some (.iconst 2, 907, 0, 0, .int 2) := by decide +kernel
theorem x_258_906 : Tr sc d 258 (906, [l0, l1, l2, l3], [.int i4, .ref k3, .int i2, .ref k1, .int i0], h) Q = Tr sc d 258 (907, [l0, l1, l2, l3], [.int 2, .int i4, .ref k3, .int i2, .ref k1, .int i0], h) Q := t_go k_258_906 rfl
theorem k_258_907 : lk 258 907 = some (.iadd, 908, 0, 0, .null) := by decide +kernel
theorem x_258_907 : Tr sc d 258 (907, [l0, l1, l2, l3], [.int i5, .int i4, .ref k3, .int i2, .ref k1, .int i0], h) Q = Tr sc d 258 (908, [l0, l1, l2, l3], [.int (i4 + i5), .ref k3, .int i2, .ref k1, .int i0], h) Q := t_go k_258_907 rfl
theorem k_258_908 : lk 258 908 = some (.iaload, 909, 0, 0, .null) := by decide +kernel
theorem x_258_908 : Tr sc d 258 (908, [l0, l1, l2, l3], [.int i4, .ref k3, .int i2, .ref k1, .int i0], h) Q = (iOk sc h k3 i4 ∧ Tr sc d 258 (909, [l0, l1, l2, l3], [.int (iRd sc h k3 i4), .int i2, .ref k1, .int i0], h) Q) := t_iald k_258_908
theorem k_258_909 : lk 258 909 = some (.aload_n 0, 910, 0, 0, .null) := by decide +kernel
theorem x_258_909 : Tr sc d 258 (909, [some (.ref xk), l1, l2, l3], [.int i3, .int i2, .ref k1, .int i0], h) Q = Tr sc d 258 (910, [some (.ref xk), l1, l2, l3], [.ref xk, .int i3, .int i2, .ref k1, .int i0], h) Q := t_aload_n k_258_909 rfl
theorem k_258_910 : lk 258 910 = some (.iload_n 3, 911, 3, 0, .null) := by decide +kernel
theorem x_258_910 : Tr sc d 258 (910, [l0, l1, l2, some (.int x)], [.ref k4, .int i3, .int i2, .ref k1, .int i0], h) Q = Tr sc d 258 (911, [l0, l1, l2, some (.int x)], [.int x, .ref k4, .int i3, .int i2, .ref k1, .int i0], h) Q := t_iload_n k_258_910 rfl
theorem k_258_911 : lk 258 911 = some (.iconst 3, 912, 0, 0, .int 3) := by decide +kernel
theorem x_258_911 : Tr sc d 258 (911, [l0, l1, l2, l3], [.int i5, .ref k4, .int i3, .int i2, .ref k1, .int i0], h) Q = Tr sc d 258 (912, [l0, l1, l2, l3], [.int 3, .int i5, .ref k4, .int i3, .int i2, .ref k1, .int i0], h) Q := t_go k_258_911 rfl
theorem k_258_912 : lk 258 912 = some (.iadd, 913, 0, 0, .null) := by decide +kernel
theorem x_258_912 : Tr sc d 258 (912, [l0, l1, l2, l3], [.int i6, .int i5, .ref k4, .int i3, .int i2, .ref k1, .int i0], h) Q = Tr sc d 258 (913, [l0, l1, l2, l3], [.int (i5 + i6), .ref k4, .int i3, .int i2, .ref k1, .int i0], h) Q := t_go k_258_912 rfl
theorem k_258_913 : lk 258 913 = some (.iaload, 914, 0, 0, .null) := by decide +kernel
theorem x_258_913 : Tr sc d 258 (913, [l0, l1, l2, l3], [.int i5, .ref k4, .int i3, .int i2, .ref k1, .int i0], h) Q = (iOk sc h k4 i5 ∧ Tr sc d 258 (914, [l0, l1, l2, l3], [.int (iRd sc h k4 i5), .int i3, .int i2, .ref k1, .int i0], h) Q) := t_iald k_258_913
theorem k_258_914 : lk 258 914 = some (.aload_n 0, 915, 0, 0, .null) := by decide +kernel
theorem x_258_914 : Tr sc d 258 (914, [some (.ref xk), l1, l2, l3], [.int i4, .int i3, .int i2, .ref k1, .int i0], h) Q = Tr sc d 258 (915, [some (.ref xk), l1, l2, l3], [.ref xk, .int i4, .int i3, .int i2, .ref k1, .int i0], h) Q := t_aload_n k_258_914 rfl
theorem k_258_915 : lk 258 915 = some (.iload_n 3, 916, 3, 0, .null) := by decide +kernel
theorem x_258_915 : Tr sc d 258 (915, [l0, l1, l2, some (.int x)], [.ref k5, .int i4, .int i3, .int i2, .ref k1, .int i0], h) Q = Tr sc d 258 (916, [l0, l1, l2, some (.int x)], [.int x, .ref k5, .int i4, .int i3, .int i2, .ref k1, .int i0], h) Q := t_iload_n k_258_915 rfl
theorem k_258_916 : lk 258 916 = some (.iconst 4, 917, 0, 0, .int 4) := by decide +kernel
theorem x_258_916 : Tr sc d 258 (916, [l0, l1, l2, l3], [.int i6, .ref k5, .int i4, .int i3, .int i2, .ref k1, .int i0], h) Q = Tr sc d 258 (917, [l0, l1, l2, l3], [.int 4, .int i6, .ref k5, .int i4, .int i3, .int i2, .ref k1, .int i0], h) Q := t_go k_258_916 rfl
theorem k_258_917 : lk 258 917 = some (.iadd, 918, 0, 0, .null) := by decide +kernel
theorem x_258_917 : Tr sc d 258 (917, [l0, l1, l2, l3], [.int i7, .int i6, .ref k5, .int i4, .int i3, .int i2, .ref k1, .int i0], h) Q = Tr sc d 258 (918, [l0, l1, l2, l3], [.int (i6 + i7), .ref k5, .int i4, .int i3, .int i2, .ref k1, .int i0], h) Q := t_go k_258_917 rfl
theorem k_258_918 : lk 258 918 = some (.iaload, 919, 0, 0, .null) := by decide +kernel
theorem x_258_918 : Tr sc d 258 (918, [l0, l1, l2, l3], [.int i6, .ref k5, .int i4, .int i3, .int i2, .ref k1, .int i0], h) Q = (iOk sc h k5 i6 ∧ Tr sc d 258 (919, [l0, l1, l2, l3], [.int (iRd sc h k5 i6), .int i4, .int i3, .int i2, .ref k1, .int i0], h) Q) := t_iald k_258_918
theorem k_258_919 : lk 258 919 = some (.aload_n 0, 920, 0, 0, .null) := by decide +kernel
theorem x_258_919 : Tr sc d 258 (919, [some (.ref xk), l1, l2, l3], [.int i5, .int i4, .int i3, .int i2, .ref k1, .int i0], h) Q = Tr sc d 258 (920, [some (.ref xk), l1, l2, l3], [.ref xk, .int i5, .int i4, .int i3, .int i2, .ref k1, .int i0], h) Q := t_aload_n k_258_919 rfl
theorem k_258_920 : lk 258 920 = some (.iload_n 3, 921, 3, 0, .null) := by decide +kernel
theorem x_258_920 : Tr sc d 258 (920, [l0, l1, l2, some (.int x)], [.ref k6, .int i5, .int i4, .int i3, .int i2, .ref k1, .int i0], h) Q = Tr sc d 258 (921, [l0, l1, l2, some (.int x)], [.int x, .ref k6, .int i5, .int i4, .int i3, .int i2, .ref k1, .int i0], h) Q := t_iload_n k_258_920 rfl
theorem k_258_921 : lk 258 921 = some (.iconst 5, 922, 0, 0, .int 5) := by decide +kernel
theorem x_258_921 : Tr sc d 258 (921, [l0, l1, l2, l3], [.int i7, .ref k6, .int i5, .int i4, .int i3, .int i2, .ref k1, .int i0], h) Q = Tr sc d 258 (922, [l0, l1, l2, l3], [.int 5, .int i7, .ref k6, .int i5, .int i4, .int i3, .int i2, .ref k1, .int i0], h) Q := t_go k_258_921 rfl
theorem k_258_922 : lk 258 922 = some (.iadd, 923, 0, 0, .null) := by decide +kernel
theorem x_258_922 : Tr sc d 258 (922, [l0, l1, l2, l3], [.int i8, .int i7, .ref k6, .int i5, .int i4, .int i3, .int i2, .ref k1, .int i0], h) Q = Tr sc d 258 (923, [l0, l1, l2, l3], [.int (i7 + i8), .ref k6, .int i5, .int i4, .int i3, .int i2, .ref k1, .int i0], h) Q := t_go k_258_922 rfl
theorem k_258_923 : lk 258 923 = some (.iaload, 924, 0, 0, .null) := by decide +kernel
theorem x_258_923 : Tr sc d 258 (923, [l0, l1, l2, l3], [.int i7, .ref k6, .int i5, .int i4, .int i3, .int i2, .ref k1, .int i0], h) Q = (iOk sc h k6 i7 ∧ Tr sc d 258 (924, [l0, l1, l2, l3], [.int (iRd sc h k6 i7), .int i5, .int i4, .int i3, .int i2, .ref k1, .int i0], h) Q) := t_iald k_258_923
theorem k_258_924 : lk 258 924 = some (.ifCond .eq 7, 927, 931, 0, .null) := by decide +kernel
theorem x_258_924 : Tr sc d 258 (924, [l0, l1, l2, l3], [.int i6, .int i5, .int i4, .int i3, .int i2, .ref k1, .int i0], h) Q = if i6 = 0 then Tr sc d 258 (931, [l0, l1, l2, l3], [.int i5, .int i4, .int i3, .int i2, .ref k1, .int i0], h) Q else Tr sc d 258 (927, [l0, l1, l2, l3], [.int i5, .int i4, .int i3, .int i2, .ref k1, .int i0], h) Q := t_if k_258_924 rfl
theorem k_258_927 : lk 258 927 = some (.iconst 1, 928, 0, 0, .int 1) := by decide +kernel
theorem x_258_927 : Tr sc d 258 (927, [l0, l1, l2, l3], [.int i5, .int i4, .int i3, .int i2, .ref k1, .int i0], h) Q = Tr sc d 258 (928, [l0, l1, l2, l3], [.int 1, .int i5, .int i4, .int i3, .int i2, .ref k1, .int i0], h) Q := t_go k_258_927 rfl
theorem k_258_928 : lk 258 928 = some (.goto 4, 931, 932, 0, .null) := by decide +kernel
theorem x_258_928 : Tr sc d 258 (928, [l0, l1, l2, l3], [.int i6, .int i5, .int i4, .int i3, .int i2, .ref k1, .int i0], h) Q = Tr sc d 258 (932, [l0, l1, l2, l3], [.int i6, .int i5, .int i4, .int i3, .int i2, .ref k1, .int i0], h) Q := t_go k_258_928 rfl
theorem k_258_931 : lk 258 931 = some (.iconst 0, 932, 0, 0, .int 0) := by decide +kernel
theorem x_258_931 : Tr sc d 258 (931, [l0, l1, l2, l3], [.int i5, .int i4, .int i3, .int i2, .ref k1, .int i0], h) Q = Tr sc d 258 (932, [l0, l1, l2, l3], [.int 0, .int i5, .int i4, .int i3, .int i2, .ref k1, .int i0], h) Q := t_go k_258_931 rfl
theorem k_258_932 : lk 258 932 = some (.invokevirtual 90, 935, 199, 5, .null) := by decide +kernel
theorem x_258_932 : Tr sc (d + 1) 258 (932, [l0, l1, l2, l3], [.int i6, .int i5, .int i4, .int i3, .int i2, .ref k1, .int i0], h) Q = (okp h k1 10 = true ∧ Tr sc d 199 (ent0 199 [.ref k1, .int i2, .int i3, .int i4, .int i5, .int i6] h) (fun z => Tr sc (d + 1) 258 (935, [l0, l1, l2, l3], z.1.toList ++ [.int i0], z.2) Q)) := t_cv (as := [.int i2, .int i3, .int i4, .int i5, .int i6]) (r := [.int i0]) k_258_932 rfl rfl (Nat.le_of_ble_eq_true rfl) (Nat.le_of_ble_eq_true rfl) (Nat.le_of_ble_eq_true rfl)
theorem k_258_935 : lk 258 935 = some (.if_icmp .eq 813, 938, 1748, 0, .null) := by decide +kernel
theorem x_258_935 : Tr sc d 258 (935, [l0, l1, l2, l3], [.int i1, .int i0], h) Q = if i0 = i1 then Tr sc d 258 (1748, [l0, l1, l2, l3], [], h) Q else Tr sc d 258 (938, [l0, l1, l2, l3], [], h) Q := t_if k_258_935 rfl
theorem k_258_938 : lk 258 938 = some (.iconst 0, 939, 0, 0, .int 0) := by decide +kernel
theorem x_258_938 : Tr sc d 258 (938, [l0, l1, l2, l3], [], h) Q = Tr sc d 258 (939, [l0, l1, l2, l3], [.int 0], h) Q := t_go k_258_938 rfl
theorem k_258_939 : lk 258 939 = some (.ireturn, 940, 0, 0, .null) := by decide +kernel
theorem x_258_939 : Tr sc d 258 (939, [l0, l1, l2, l3], [.int i0], h) Q = (vp_nar .boolean i0 = i0 ∧ Q (some (.int i0), h)) := t_zret k_258_939 r_258
theorem k_258_940 : lk 258 940 = some (.aload_n 1, 941, 1, 0, .null) := by decide +kernel
theorem x_258_940 : Tr sc d 258 (940, [l0, some (.ref xk), l2, l3], [], h) Q = Tr sc d 258 (941, [l0, some (.ref xk), l2, l3], [.ref xk], h) Q := t_aload_n k_258_940 rfl
theorem k_258_941 : lk 258 941 = some (.aload_n 0, 942, 0, 0, .null) := by decide +kernel
theorem x_258_941 : Tr sc d 258 (941, [some (.ref xk), l1, l2, l3], [.ref k0], h) Q = Tr sc d 258 (942, [some (.ref xk), l1, l2, l3], [.ref xk, .ref k0], h) Q := t_aload_n k_258_941 rfl
theorem k_258_942 : lk 258 942 = some (.iload_n 3, 943, 3, 0, .null) := by decide +kernel
theorem x_258_942 : Tr sc d 258 (942, [l0, l1, l2, some (.int x)], [.ref k1, .ref k0], h) Q = Tr sc d 258 (943, [l0, l1, l2, some (.int x)], [.int x, .ref k1, .ref k0], h) Q := t_iload_n k_258_942 rfl
theorem k_258_943 : lk 258 943 = some (.iconst 1, 944, 0, 0, .int 1) := by decide +kernel
theorem x_258_943 : Tr sc d 258 (943, [l0, l1, l2, l3], [.int i2, .ref k1, .ref k0], h) Q = Tr sc d 258 (944, [l0, l1, l2, l3], [.int 1, .int i2, .ref k1, .ref k0], h) Q := t_go k_258_943 rfl
theorem k_258_944 : lk 258 944 = some (.iadd, 945, 0, 0, .null) := by decide +kernel
theorem x_258_944 : Tr sc d 258 (944, [l0, l1, l2, l3], [.int i3, .int i2, .ref k1, .ref k0], h) Q = Tr sc d 258 (945, [l0, l1, l2, l3], [.int (i2 + i3), .ref k1, .ref k0], h) Q := t_go k_258_944 rfl
theorem k_258_945 : lk 258 945 = some (.iaload, 946, 0, 0, .null) := by decide +kernel
theorem x_258_945 : Tr sc d 258 (945, [l0, l1, l2, l3], [.int i2, .ref k1, .ref k0], h) Q = (iOk sc h k1 i2 ∧ Tr sc d 258 (946, [l0, l1, l2, l3], [.int (iRd sc h k1 i2), .ref k0], h) Q) := t_iald k_258_945
theorem k_258_946 : lk 258 946 = some (.aload_n 0, 947, 0, 0, .null) := by decide +kernel
theorem x_258_946 : Tr sc d 258 (946, [some (.ref xk), l1, l2, l3], [.int i1, .ref k0], h) Q = Tr sc d 258 (947, [some (.ref xk), l1, l2, l3], [.ref xk, .int i1, .ref k0], h) Q := t_aload_n k_258_946 rfl
theorem k_258_947 : lk 258 947 = some (.iload_n 3, 948, 3, 0, .null) := by decide +kernel
theorem x_258_947 : Tr sc d 258 (947, [l0, l1, l2, some (.int x)], [.ref k2, .int i1, .ref k0], h) Q = Tr sc d 258 (948, [l0, l1, l2, some (.int x)], [.int x, .ref k2, .int i1, .ref k0], h) Q := t_iload_n k_258_947 rfl
theorem k_258_948 : lk 258 948 = some (.iconst 2, 949, 0, 0, .int 2) := by decide +kernel
theorem x_258_948 : Tr sc d 258 (948, [l0, l1, l2, l3], [.int i3, .ref k2, .int i1, .ref k0], h) Q = Tr sc d 258 (949, [l0, l1, l2, l3], [.int 2, .int i3, .ref k2, .int i1, .ref k0], h) Q := t_go k_258_948 rfl
theorem k_258_949 : lk 258 949 = some (.iadd, 950, 0, 0, .null) := by decide +kernel
theorem x_258_949 : Tr sc d 258 (949, [l0, l1, l2, l3], [.int i4, .int i3, .ref k2, .int i1, .ref k0], h) Q = Tr sc d 258 (950, [l0, l1, l2, l3], [.int (i3 + i4), .ref k2, .int i1, .ref k0], h) Q := t_go k_258_949 rfl
theorem k_258_950 : lk 258 950 = some (.iaload, 951, 0, 0, .null) := by decide +kernel
theorem x_258_950 : Tr sc d 258 (950, [l0, l1, l2, l3], [.int i3, .ref k2, .int i1, .ref k0], h) Q = (iOk sc h k2 i3 ∧ Tr sc d 258 (951, [l0, l1, l2, l3], [.int (iRd sc h k2 i3), .int i1, .ref k0], h) Q) := t_iald k_258_950
theorem k_258_951 : lk 258 951 = some (.invokevirtual 91, 954, 114, 2, .null) := by decide +kernel
theorem x_258_951 : Tr sc (d + 1) 258 (951, [l0, l1, l2, l3], [.int i2, .int i1, .ref k0], h) Q = (okp h k0 9 = true ∧ Tr sc d 114 (ent0 114 [.ref k0, .int i1, .int i2] h) (fun z => Tr sc (d + 1) 258 (954, [l0, l1, l2, l3], z.1.toList ++ [], z.2) Q)) := t_cv (as := [.int i1, .int i2]) (r := []) k_258_951 rfl rfl (Nat.le_of_ble_eq_true rfl) (Nat.le_of_ble_eq_true rfl) (Nat.le_of_ble_eq_true rfl)
theorem k_258_954 : lk 258 954 = some (.aload_n 2, 955, 2, 0, .null) := by decide +kernel
theorem x_258_954 : Tr sc d 258 (954, [l0, l1, some (.ref xk), l3], [.int i0], h) Q = Tr sc d 258 (955, [l0, l1, some (.ref xk), l3], [.ref xk, .int i0], h) Q := t_aload_n k_258_954 rfl
theorem k_258_955 : lk 258 955 = some (.aload_n 0, 956, 0, 0, .null) := by decide +kernel
theorem x_258_955 : Tr sc d 258 (955, [some (.ref xk), l1, l2, l3], [.ref k1, .int i0], h) Q = Tr sc d 258 (956, [some (.ref xk), l1, l2, l3], [.ref xk, .ref k1, .int i0], h) Q := t_aload_n k_258_955 rfl
theorem k_258_956 : lk 258 956 = some (.iload_n 3, 957, 3, 0, .null) := by decide +kernel
theorem x_258_956 : Tr sc d 258 (956, [l0, l1, l2, some (.int x)], [.ref k2, .ref k1, .int i0], h) Q = Tr sc d 258 (957, [l0, l1, l2, some (.int x)], [.int x, .ref k2, .ref k1, .int i0], h) Q := t_iload_n k_258_956 rfl
theorem k_258_957 : lk 258 957 = some (.iconst 1, 958, 0, 0, .int 1) := by decide +kernel
theorem x_258_957 : Tr sc d 258 (957, [l0, l1, l2, l3], [.int i3, .ref k2, .ref k1, .int i0], h) Q = Tr sc d 258 (958, [l0, l1, l2, l3], [.int 1, .int i3, .ref k2, .ref k1, .int i0], h) Q := t_go k_258_957 rfl
theorem k_258_958 : lk 258 958 = some (.iadd, 959, 0, 0, .null) := by decide +kernel
theorem x_258_958 : Tr sc d 258 (958, [l0, l1, l2, l3], [.int i4, .int i3, .ref k2, .ref k1, .int i0], h) Q = Tr sc d 258 (959, [l0, l1, l2, l3], [.int (i3 + i4), .ref k2, .ref k1, .int i0], h) Q := t_go k_258_958 rfl
theorem k_258_959 : lk 258 959 = some (.iaload, 960, 0, 0, .null) := by decide +kernel
theorem x_258_959 : Tr sc d 258 (959, [l0, l1, l2, l3], [.int i3, .ref k2, .ref k1, .int i0], h) Q = (iOk sc h k2 i3 ∧ Tr sc d 258 (960, [l0, l1, l2, l3], [.int (iRd sc h k2 i3), .ref k1, .int i0], h) Q) := t_iald k_258_959
theorem k_258_960 : lk 258 960 = some (.aload_n 0, 961, 0, 0, .null) := by decide +kernel
theorem x_258_960 : Tr sc d 258 (960, [some (.ref xk), l1, l2, l3], [.int i2, .ref k1, .int i0], h) Q = Tr sc d 258 (961, [some (.ref xk), l1, l2, l3], [.ref xk, .int i2, .ref k1, .int i0], h) Q := t_aload_n k_258_960 rfl
theorem k_258_961 : lk 258 961 = some (.iload_n 3, 962, 3, 0, .null) := by decide +kernel
theorem x_258_961 : Tr sc d 258 (961, [l0, l1, l2, some (.int x)], [.ref k3, .int i2, .ref k1, .int i0], h) Q = Tr sc d 258 (962, [l0, l1, l2, some (.int x)], [.int x, .ref k3, .int i2, .ref k1, .int i0], h) Q := t_iload_n k_258_961 rfl
theorem k_258_962 : lk 258 962 = some (.iconst 2, 963, 0, 0, .int 2) := by decide +kernel
theorem x_258_962 : Tr sc d 258 (962, [l0, l1, l2, l3], [.int i4, .ref k3, .int i2, .ref k1, .int i0], h) Q = Tr sc d 258 (963, [l0, l1, l2, l3], [.int 2, .int i4, .ref k3, .int i2, .ref k1, .int i0], h) Q := t_go k_258_962 rfl
theorem k_258_963 : lk 258 963 = some (.iadd, 964, 0, 0, .null) := by decide +kernel
theorem x_258_963 : Tr sc d 258 (963, [l0, l1, l2, l3], [.int i5, .int i4, .ref k3, .int i2, .ref k1, .int i0], h) Q = Tr sc d 258 (964, [l0, l1, l2, l3], [.int (i4 + i5), .ref k3, .int i2, .ref k1, .int i0], h) Q := t_go k_258_963 rfl
theorem k_258_964 : lk 258 964 = some (.iaload, 965, 0, 0, .null) := by decide +kernel
theorem x_258_964 : Tr sc d 258 (964, [l0, l1, l2, l3], [.int i4, .ref k3, .int i2, .ref k1, .int i0], h) Q = (iOk sc h k3 i4 ∧ Tr sc d 258 (965, [l0, l1, l2, l3], [.int (iRd sc h k3 i4), .int i2, .ref k1, .int i0], h) Q) := t_iald k_258_964
theorem k_258_965 : lk 258 965 = some (.invokevirtual 94, 968, 200, 2, .null) := by decide +kernel
theorem x_258_965 : Tr sc (d + 1) 258 (965, [l0, l1, l2, l3], [.int i3, .int i2, .ref k1, .int i0], h) Q = (okp h k1 10 = true ∧ Tr sc d 200 (ent0 200 [.ref k1, .int i2, .int i3] h) (fun z => Tr sc (d + 1) 258 (968, [l0, l1, l2, l3], z.1.toList ++ [.int i0], z.2) Q)) := t_cv (as := [.int i2, .int i3]) (r := [.int i0]) k_258_965 rfl rfl (Nat.le_of_ble_eq_true rfl) (Nat.le_of_ble_eq_true rfl) (Nat.le_of_ble_eq_true rfl)
theorem k_258_968 : lk 258 968 = some (.if_icmp .eq 780, 971, 1748, 0, .null) := by decide +kernel
theorem x_258_968 : Tr sc d 258 (968, [l0, l1, l2, l3], [.int i1, .int i0], h) Q = if i0 = i1 then Tr sc d 258 (1748, [l0, l1, l2, l3], [], h) Q else Tr sc d 258 (971, [l0, l1, l2, l3], [], h) Q := t_if k_258_968 rfl
theorem k_258_971 : lk 258 971 = some (.iconst 0, 972, 0, 0, .int 0) := by decide +kernel
theorem x_258_971 : Tr sc d 258 (971, [l0, l1, l2, l3], [], h) Q = Tr sc d 258 (972, [l0, l1, l2, l3], [.int 0], h) Q := t_go k_258_971 rfl
theorem k_258_972 : lk 258 972 = some (.ireturn, 973, 0, 0, .null) := by decide +kernel
theorem x_258_972 : Tr sc d 258 (972, [l0, l1, l2, l3], [.int i0], h) Q = (vp_nar .boolean i0 = i0 ∧ Q (some (.int i0), h)) := t_zret k_258_972 r_258
theorem k_258_973 : lk 258 973 = some (.aload_n 1, 974, 1, 0, .null) := by decide +kernel
theorem x_258_973 : Tr sc d 258 (973, [l0, some (.ref xk), l2, l3], [], h) Q = Tr sc d 258 (974, [l0, some (.ref xk), l2, l3], [.ref xk], h) Q := t_aload_n k_258_973 rfl
theorem k_258_974 : lk 258 974 = some (.aload_n 0, 975, 0, 0, .null) := by decide +kernel
theorem x_258_974 : Tr sc d 258 (974, [some (.ref xk), l1, l2, l3], [.ref k0], h) Q = Tr sc d 258 (975, [some (.ref xk), l1, l2, l3], [.ref xk, .ref k0], h) Q := t_aload_n k_258_974 rfl
theorem k_258_975 : lk 258 975 = some (.iload_n 3, 976, 3, 0, .null) := by decide +kernel
theorem x_258_975 : Tr sc d 258 (975, [l0, l1, l2, some (.int x)], [.ref k1, .ref k0], h) Q = Tr sc d 258 (976, [l0, l1, l2, some (.int x)], [.int x, .ref k1, .ref k0], h) Q := t_iload_n k_258_975 rfl
theorem k_258_976 : lk 258 976 = some (.iconst 1, 977, 0, 0, .int 1) := by decide +kernel
theorem x_258_976 : Tr sc d 258 (976, [l0, l1, l2, l3], [.int i2, .ref k1, .ref k0], h) Q = Tr sc d 258 (977, [l0, l1, l2, l3], [.int 1, .int i2, .ref k1, .ref k0], h) Q := t_go k_258_976 rfl
theorem k_258_977 : lk 258 977 = some (.iadd, 978, 0, 0, .null) := by decide +kernel
theorem x_258_977 : Tr sc d 258 (977, [l0, l1, l2, l3], [.int i3, .int i2, .ref k1, .ref k0], h) Q = Tr sc d 258 (978, [l0, l1, l2, l3], [.int (i2 + i3), .ref k1, .ref k0], h) Q := t_go k_258_977 rfl
theorem k_258_978 : lk 258 978 = some (.iaload, 979, 0, 0, .null) := by decide +kernel
theorem x_258_978 : Tr sc d 258 (978, [l0, l1, l2, l3], [.int i2, .ref k1, .ref k0], h) Q = (iOk sc h k1 i2 ∧ Tr sc d 258 (979, [l0, l1, l2, l3], [.int (iRd sc h k1 i2), .ref k0], h) Q) := t_iald k_258_978
theorem k_258_979 : lk 258 979 = some (.aload_n 0, 980, 0, 0, .null) := by decide +kernel
theorem x_258_979 : Tr sc d 258 (979, [some (.ref xk), l1, l2, l3], [.int i1, .ref k0], h) Q = Tr sc d 258 (980, [some (.ref xk), l1, l2, l3], [.ref xk, .int i1, .ref k0], h) Q := t_aload_n k_258_979 rfl
theorem k_258_980 : lk 258 980 = some (.iload_n 3, 981, 3, 0, .null) := by decide +kernel
theorem x_258_980 : Tr sc d 258 (980, [l0, l1, l2, some (.int x)], [.ref k2, .int i1, .ref k0], h) Q = Tr sc d 258 (981, [l0, l1, l2, some (.int x)], [.int x, .ref k2, .int i1, .ref k0], h) Q := t_iload_n k_258_980 rfl
theorem k_258_981 : lk 258 981 = some (.iconst 2, 982, 0, 0, .int 2) := by decide +kernel
theorem x_258_981 : Tr sc d 258 (981, [l0, l1, l2, l3], [.int i3, .ref k2, .int i1, .ref k0], h) Q = Tr sc d 258 (982, [l0, l1, l2, l3], [.int 2, .int i3, .ref k2, .int i1, .ref k0], h) Q := t_go k_258_981 rfl
theorem k_258_982 : lk 258 982 = some (.iadd, 983, 0, 0, .null) := by decide +kernel
theorem x_258_982 : Tr sc d 258 (982, [l0, l1, l2, l3], [.int i4, .int i3, .ref k2, .int i1, .ref k0], h) Q = Tr sc d 258 (983, [l0, l1, l2, l3], [.int (i3 + i4), .ref k2, .int i1, .ref k0], h) Q := t_go k_258_982 rfl
theorem k_258_983 : lk 258 983 = some (.iaload, 984, 0, 0, .null) := by decide +kernel
theorem x_258_983 : Tr sc d 258 (983, [l0, l1, l2, l3], [.int i3, .ref k2, .int i1, .ref k0], h) Q = (iOk sc h k2 i3 ∧ Tr sc d 258 (984, [l0, l1, l2, l3], [.int (iRd sc h k2 i3), .int i1, .ref k0], h) Q) := t_iald k_258_983
theorem k_258_984 : lk 258 984 = some (.invokevirtual 95, 987, 115, 2, .null) := by decide +kernel
theorem x_258_984 : Tr sc (d + 1) 258 (984, [l0, l1, l2, l3], [.int i2, .int i1, .ref k0], h) Q = (okp h k0 9 = true ∧ Tr sc d 115 (ent0 115 [.ref k0, .int i1, .int i2] h) (fun z => Tr sc (d + 1) 258 (987, [l0, l1, l2, l3], z.1.toList ++ [], z.2) Q)) := t_cv (as := [.int i1, .int i2]) (r := []) k_258_984 rfl rfl (Nat.le_of_ble_eq_true rfl) (Nat.le_of_ble_eq_true rfl) (Nat.le_of_ble_eq_true rfl)
theorem k_258_987 : lk 258 987 = some (.aload_n 2, 988, 2, 0, .null) := by decide +kernel
theorem x_258_987 : Tr sc d 258 (987, [l0, l1, some (.ref xk), l3], [.int i0], h) Q = Tr sc d 258 (988, [l0, l1, some (.ref xk), l3], [.ref xk, .int i0], h) Q := t_aload_n k_258_987 rfl
theorem k_258_988 : lk 258 988 = some (.aload_n 0, 989, 0, 0, .null) := by decide +kernel
theorem x_258_988 : Tr sc d 258 (988, [some (.ref xk), l1, l2, l3], [.ref k1, .int i0], h) Q = Tr sc d 258 (989, [some (.ref xk), l1, l2, l3], [.ref xk, .ref k1, .int i0], h) Q := t_aload_n k_258_988 rfl
theorem k_258_989 : lk 258 989 = some (.iload_n 3, 990, 3, 0, .null) := by decide +kernel
theorem x_258_989 : Tr sc d 258 (989, [l0, l1, l2, some (.int x)], [.ref k2, .ref k1, .int i0], h) Q = Tr sc d 258 (990, [l0, l1, l2, some (.int x)], [.int x, .ref k2, .ref k1, .int i0], h) Q := t_iload_n k_258_989 rfl
theorem k_258_990 : lk 258 990 = some (.iconst 1, 991, 0, 0, .int 1) := by decide +kernel
theorem x_258_990 : Tr sc d 258 (990, [l0, l1, l2, l3], [.int i3, .ref k2, .ref k1, .int i0], h) Q = Tr sc d 258 (991, [l0, l1, l2, l3], [.int 1, .int i3, .ref k2, .ref k1, .int i0], h) Q := t_go k_258_990 rfl
theorem k_258_991 : lk 258 991 = some (.iadd, 992, 0, 0, .null) := by decide +kernel
theorem x_258_991 : Tr sc d 258 (991, [l0, l1, l2, l3], [.int i4, .int i3, .ref k2, .ref k1, .int i0], h) Q = Tr sc d 258 (992, [l0, l1, l2, l3], [.int (i3 + i4), .ref k2, .ref k1, .int i0], h) Q := t_go k_258_991 rfl
theorem k_258_992 : lk 258 992 = some (.iaload, 993, 0, 0, .null) := by decide +kernel
theorem x_258_992 : Tr sc d 258 (992, [l0, l1, l2, l3], [.int i3, .ref k2, .ref k1, .int i0], h) Q = (iOk sc h k2 i3 ∧ Tr sc d 258 (993, [l0, l1, l2, l3], [.int (iRd sc h k2 i3), .ref k1, .int i0], h) Q) := t_iald k_258_992
theorem k_258_993 : lk 258 993 = some (.aload_n 0, 994, 0, 0, .null) := by decide +kernel
theorem x_258_993 : Tr sc d 258 (993, [some (.ref xk), l1, l2, l3], [.int i2, .ref k1, .int i0], h) Q = Tr sc d 258 (994, [some (.ref xk), l1, l2, l3], [.ref xk, .int i2, .ref k1, .int i0], h) Q := t_aload_n k_258_993 rfl
theorem k_258_994 : lk 258 994 = some (.iload_n 3, 995, 3, 0, .null) := by decide +kernel
theorem x_258_994 : Tr sc d 258 (994, [l0, l1, l2, some (.int x)], [.ref k3, .int i2, .ref k1, .int i0], h) Q = Tr sc d 258 (995, [l0, l1, l2, some (.int x)], [.int x, .ref k3, .int i2, .ref k1, .int i0], h) Q := t_iload_n k_258_994 rfl
theorem k_258_995 : lk 258 995 = some (.iconst 2, 996, 0, 0, .int 2) := by decide +kernel
theorem x_258_995 : Tr sc d 258 (995, [l0, l1, l2, l3], [.int i4, .ref k3, .int i2, .ref k1, .int i0], h) Q = Tr sc d 258 (996, [l0, l1, l2, l3], [.int 2, .int i4, .ref k3, .int i2, .ref k1, .int i0], h) Q := t_go k_258_995 rfl
theorem k_258_996 : lk 258 996 = some (.iadd, 997, 0, 0, .null) := by decide +kernel
theorem x_258_996 : Tr sc d 258 (996, [l0, l1, l2, l3], [.int i5, .int i4, .ref k3, .int i2, .ref k1, .int i0], h) Q = Tr sc d 258 (997, [l0, l1, l2, l3], [.int (i4 + i5), .ref k3, .int i2, .ref k1, .int i0], h) Q := t_go k_258_996 rfl
theorem k_258_997 : lk 258 997 = some (.iaload, 998, 0, 0, .null) := by decide +kernel
theorem x_258_997 : Tr sc d 258 (997, [l0, l1, l2, l3], [.int i4, .ref k3, .int i2, .ref k1, .int i0], h) Q = (iOk sc h k3 i4 ∧ Tr sc d 258 (998, [l0, l1, l2, l3], [.int (iRd sc h k3 i4), .int i2, .ref k1, .int i0], h) Q) := t_iald k_258_997
theorem k_258_998 : lk 258 998 = some (.invokevirtual 98, 1001, 206, 2, .null) := by decide +kernel
theorem x_258_998 : Tr sc (d + 1) 258 (998, [l0, l1, l2, l3], [.int i3, .int i2, .ref k1, .int i0], h) Q = (okp h k1 10 = true ∧ Tr sc d 206 (ent0 206 [.ref k1, .int i2, .int i3] h) (fun z => Tr sc (d + 1) 258 (1001, [l0, l1, l2, l3], z.1.toList ++ [.int i0], z.2) Q)) := t_cv (as := [.int i2, .int i3]) (r := [.int i0]) k_258_998 rfl rfl (Nat.le_of_ble_eq_true rfl) (Nat.le_of_ble_eq_true rfl) (Nat.le_of_ble_eq_true rfl)
theorem k_258_1001 : lk 258 1001 = some (.if_icmp .eq 747, 1004, 1748, 0, .null) := by decide +kernel
theorem x_258_1001 : Tr sc d 258 (1001, [l0, l1, l2, l3], [.int i1, .int i0], h) Q = if i0 = i1 then Tr sc d 258 (1748, [l0, l1, l2, l3], [], h) Q else Tr sc d 258 (1004, [l0, l1, l2, l3], [], h) Q := t_if k_258_1001 rfl
theorem k_258_1004 : lk 258 1004 = some (.iconst 0, 1005, 0, 0, .int 0) := by decide +kernel
theorem x_258_1004 : Tr sc d 258 (1004, [l0, l1, l2, l3], [], h) Q = Tr sc d 258 (1005, [l0, l1, l2, l3], [.int 0], h) Q := t_go k_258_1004 rfl
theorem k_258_1005 : lk 258 1005 = some (.ireturn, 1006, 0, 0, .null) := by decide +kernel
theorem x_258_1005 : Tr sc d 258 (1005, [l0, l1, l2, l3], [.int i0], h) Q = (vp_nar .boolean i0 = i0 ∧ Q (some (.int i0), h)) := t_zret k_258_1005 r_258
theorem k_258_1006 : lk 258 1006 = some (.aload_n 1, 1007, 1, 0, .null) := by decide +kernel
theorem x_258_1006 : Tr sc d 258 (1006, [l0, some (.ref xk), l2, l3], [], h) Q = Tr sc d 258 (1007, [l0, some (.ref xk), l2, l3], [.ref xk], h) Q := t_aload_n k_258_1006 rfl
theorem k_258_1007 : lk 258 1007 = some (.aload_n 0, 1008, 0, 0, .null) := by decide +kernel
theorem x_258_1007 : Tr sc d 258 (1007, [some (.ref xk), l1, l2, l3], [.ref k0], h) Q = Tr sc d 258 (1008, [some (.ref xk), l1, l2, l3], [.ref xk, .ref k0], h) Q := t_aload_n k_258_1007 rfl
theorem k_258_1008 : lk 258 1008 = some (.iload_n 3, 1009, 3, 0, .null) := by decide +kernel
theorem x_258_1008 : Tr sc d 258 (1008, [l0, l1, l2, some (.int x)], [.ref k1, .ref k0], h) Q = Tr sc d 258 (1009, [l0, l1, l2, some (.int x)], [.int x, .ref k1, .ref k0], h) Q := t_iload_n k_258_1008 rfl
theorem k_258_1009 : lk 258 1009 = some (.iconst 1, 1010, 0, 0, .int 1) := by decide +kernel
theorem x_258_1009 : Tr sc d 258 (1009, [l0, l1, l2, l3], [.int i2, .ref k1, .ref k0], h) Q = Tr sc d 258 (1010, [l0, l1, l2, l3], [.int 1, .int i2, .ref k1, .ref k0], h) Q := t_go k_258_1009 rfl
theorem k_258_1010 : lk 258 1010 = some (.iadd, 1011, 0, 0, .null) := by decide +kernel
theorem x_258_1010 : Tr sc d 258 (1010, [l0, l1, l2, l3], [.int i3, .int i2, .ref k1, .ref k0], h) Q = Tr sc d 258 (1011, [l0, l1, l2, l3], [.int (i2 + i3), .ref k1, .ref k0], h) Q := t_go k_258_1010 rfl
theorem k_258_1011 : lk 258 1011 = some (.iaload, 1012, 0, 0, .null) := by decide +kernel
theorem x_258_1011 : Tr sc d 258 (1011, [l0, l1, l2, l3], [.int i2, .ref k1, .ref k0], h) Q = (iOk sc h k1 i2 ∧ Tr sc d 258 (1012, [l0, l1, l2, l3], [.int (iRd sc h k1 i2), .ref k0], h) Q) := t_iald k_258_1011
theorem k_258_1012 : lk 258 1012 = some (.aload_n 0, 1013, 0, 0, .null) := by decide +kernel
theorem x_258_1012 : Tr sc d 258 (1012, [some (.ref xk), l1, l2, l3], [.int i1, .ref k0], h) Q = Tr sc d 258 (1013, [some (.ref xk), l1, l2, l3], [.ref xk, .int i1, .ref k0], h) Q := t_aload_n k_258_1012 rfl
theorem k_258_1013 : lk 258 1013 = some (.iload_n 3, 1014, 3, 0, .null) := by decide +kernel
theorem x_258_1013 : Tr sc d 258 (1013, [l0, l1, l2, some (.int x)], [.ref k2, .int i1, .ref k0], h) Q = Tr sc d 258 (1014, [l0, l1, l2, some (.int x)], [.int x, .ref k2, .int i1, .ref k0], h) Q := t_iload_n k_258_1013 rfl
theorem k_258_1014 : lk 258 1014 = some (.iconst 2, 1015, 0, 0, .int 2) := by decide +kernel
theorem x_258_1014 : Tr sc d 258 (1014, [l0, l1, l2, l3], [.int i3, .ref k2, .int i1, .ref k0], h) Q = Tr sc d 258 (1015, [l0, l1, l2, l3], [.int 2, .int i3, .ref k2, .int i1, .ref k0], h) Q := t_go k_258_1014 rfl
theorem k_258_1015 : lk 258 1015 = some (.iadd, 1016, 0, 0, .null) := by decide +kernel
theorem x_258_1015 : Tr sc d 258 (1015, [l0, l1, l2, l3], [.int i4, .int i3, .ref k2, .int i1, .ref k0], h) Q = Tr sc d 258 (1016, [l0, l1, l2, l3], [.int (i3 + i4), .ref k2, .int i1, .ref k0], h) Q := t_go k_258_1015 rfl
theorem k_258_1016 : lk 258 1016 = some (.iaload, 1017, 0, 0, .null) := by decide +kernel
theorem x_258_1016 : Tr sc d 258 (1016, [l0, l1, l2, l3], [.int i3, .ref k2, .int i1, .ref k0], h) Q = (iOk sc h k2 i3 ∧ Tr sc d 258 (1017, [l0, l1, l2, l3], [.int (iRd sc h k2 i3), .int i1, .ref k0], h) Q) := t_iald k_258_1016
theorem k_258_1017 : lk 258 1017 = some (.aload_n 0, 1018, 0, 0, .null) := by decide +kernel
theorem x_258_1017 : Tr sc d 258 (1017, [some (.ref xk), l1, l2, l3], [.int i2, .int i1, .ref k0], h) Q = Tr sc d 258 (1018, [some (.ref xk), l1, l2, l3], [.ref xk, .int i2, .int i1, .ref k0], h) Q := t_aload_n k_258_1017 rfl
theorem k_258_1018 : lk 258 1018 = some (.iload_n 3, 1019, 3, 0, .null) := by decide +kernel
theorem x_258_1018 : Tr sc d 258 (1018, [l0, l1, l2, some (.int x)], [.ref k3, .int i2, .int i1, .ref k0], h) Q = Tr sc d 258 (1019, [l0, l1, l2, some (.int x)], [.int x, .ref k3, .int i2, .int i1, .ref k0], h) Q := t_iload_n k_258_1018 rfl
theorem k_258_1019 : lk 258 1019 = some (.iconst 3, 1020, 0, 0, .int 3) := by decide +kernel
theorem x_258_1019 : Tr sc d 258 (1019, [l0, l1, l2, l3], [.int i4, .ref k3, .int i2, .int i1, .ref k0], h) Q = Tr sc d 258 (1020, [l0, l1, l2, l3], [.int 3, .int i4, .ref k3, .int i2, .int i1, .ref k0], h) Q := t_go k_258_1019 rfl
theorem k_258_1020 : lk 258 1020 = some (.iadd, 1021, 0, 0, .null) := by decide +kernel
theorem x_258_1020 : Tr sc d 258 (1020, [l0, l1, l2, l3], [.int i5, .int i4, .ref k3, .int i2, .int i1, .ref k0], h) Q = Tr sc d 258 (1021, [l0, l1, l2, l3], [.int (i4 + i5), .ref k3, .int i2, .int i1, .ref k0], h) Q := t_go k_258_1020 rfl
theorem k_258_1021 : lk 258 1021 = some (.iaload, 1022, 0, 0, .null) := by decide +kernel
theorem x_258_1021 : Tr sc d 258 (1021, [l0, l1, l2, l3], [.int i4, .ref k3, .int i2, .int i1, .ref k0], h) Q = (iOk sc h k3 i4 ∧ Tr sc d 258 (1022, [l0, l1, l2, l3], [.int (iRd sc h k3 i4), .int i2, .int i1, .ref k0], h) Q) := t_iald k_258_1021
theorem k_258_1022 : lk 258 1022 = some (.aload_n 0, 1023, 0, 0, .null) := by decide +kernel
theorem x_258_1022 : Tr sc d 258 (1022, [some (.ref xk), l1, l2, l3], [.int i3, .int i2, .int i1, .ref k0], h) Q = Tr sc d 258 (1023, [some (.ref xk), l1, l2, l3], [.ref xk, .int i3, .int i2, .int i1, .ref k0], h) Q := t_aload_n k_258_1022 rfl
theorem k_258_1023 : lk 258 1023 = some (.iload_n 3, 1024, 3, 0, .null) := by decide +kernel
theorem x_258_1023 : Tr sc d 258 (1023, [l0, l1, l2, some (.int x)], [.ref k4, .int i3, .int i2, .int i1, .ref k0], h) Q = Tr sc d 258 (1024, [l0, l1, l2, some (.int x)], [.int x, .ref k4, .int i3, .int i2, .int i1, .ref k0], h) Q := t_iload_n k_258_1023 rfl
theorem k_258_1024 : lk 258 1024 = some (.iconst 4, 1025, 0, 0, .int 4) := by decide +kernel
theorem x_258_1024 : Tr sc d 258 (1024, [l0, l1, l2, l3], [.int i5, .ref k4, .int i3, .int i2, .int i1, .ref k0], h) Q = Tr sc d 258 (1025, [l0, l1, l2, l3], [.int 4, .int i5, .ref k4, .int i3, .int i2, .int i1, .ref k0], h) Q := t_go k_258_1024 rfl
theorem k_258_1025 : lk 258 1025 = some (.iadd, 1026, 0, 0, .null) := by decide +kernel
theorem x_258_1025 : Tr sc d 258 (1025, [l0, l1, l2, l3], [.int i6, .int i5, .ref k4, .int i3, .int i2, .int i1, .ref k0], h) Q = Tr sc d 258 (1026, [l0, l1, l2, l3], [.int (i5 + i6), .ref k4, .int i3, .int i2, .int i1, .ref k0], h) Q := t_go k_258_1025 rfl
theorem k_258_1026 : lk 258 1026 = some (.iaload, 1027, 0, 0, .null) := by decide +kernel
theorem x_258_1026 : Tr sc d 258 (1026, [l0, l1, l2, l3], [.int i5, .ref k4, .int i3, .int i2, .int i1, .ref k0], h) Q = (iOk sc h k4 i5 ∧ Tr sc d 258 (1027, [l0, l1, l2, l3], [.int (iRd sc h k4 i5), .int i3, .int i2, .int i1, .ref k0], h) Q) := t_iald k_258_1026
theorem k_258_1027 : lk 258 1027 = some (.invokevirtual 99, 1030, 116, 4, .null) := by decide +kernel
theorem x_258_1027 : Tr sc (d + 1) 258 (1027, [l0, l1, l2, l3], [.int i4, .int i3, .int i2, .int i1, .ref k0], h) Q = (okp h k0 9 = true ∧ Tr sc d 116 (ent0 116 [.ref k0, .int i1, .int i2, .int i3, .int i4] h) (fun z => Tr sc (d + 1) 258 (1030, [l0, l1, l2, l3], z.1.toList ++ [], z.2) Q)) := t_cv (as := [.int i1, .int i2, .int i3, .int i4]) (r := []) k_258_1027 rfl rfl (Nat.le_of_ble_eq_true rfl) (Nat.le_of_ble_eq_true rfl) (Nat.le_of_ble_eq_true rfl)
theorem k_258_1030 : lk 258 1030 = some (.aload_n 2, 1031, 2, 0, .null) := by decide +kernel
theorem x_258_1030 : Tr sc d 258 (1030, [l0, l1, some (.ref xk), l3], [.int i0], h) Q = Tr sc d 258 (1031, [l0, l1, some (.ref xk), l3], [.ref xk, .int i0], h) Q := t_aload_n k_258_1030 rfl
theorem k_258_1031 : lk 258 1031 = some (.aload_n 0, 1032, 0, 0, .null) := by decide +kernel
theorem x_258_1031 : Tr sc d 258 (1031, [some (.ref xk), l1, l2, l3], [.ref k1, .int i0], h) Q = Tr sc d 258 (1032, [some (.ref xk), l1, l2, l3], [.ref xk, .ref k1, .int i0], h) Q := t_aload_n k_258_1031 rfl
theorem k_258_1032 : lk 258 1032 = some (.iload_n 3, 1033, 3, 0, .null) := by decide +kernel
theorem x_258_1032 : Tr sc d 258 (1032, [l0, l1, l2, some (.int x)], [.ref k2, .ref k1, .int i0], h) Q = Tr sc d 258 (1033, [l0, l1, l2, some (.int x)], [.int x, .ref k2, .ref k1, .int i0], h) Q := t_iload_n k_258_1032 rfl
theorem k_258_1033 : lk 258 1033 = some (.iconst 1, 1034, 0, 0, .int 1) := by decide +kernel
theorem x_258_1033 : Tr sc d 258 (1033, [l0, l1, l2, l3], [.int i3, .ref k2, .ref k1, .int i0], h) Q = Tr sc d 258 (1034, [l0, l1, l2, l3], [.int 1, .int i3, .ref k2, .ref k1, .int i0], h) Q := t_go k_258_1033 rfl
theorem k_258_1034 : lk 258 1034 = some (.iadd, 1035, 0, 0, .null) := by decide +kernel
theorem x_258_1034 : Tr sc d 258 (1034, [l0, l1, l2, l3], [.int i4, .int i3, .ref k2, .ref k1, .int i0], h) Q = Tr sc d 258 (1035, [l0, l1, l2, l3], [.int (i3 + i4), .ref k2, .ref k1, .int i0], h) Q := t_go k_258_1034 rfl
theorem k_258_1035 : lk 258 1035 = some (.iaload, 1036, 0, 0, .null) := by decide +kernel
theorem x_258_1035 : Tr sc d 258 (1035, [l0, l1, l2, l3], [.int i3, .ref k2, .ref k1, .int i0], h) Q = (iOk sc h k2 i3 ∧ Tr sc d 258 (1036, [l0, l1, l2, l3], [.int (iRd sc h k2 i3), .ref k1, .int i0], h) Q) := t_iald k_258_1035
theorem k_258_1036 : lk 258 1036 = some (.aload_n 0, 1037, 0, 0, .null) := by decide +kernel
theorem x_258_1036 : Tr sc d 258 (1036, [some (.ref xk), l1, l2, l3], [.int i2, .ref k1, .int i0], h) Q = Tr sc d 258 (1037, [some (.ref xk), l1, l2, l3], [.ref xk, .int i2, .ref k1, .int i0], h) Q := t_aload_n k_258_1036 rfl
theorem k_258_1037 : lk 258 1037 = some (.iload_n 3, 1038, 3, 0, .null) := by decide +kernel
theorem x_258_1037 : Tr sc d 258 (1037, [l0, l1, l2, some (.int x)], [.ref k3, .int i2, .ref k1, .int i0], h) Q = Tr sc d 258 (1038, [l0, l1, l2, some (.int x)], [.int x, .ref k3, .int i2, .ref k1, .int i0], h) Q := t_iload_n k_258_1037 rfl
theorem k_258_1038 : lk 258 1038 = some (.iconst 2, 1039, 0, 0, .int 2) := by decide +kernel
theorem x_258_1038 : Tr sc d 258 (1038, [l0, l1, l2, l3], [.int i4, .ref k3, .int i2, .ref k1, .int i0], h) Q = Tr sc d 258 (1039, [l0, l1, l2, l3], [.int 2, .int i4, .ref k3, .int i2, .ref k1, .int i0], h) Q := t_go k_258_1038 rfl
theorem k_258_1039 : lk 258 1039 = some (.iadd, 1040, 0, 0, .null) := by decide +kernel
theorem x_258_1039 : Tr sc d 258 (1039, [l0, l1, l2, l3], [.int i5, .int i4, .ref k3, .int i2, .ref k1, .int i0], h) Q = Tr sc d 258 (1040, [l0, l1, l2, l3], [.int (i4 + i5), .ref k3, .int i2, .ref k1, .int i0], h) Q := t_go k_258_1039 rfl
theorem k_258_1040 : lk 258 1040 = some (.iaload, 1041, 0, 0, .null) := by decide +kernel
theorem x_258_1040 : Tr sc d 258 (1040, [l0, l1, l2, l3], [.int i4, .ref k3, .int i2, .ref k1, .int i0], h) Q = (iOk sc h k3 i4 ∧ Tr sc d 258 (1041, [l0, l1, l2, l3], [.int (iRd sc h k3 i4), .int i2, .ref k1, .int i0], h) Q) := t_iald k_258_1040
theorem k_258_1041 : lk 258 1041 = some (.aload_n 0, 1042, 0, 0, .null) := by decide +kernel
theorem x_258_1041 : Tr sc d 258 (1041, [some (.ref xk), l1, l2, l3], [.int i3, .int i2, .ref k1, .int i0], h) Q = Tr sc d 258 (1042, [some (.ref xk), l1, l2, l3], [.ref xk, .int i3, .int i2, .ref k1, .int i0], h) Q := t_aload_n k_258_1041 rfl
theorem k_258_1042 : lk 258 1042 = some (.iload_n 3, 1043, 3, 0, .null) := by decide +kernel
theorem x_258_1042 : Tr sc d 258 (1042, [l0, l1, l2, some (.int x)], [.ref k4, .int i3, .int i2, .ref k1, .int i0], h) Q = Tr sc d 258 (1043, [l0, l1, l2, some (.int x)], [.int x, .ref k4, .int i3, .int i2, .ref k1, .int i0], h) Q := t_iload_n k_258_1042 rfl
theorem k_258_1043 : lk 258 1043 = some (.iconst 3, 1044, 0, 0, .int 3) := by decide +kernel
theorem x_258_1043 : Tr sc d 258 (1043, [l0, l1, l2, l3], [.int i5, .ref k4, .int i3, .int i2, .ref k1, .int i0], h) Q = Tr sc d 258 (1044, [l0, l1, l2, l3], [.int 3, .int i5, .ref k4, .int i3, .int i2, .ref k1, .int i0], h) Q := t_go k_258_1043 rfl
theorem k_258_1044 : lk 258 1044 = some (.iadd, 1045, 0, 0, .null) := by decide +kernel
theorem x_258_1044 : Tr sc d 258 (1044, [l0, l1, l2, l3], [.int i6, .int i5, .ref k4, .int i3, .int i2, .ref k1, .int i0], h) Q = Tr sc d 258 (1045, [l0, l1, l2, l3], [.int (i5 + i6), .ref k4, .int i3, .int i2, .ref k1, .int i0], h) Q := t_go k_258_1044 rfl
theorem k_258_1045 : lk 258 1045 = some (.iaload, 1046, 0, 0, .null) := by decide +kernel
theorem x_258_1045 : Tr sc d 258 (1045, [l0, l1, l2, l3], [.int i5, .ref k4, .int i3, .int i2, .ref k1, .int i0], h) Q = (iOk sc h k4 i5 ∧ Tr sc d 258 (1046, [l0, l1, l2, l3], [.int (iRd sc h k4 i5), .int i3, .int i2, .ref k1, .int i0], h) Q) := t_iald k_258_1045
theorem k_258_1046 : lk 258 1046 = some (.aload_n 0, 1047, 0, 0, .null) := by decide +kernel
theorem x_258_1046 : Tr sc d 258 (1046, [some (.ref xk), l1, l2, l3], [.int i4, .int i3, .int i2, .ref k1, .int i0], h) Q = Tr sc d 258 (1047, [some (.ref xk), l1, l2, l3], [.ref xk, .int i4, .int i3, .int i2, .ref k1, .int i0], h) Q := t_aload_n k_258_1046 rfl
theorem k_258_1047 : lk 258 1047 = some (.iload_n 3, 1048, 3, 0, .null) := by decide +kernel
theorem x_258_1047 : Tr sc d 258 (1047, [l0, l1, l2, some (.int x)], [.ref k5, .int i4, .int i3, .int i2, .ref k1, .int i0], h) Q = Tr sc d 258 (1048, [l0, l1, l2, some (.int x)], [.int x, .ref k5, .int i4, .int i3, .int i2, .ref k1, .int i0], h) Q := t_iload_n k_258_1047 rfl
theorem k_258_1048 : lk 258 1048 = some (.iconst 4, 1049, 0, 0, .int 4) := by decide +kernel
theorem x_258_1048 : Tr sc d 258 (1048, [l0, l1, l2, l3], [.int i6, .ref k5, .int i4, .int i3, .int i2, .ref k1, .int i0], h) Q = Tr sc d 258 (1049, [l0, l1, l2, l3], [.int 4, .int i6, .ref k5, .int i4, .int i3, .int i2, .ref k1, .int i0], h) Q := t_go k_258_1048 rfl
theorem k_258_1049 : lk 258 1049 = some (.iadd, 1050, 0, 0, .null) := by decide +kernel
theorem x_258_1049 : Tr sc d 258 (1049, [l0, l1, l2, l3], [.int i7, .int i6, .ref k5, .int i4, .int i3, .int i2, .ref k1, .int i0], h) Q = Tr sc d 258 (1050, [l0, l1, l2, l3], [.int (i6 + i7), .ref k5, .int i4, .int i3, .int i2, .ref k1, .int i0], h) Q := t_go k_258_1049 rfl
theorem k_258_1050 : lk 258 1050 = some (.iaload, 1051, 0, 0, .null) := by decide +kernel
theorem x_258_1050 : Tr sc d 258 (1050, [l0, l1, l2, l3], [.int i6, .ref k5, .int i4, .int i3, .int i2, .ref k1, .int i0], h) Q = (iOk sc h k5 i6 ∧ Tr sc d 258 (1051, [l0, l1, l2, l3], [.int (iRd sc h k5 i6), .int i4, .int i3, .int i2, .ref k1, .int i0], h) Q) := t_iald k_258_1050
theorem k_258_1051 : lk 258 1051 = some (.invokevirtual 103, 1054, 207, 4, .null) := by decide +kernel
theorem x_258_1051 : Tr sc (d + 1) 258 (1051, [l0, l1, l2, l3], [.int i5, .int i4, .int i3, .int i2, .ref k1, .int i0], h) Q = (okp h k1 10 = true ∧ Tr sc d 207 (ent0 207 [.ref k1, .int i2, .int i3, .int i4, .int i5] h) (fun z => Tr sc (d + 1) 258 (1054, [l0, l1, l2, l3], z.1.toList ++ [.int i0], z.2) Q)) := t_cv (as := [.int i2, .int i3, .int i4, .int i5]) (r := [.int i0]) k_258_1051 rfl rfl (Nat.le_of_ble_eq_true rfl) (Nat.le_of_ble_eq_true rfl) (Nat.le_of_ble_eq_true rfl)
theorem k_258_1054 : lk 258 1054 = some (.if_icmp .eq 694, 1057, 1748, 0, .null) := by decide +kernel
theorem x_258_1054 : Tr sc d 258 (1054, [l0, l1, l2, l3], [.int i1, .int i0], h) Q = if i0 = i1 then Tr sc d 258 (1748, [l0, l1, l2, l3], [], h) Q else Tr sc d 258 (1057, [l0, l1, l2, l3], [], h) Q := t_if k_258_1054 rfl
theorem k_258_1057 : lk 258 1057 = some (.iconst 0, 1058, 0, 0, .int 0) := by decide +kernel
theorem x_258_1057 : Tr sc d 258 (1057, [l0, l1, l2, l3], [], h) Q = Tr sc d 258 (1058, [l0, l1, l2, l3], [.int 0], h) Q := t_go k_258_1057 rfl
theorem k_258_1058 : lk 258 1058 = some (.ireturn, 1059, 0, 0, .null) := by decide +kernel
theorem x_258_1058 : Tr sc d 258 (1058, [l0, l1, l2, l3], [.int i0], h) Q = (vp_nar .boolean i0 = i0 ∧ Q (some (.int i0), h)) := t_zret k_258_1058 r_258
theorem k_258_1059 : lk 258 1059 = some (.aload_n 1, 1060, 1, 0, .null) := by decide +kernel
theorem x_258_1059 : Tr sc d 258 (1059, [l0, some (.ref xk), l2, l3], [], h) Q = Tr sc d 258 (1060, [l0, some (.ref xk), l2, l3], [.ref xk], h) Q := t_aload_n k_258_1059 rfl
theorem k_258_1060 : lk 258 1060 = some (.aload_n 0, 1061, 0, 0, .null) := by decide +kernel
theorem x_258_1060 : Tr sc d 258 (1060, [some (.ref xk), l1, l2, l3], [.ref k0], h) Q = Tr sc d 258 (1061, [some (.ref xk), l1, l2, l3], [.ref xk, .ref k0], h) Q := t_aload_n k_258_1060 rfl
theorem k_258_1061 : lk 258 1061 = some (.iload_n 3, 1062, 3, 0, .null) := by decide +kernel
theorem x_258_1061 : Tr sc d 258 (1061, [l0, l1, l2, some (.int x)], [.ref k1, .ref k0], h) Q = Tr sc d 258 (1062, [l0, l1, l2, some (.int x)], [.int x, .ref k1, .ref k0], h) Q := t_iload_n k_258_1061 rfl
theorem k_258_1062 : lk 258 1062 = some (.iconst 1, 1063, 0, 0, .int 1) := by decide +kernel
theorem x_258_1062 : Tr sc d 258 (1062, [l0, l1, l2, l3], [.int i2, .ref k1, .ref k0], h) Q = Tr sc d 258 (1063, [l0, l1, l2, l3], [.int 1, .int i2, .ref k1, .ref k0], h) Q := t_go k_258_1062 rfl
theorem k_258_1063 : lk 258 1063 = some (.iadd, 1064, 0, 0, .null) := by decide +kernel
theorem x_258_1063 : Tr sc d 258 (1063, [l0, l1, l2, l3], [.int i3, .int i2, .ref k1, .ref k0], h) Q = Tr sc d 258 (1064, [l0, l1, l2, l3], [.int (i2 + i3), .ref k1, .ref k0], h) Q := t_go k_258_1063 rfl
theorem k_258_1064 : lk 258 1064 = some (.iaload, 1065, 0, 0, .null) := by decide +kernel
theorem x_258_1064 : Tr sc d 258 (1064, [l0, l1, l2, l3], [.int i2, .ref k1, .ref k0], h) Q = (iOk sc h k1 i2 ∧ Tr sc d 258 (1065, [l0, l1, l2, l3], [.int (iRd sc h k1 i2), .ref k0], h) Q) := t_iald k_258_1064
theorem k_258_1065 : lk 258 1065 = some (.aload_n 0, 1066, 0, 0, .null) := by decide +kernel
theorem x_258_1065 : Tr sc d 258 (1065, [some (.ref xk), l1, l2, l3], [.int i1, .ref k0], h) Q = Tr sc d 258 (1066, [some (.ref xk), l1, l2, l3], [.ref xk, .int i1, .ref k0], h) Q := t_aload_n k_258_1065 rfl
theorem k_258_1066 : lk 258 1066 = some (.iload_n 3, 1067, 3, 0, .null) := by decide +kernel
theorem x_258_1066 : Tr sc d 258 (1066, [l0, l1, l2, some (.int x)], [.ref k2, .int i1, .ref k0], h) Q = Tr sc d 258 (1067, [l0, l1, l2, some (.int x)], [.int x, .ref k2, .int i1, .ref k0], h) Q := t_iload_n k_258_1066 rfl
theorem k_258_1067 : lk 258 1067 = some (.iconst 2, 1068, 0, 0, .int 2) := by decide +kernel
theorem x_258_1067 : Tr sc d 258 (1067, [l0, l1, l2, l3], [.int i3, .ref k2, .int i1, .ref k0], h) Q = Tr sc d 258 (1068, [l0, l1, l2, l3], [.int 2, .int i3, .ref k2, .int i1, .ref k0], h) Q := t_go k_258_1067 rfl
theorem k_258_1068 : lk 258 1068 = some (.iadd, 1069, 0, 0, .null) := by decide +kernel
theorem x_258_1068 : Tr sc d 258 (1068, [l0, l1, l2, l3], [.int i4, .int i3, .ref k2, .int i1, .ref k0], h) Q = Tr sc d 258 (1069, [l0, l1, l2, l3], [.int (i3 + i4), .ref k2, .int i1, .ref k0], h) Q := t_go k_258_1068 rfl
theorem k_258_1069 : lk 258 1069 = some (.iaload, 1070, 0, 0, .null) := by decide +kernel
theorem x_258_1069 : Tr sc d 258 (1069, [l0, l1, l2, l3], [.int i3, .ref k2, .int i1, .ref k0], h) Q = (iOk sc h k2 i3 ∧ Tr sc d 258 (1070, [l0, l1, l2, l3], [.int (iRd sc h k2 i3), .int i1, .ref k0], h) Q) := t_iald k_258_1069
theorem k_258_1070 : lk 258 1070 = some (.aload_n 0, 1071, 0, 0, .null) := by decide +kernel
theorem x_258_1070 : Tr sc d 258 (1070, [some (.ref xk), l1, l2, l3], [.int i2, .int i1, .ref k0], h) Q = Tr sc d 258 (1071, [some (.ref xk), l1, l2, l3], [.ref xk, .int i2, .int i1, .ref k0], h) Q := t_aload_n k_258_1070 rfl
theorem k_258_1071 : lk 258 1071 = some (.iload_n 3, 1072, 3, 0, .null) := by decide +kernel
theorem x_258_1071 : Tr sc d 258 (1071, [l0, l1, l2, some (.int x)], [.ref k3, .int i2, .int i1, .ref k0], h) Q = Tr sc d 258 (1072, [l0, l1, l2, some (.int x)], [.int x, .ref k3, .int i2, .int i1, .ref k0], h) Q := t_iload_n k_258_1071 rfl
theorem k_258_1072 : lk 258 1072 = some (.iconst 3, 1073, 0, 0, .int 3) := by decide +kernel
theorem x_258_1072 : Tr sc d 258 (1072, [l0, l1, l2, l3], [.int i4, .ref k3, .int i2, .int i1, .ref k0], h) Q = Tr sc d 258 (1073, [l0, l1, l2, l3], [.int 3, .int i4, .ref k3, .int i2, .int i1, .ref k0], h) Q := t_go k_258_1072 rfl
theorem k_258_1073 : lk 258 1073 = some (.iadd, 1074, 0, 0, .null) := by decide +kernel
theorem x_258_1073 : Tr sc d 258 (1073, [l0, l1, l2, l3], [.int i5, .int i4, .ref k3, .int i2, .int i1, .ref k0], h) Q = Tr sc d 258 (1074, [l0, l1, l2, l3], [.int (i4 + i5), .ref k3, .int i2, .int i1, .ref k0], h) Q := t_go k_258_1073 rfl
theorem k_258_1074 : lk 258 1074 = some (.iaload, 1075, 0, 0, .null) := by decide +kernel
theorem x_258_1074 : Tr sc d 258 (1074, [l0, l1, l2, l3], [.int i4, .ref k3, .int i2, .int i1, .ref k0], h) Q = (iOk sc h k3 i4 ∧ Tr sc d 258 (1075, [l0, l1, l2, l3], [.int (iRd sc h k3 i4), .int i2, .int i1, .ref k0], h) Q) := t_iald k_258_1074
theorem k_258_1075 : lk 258 1075 = some (.invokevirtual 104, 1078, 117, 3, .null) := by decide +kernel
theorem x_258_1075 : Tr sc (d + 1) 258 (1075, [l0, l1, l2, l3], [.int i3, .int i2, .int i1, .ref k0], h) Q = (okp h k0 9 = true ∧ Tr sc d 117 (ent0 117 [.ref k0, .int i1, .int i2, .int i3] h) (fun z => Tr sc (d + 1) 258 (1078, [l0, l1, l2, l3], z.1.toList ++ [], z.2) Q)) := t_cv (as := [.int i1, .int i2, .int i3]) (r := []) k_258_1075 rfl rfl (Nat.le_of_ble_eq_true rfl) (Nat.le_of_ble_eq_true rfl) (Nat.le_of_ble_eq_true rfl)
theorem k_258_1078 : lk 258 1078 = some (.aload_n 2, 1079, 2, 0, .null) := by decide +kernel
theorem x_258_1078 : Tr sc d 258 (1078, [l0, l1, some (.ref xk), l3], [.int i0], h) Q = Tr sc d 258 (1079, [l0, l1, some (.ref xk), l3], [.ref xk, .int i0], h) Q := t_aload_n k_258_1078 rfl
theorem k_258_1079 : lk 258 1079 = some (.aload_n 0, 1080, 0, 0, .null) := by decide +kernel
theorem x_258_1079 : Tr sc d 258 (1079, [some (.ref xk), l1, l2, l3], [.ref k1, .int i0], h) Q = Tr sc d 258 (1080, [some (.ref xk), l1, l2, l3], [.ref xk, .ref k1, .int i0], h) Q := t_aload_n k_258_1079 rfl
theorem k_258_1080 : lk 258 1080 = some (.iload_n 3, 1081, 3, 0, .null) := by decide +kernel
theorem x_258_1080 : Tr sc d 258 (1080, [l0, l1, l2, some (.int x)], [.ref k2, .ref k1, .int i0], h) Q = Tr sc d 258 (1081, [l0, l1, l2, some (.int x)], [.int x, .ref k2, .ref k1, .int i0], h) Q := t_iload_n k_258_1080 rfl
theorem k_258_1081 : lk 258 1081 = some (.iconst 1, 1082, 0, 0, .int 1) := by decide +kernel
theorem x_258_1081 : Tr sc d 258 (1081, [l0, l1, l2, l3], [.int i3, .ref k2, .ref k1, .int i0], h) Q = Tr sc d 258 (1082, [l0, l1, l2, l3], [.int 1, .int i3, .ref k2, .ref k1, .int i0], h) Q := t_go k_258_1081 rfl
theorem k_258_1082 : lk 258 1082 = some (.iadd, 1083, 0, 0, .null) := by decide +kernel
theorem x_258_1082 : Tr sc d 258 (1082, [l0, l1, l2, l3], [.int i4, .int i3, .ref k2, .ref k1, .int i0], h) Q = Tr sc d 258 (1083, [l0, l1, l2, l3], [.int (i3 + i4), .ref k2, .ref k1, .int i0], h) Q := t_go k_258_1082 rfl
theorem k_258_1083 : lk 258 1083 = some (.iaload, 1084, 0, 0, .null) := by decide +kernel
theorem x_258_1083 : Tr sc d 258 (1083, [l0, l1, l2, l3], [.int i3, .ref k2, .ref k1, .int i0], h) Q = (iOk sc h k2 i3 ∧ Tr sc d 258 (1084, [l0, l1, l2, l3], [.int (iRd sc h k2 i3), .ref k1, .int i0], h) Q) := t_iald k_258_1083
theorem k_258_1084 : lk 258 1084 = some (.aload_n 0, 1085, 0, 0, .null) := by decide +kernel
theorem x_258_1084 : Tr sc d 258 (1084, [some (.ref xk), l1, l2, l3], [.int i2, .ref k1, .int i0], h) Q = Tr sc d 258 (1085, [some (.ref xk), l1, l2, l3], [.ref xk, .int i2, .ref k1, .int i0], h) Q := t_aload_n k_258_1084 rfl
theorem k_258_1085 : lk 258 1085 = some (.iload_n 3, 1086, 3, 0, .null) := by decide +kernel
theorem x_258_1085 : Tr sc d 258 (1085, [l0, l1, l2, some (.int x)], [.ref k3, .int i2, .ref k1, .int i0], h) Q = Tr sc d 258 (1086, [l0, l1, l2, some (.int x)], [.int x, .ref k3, .int i2, .ref k1, .int i0], h) Q := t_iload_n k_258_1085 rfl
theorem k_258_1086 : lk 258 1086 = some (.iconst 2, 1087, 0, 0, .int 2) := by decide +kernel
theorem x_258_1086 : Tr sc d 258 (1086, [l0, l1, l2, l3], [.int i4, .ref k3, .int i2, .ref k1, .int i0], h) Q = Tr sc d 258 (1087, [l0, l1, l2, l3], [.int 2, .int i4, .ref k3, .int i2, .ref k1, .int i0], h) Q := t_go k_258_1086 rfl
theorem k_258_1087 : lk 258 1087 = some (.iadd, 1088, 0, 0, .null) := by decide +kernel
theorem x_258_1087 : Tr sc d 258 (1087, [l0, l1, l2, l3], [.int i5, .int i4, .ref k3, .int i2, .ref k1, .int i0], h) Q = Tr sc d 258 (1088, [l0, l1, l2, l3], [.int (i4 + i5), .ref k3, .int i2, .ref k1, .int i0], h) Q := t_go k_258_1087 rfl
theorem k_258_1088 : lk 258 1088 = some (.iaload, 1089, 0, 0, .null) := by decide +kernel
theorem x_258_1088 : Tr sc d 258 (1088, [l0, l1, l2, l3], [.int i4, .ref k3, .int i2, .ref k1, .int i0], h) Q = (iOk sc h k3 i4 ∧ Tr sc d 258 (1089, [l0, l1, l2, l3], [.int (iRd sc h k3 i4), .int i2, .ref k1, .int i0], h) Q) := t_iald k_258_1088
theorem k_258_1089 : lk 258 1089 = some (.aload_n 0, 1090, 0, 0, .null) := by decide +kernel
theorem x_258_1089 : Tr sc d 258 (1089, [some (.ref xk), l1, l2, l3], [.int i3, .int i2, .ref k1, .int i0], h) Q = Tr sc d 258 (1090, [some (.ref xk), l1, l2, l3], [.ref xk, .int i3, .int i2, .ref k1, .int i0], h) Q := t_aload_n k_258_1089 rfl
theorem k_258_1090 : lk 258 1090 = some (.iload_n 3, 1091, 3, 0, .null) := by decide +kernel
theorem x_258_1090 : Tr sc d 258 (1090, [l0, l1, l2, some (.int x)], [.ref k4, .int i3, .int i2, .ref k1, .int i0], h) Q = Tr sc d 258 (1091, [l0, l1, l2, some (.int x)], [.int x, .ref k4, .int i3, .int i2, .ref k1, .int i0], h) Q := t_iload_n k_258_1090 rfl
theorem k_258_1091 : lk 258 1091 = some (.iconst 3, 1092, 0, 0, .int 3) := by decide +kernel
theorem x_258_1091 : Tr sc d 258 (1091, [l0, l1, l2, l3], [.int i5, .ref k4, .int i3, .int i2, .ref k1, .int i0], h) Q = Tr sc d 258 (1092, [l0, l1, l2, l3], [.int 3, .int i5, .ref k4, .int i3, .int i2, .ref k1, .int i0], h) Q := t_go k_258_1091 rfl
theorem k_258_1092 : lk 258 1092 = some (.iadd, 1093, 0, 0, .null) := by decide +kernel
theorem x_258_1092 : Tr sc d 258 (1092, [l0, l1, l2, l3], [.int i6, .int i5, .ref k4, .int i3, .int i2, .ref k1, .int i0], h) Q = Tr sc d 258 (1093, [l0, l1, l2, l3], [.int (i5 + i6), .ref k4, .int i3, .int i2, .ref k1, .int i0], h) Q := t_go k_258_1092 rfl
theorem k_258_1093 : lk 258 1093 = some (.iaload, 1094, 0, 0, .null) := by decide +kernel
theorem x_258_1093 : Tr sc d 258 (1093, [l0, l1, l2, l3], [.int i5, .ref k4, .int i3, .int i2, .ref k1, .int i0], h) Q = (iOk sc h k4 i5 ∧ Tr sc d 258 (1094, [l0, l1, l2, l3], [.int (iRd sc h k4 i5), .int i3, .int i2, .ref k1, .int i0], h) Q) := t_iald k_258_1093
theorem k_258_1094 : lk 258 1094 = some (.invokevirtual 107, 1097, 208, 3, .null) := by decide +kernel
theorem x_258_1094 : Tr sc (d + 1) 258 (1094, [l0, l1, l2, l3], [.int i4, .int i3, .int i2, .ref k1, .int i0], h) Q = (okp h k1 10 = true ∧ Tr sc d 208 (ent0 208 [.ref k1, .int i2, .int i3, .int i4] h) (fun z => Tr sc (d + 1) 258 (1097, [l0, l1, l2, l3], z.1.toList ++ [.int i0], z.2) Q)) := t_cv (as := [.int i2, .int i3, .int i4]) (r := [.int i0]) k_258_1094 rfl rfl (Nat.le_of_ble_eq_true rfl) (Nat.le_of_ble_eq_true rfl) (Nat.le_of_ble_eq_true rfl)
theorem k_258_1097 : lk 258 1097 = some (.if_icmp .eq 651, 1100, 1748, 0, .null) := by decide +kernel
theorem x_258_1097 : Tr sc d 258 (1097, [l0, l1, l2, l3], [.int i1, .int i0], h) Q = if i0 = i1 then Tr sc d 258 (1748, [l0, l1, l2, l3], [], h) Q else Tr sc d 258 (1100, [l0, l1, l2, l3], [], h) Q := t_if k_258_1097 rfl
theorem k_258_1100 : lk 258 1100 = some (.iconst 0, 1101, 0, 0, .int 0) := by decide +kernel
theorem x_258_1100 : Tr sc d 258 (1100, [l0, l1, l2, l3], [], h) Q = Tr sc d 258 (1101, [l0, l1, l2, l3], [.int 0], h) Q := t_go k_258_1100 rfl
theorem k_258_1101 : lk 258 1101 = some (.ireturn, 1102, 0, 0, .null) := by decide +kernel
theorem x_258_1101 : Tr sc d 258 (1101, [l0, l1, l2, l3], [.int i0], h) Q = (vp_nar .boolean i0 = i0 ∧ Q (some (.int i0), h)) := t_zret k_258_1101 r_258
theorem k_258_1102 : lk 258 1102 = some (.aload_n 1, 1103, 1, 0, .null) := by decide +kernel
theorem x_258_1102 : Tr sc d 258 (1102, [l0, some (.ref xk), l2, l3], [], h) Q = Tr sc d 258 (1103, [l0, some (.ref xk), l2, l3], [.ref xk], h) Q := t_aload_n k_258_1102 rfl
theorem k_258_1103 : lk 258 1103 = some (.aload_n 0, 1104, 0, 0, .null) := by decide +kernel
theorem x_258_1103 : Tr sc d 258 (1103, [some (.ref xk), l1, l2, l3], [.ref k0], h) Q = Tr sc d 258 (1104, [some (.ref xk), l1, l2, l3], [.ref xk, .ref k0], h) Q := t_aload_n k_258_1103 rfl
theorem k_258_1104 : lk 258 1104 = some (.iload_n 3, 1105, 3, 0, .null) := by decide +kernel
theorem x_258_1104 : Tr sc d 258 (1104, [l0, l1, l2, some (.int x)], [.ref k1, .ref k0], h) Q = Tr sc d 258 (1105, [l0, l1, l2, some (.int x)], [.int x, .ref k1, .ref k0], h) Q := t_iload_n k_258_1104 rfl
theorem k_258_1105 : lk 258 1105 = some (.iconst 1, 1106, 0, 0, .int 1) := by decide +kernel
theorem x_258_1105 : Tr sc d 258 (1105, [l0, l1, l2, l3], [.int i2, .ref k1, .ref k0], h) Q = Tr sc d 258 (1106, [l0, l1, l2, l3], [.int 1, .int i2, .ref k1, .ref k0], h) Q := t_go k_258_1105 rfl
theorem k_258_1106 : lk 258 1106 = some (.iadd, 1107, 0, 0, .null) := by decide +kernel
theorem x_258_1106 : Tr sc d 258 (1106, [l0, l1, l2, l3], [.int i3, .int i2, .ref k1, .ref k0], h) Q = Tr sc d 258 (1107, [l0, l1, l2, l3], [.int (i2 + i3), .ref k1, .ref k0], h) Q := t_go k_258_1106 rfl
theorem k_258_1107 : lk 258 1107 = some (.iaload, 1108, 0, 0, .null) := by decide +kernel
theorem x_258_1107 : Tr sc d 258 (1107, [l0, l1, l2, l3], [.int i2, .ref k1, .ref k0], h) Q = (iOk sc h k1 i2 ∧ Tr sc d 258 (1108, [l0, l1, l2, l3], [.int (iRd sc h k1 i2), .ref k0], h) Q) := t_iald k_258_1107
theorem k_258_1108 : lk 258 1108 = some (.invokevirtual 108, 1111, 118, 1, .null) := by decide +kernel
theorem x_258_1108 : Tr sc (d + 1) 258 (1108, [l0, l1, l2, l3], [.int i1, .ref k0], h) Q = (okp h k0 9 = true ∧ Tr sc d 118 (ent0 118 [.ref k0, .int i1] h) (fun z => Tr sc (d + 1) 258 (1111, [l0, l1, l2, l3], z.1.toList ++ [], z.2) Q)) := t_cv (as := [.int i1]) (r := []) k_258_1108 rfl rfl (Nat.le_of_ble_eq_true rfl) (Nat.le_of_ble_eq_true rfl) (Nat.le_of_ble_eq_true rfl)
theorem k_258_1111 : lk 258 1111 = some (.aload_n 2, 1112, 2, 0, .null) := by decide +kernel
theorem x_258_1111 : Tr sc d 258 (1111, [l0, l1, some (.ref xk), l3], [.int i0], h) Q = Tr sc d 258 (1112, [l0, l1, some (.ref xk), l3], [.ref xk, .int i0], h) Q := t_aload_n k_258_1111 rfl
theorem k_258_1112 : lk 258 1112 = some (.aload_n 0, 1113, 0, 0, .null) := by decide +kernel
theorem x_258_1112 : Tr sc d 258 (1112, [some (.ref xk), l1, l2, l3], [.ref k1, .int i0], h) Q = Tr sc d 258 (1113, [some (.ref xk), l1, l2, l3], [.ref xk, .ref k1, .int i0], h) Q := t_aload_n k_258_1112 rfl
theorem k_258_1113 : lk 258 1113 = some (.iload_n 3, 1114, 3, 0, .null) := by decide +kernel
theorem x_258_1113 : Tr sc d 258 (1113, [l0, l1, l2, some (.int x)], [.ref k2, .ref k1, .int i0], h) Q = Tr sc d 258 (1114, [l0, l1, l2, some (.int x)], [.int x, .ref k2, .ref k1, .int i0], h) Q := t_iload_n k_258_1113 rfl
theorem k_258_1114 : lk 258 1114 = some (.iconst 1, 1115, 0, 0, .int 1) := by decide +kernel
theorem x_258_1114 : Tr sc d 258 (1114, [l0, l1, l2, l3], [.int i3, .ref k2, .ref k1, .int i0], h) Q = Tr sc d 258 (1115, [l0, l1, l2, l3], [.int 1, .int i3, .ref k2, .ref k1, .int i0], h) Q := t_go k_258_1114 rfl
theorem k_258_1115 : lk 258 1115 = some (.iadd, 1116, 0, 0, .null) := by decide +kernel
theorem x_258_1115 : Tr sc d 258 (1115, [l0, l1, l2, l3], [.int i4, .int i3, .ref k2, .ref k1, .int i0], h) Q = Tr sc d 258 (1116, [l0, l1, l2, l3], [.int (i3 + i4), .ref k2, .ref k1, .int i0], h) Q := t_go k_258_1115 rfl
theorem k_258_1116 : lk 258 1116 = some (.iaload, 1117, 0, 0, .null) := by decide +kernel
theorem x_258_1116 : Tr sc d 258 (1116, [l0, l1, l2, l3], [.int i3, .ref k2, .ref k1, .int i0], h) Q = (iOk sc h k2 i3 ∧ Tr sc d 258 (1117, [l0, l1, l2, l3], [.int (iRd sc h k2 i3), .ref k1, .int i0], h) Q) := t_iald k_258_1116
theorem k_258_1117 : lk 258 1117 = some (.invokevirtual 111, 1120, 209, 1, .null) := by decide +kernel
theorem x_258_1117 : Tr sc (d + 1) 258 (1117, [l0, l1, l2, l3], [.int i2, .ref k1, .int i0], h) Q = (okp h k1 10 = true ∧ Tr sc d 209 (ent0 209 [.ref k1, .int i2] h) (fun z => Tr sc (d + 1) 258 (1120, [l0, l1, l2, l3], z.1.toList ++ [.int i0], z.2) Q)) := t_cv (as := [.int i2]) (r := [.int i0]) k_258_1117 rfl rfl (Nat.le_of_ble_eq_true rfl) (Nat.le_of_ble_eq_true rfl) (Nat.le_of_ble_eq_true rfl)
theorem k_258_1120 : lk 258 1120 = some (.if_icmp .eq 628, 1123, 1748, 0, .null) := by decide +kernel
theorem x_258_1120 : Tr sc d 258 (1120, [l0, l1, l2, l3], [.int i1, .int i0], h) Q = if i0 = i1 then Tr sc d 258 (1748, [l0, l1, l2, l3], [], h) Q else Tr sc d 258 (1123, [l0, l1, l2, l3], [], h) Q := t_if k_258_1120 rfl
theorem k_258_1123 : lk 258 1123 = some (.iconst 0, 1124, 0, 0, .int 0) := by decide +kernel
theorem x_258_1123 : Tr sc d 258 (1123, [l0, l1, l2, l3], [], h) Q = Tr sc d 258 (1124, [l0, l1, l2, l3], [.int 0], h) Q := t_go k_258_1123 rfl
theorem k_258_1124 : lk 258 1124 = some (.ireturn, 1125, 0, 0, .null) := by decide +kernel
theorem x_258_1124 : Tr sc d 258 (1124, [l0, l1, l2, l3], [.int i0], h) Q = (vp_nar .boolean i0 = i0 ∧ Q (some (.int i0), h)) := t_zret k_258_1124 r_258
theorem k_258_1125 : lk 258 1125 = some (.aload_n 1, 1126, 1, 0, .null) := by decide +kernel
theorem x_258_1125 : Tr sc d 258 (1125, [l0, some (.ref xk), l2, l3], [], h) Q = Tr sc d 258 (1126, [l0, some (.ref xk), l2, l3], [.ref xk], h) Q := t_aload_n k_258_1125 rfl
theorem k_258_1126 : lk 258 1126 = some (.aload_n 0, 1127, 0, 0, .null) := by decide +kernel
theorem x_258_1126 : Tr sc d 258 (1126, [some (.ref xk), l1, l2, l3], [.ref k0], h) Q = Tr sc d 258 (1127, [some (.ref xk), l1, l2, l3], [.ref xk, .ref k0], h) Q := t_aload_n k_258_1126 rfl
theorem k_258_1127 : lk 258 1127 = some (.iload_n 3, 1128, 3, 0, .null) := by decide +kernel
theorem x_258_1127 : Tr sc d 258 (1127, [l0, l1, l2, some (.int x)], [.ref k1, .ref k0], h) Q = Tr sc d 258 (1128, [l0, l1, l2, some (.int x)], [.int x, .ref k1, .ref k0], h) Q := t_iload_n k_258_1127 rfl
theorem k_258_1128 : lk 258 1128 = some (.iconst 1, 1129, 0, 0, .int 1) := by decide +kernel
theorem x_258_1128 : Tr sc d 258 (1128, [l0, l1, l2, l3], [.int i2, .ref k1, .ref k0], h) Q = Tr sc d 258 (1129, [l0, l1, l2, l3], [.int 1, .int i2, .ref k1, .ref k0], h) Q := t_go k_258_1128 rfl
theorem k_258_1129 : lk 258 1129 = some (.iadd, 1130, 0, 0, .null) := by decide +kernel
theorem x_258_1129 : Tr sc d 258 (1129, [l0, l1, l2, l3], [.int i3, .int i2, .ref k1, .ref k0], h) Q = Tr sc d 258 (1130, [l0, l1, l2, l3], [.int (i2 + i3), .ref k1, .ref k0], h) Q := t_go k_258_1129 rfl
theorem k_258_1130 : lk 258 1130 = some (.iaload, 1131, 0, 0, .null) := by decide +kernel
theorem x_258_1130 : Tr sc d 258 (1130, [l0, l1, l2, l3], [.int i2, .ref k1, .ref k0], h) Q = (iOk sc h k1 i2 ∧ Tr sc d 258 (1131, [l0, l1, l2, l3], [.int (iRd sc h k1 i2), .ref k0], h) Q) := t_iald k_258_1130
theorem k_258_1131 : lk 258 1131 = some (.invokevirtual 112, 1134, 119, 1, .null) := by decide +kernel
theorem x_258_1131 : Tr sc (d + 1) 258 (1131, [l0, l1, l2, l3], [.int i1, .ref k0], h) Q = (okp h k0 9 = true ∧ Tr sc d 119 (ent0 119 [.ref k0, .int i1] h) (fun z => Tr sc (d + 1) 258 (1134, [l0, l1, l2, l3], z.1.toList ++ [], z.2) Q)) := t_cv (as := [.int i1]) (r := []) k_258_1131 rfl rfl (Nat.le_of_ble_eq_true rfl) (Nat.le_of_ble_eq_true rfl) (Nat.le_of_ble_eq_true rfl)
theorem k_258_1134 : lk 258 1134 = some (.aload_n 2, 1135, 2, 0, .null) := by decide +kernel
theorem x_258_1134 : Tr sc d 258 (1134, [l0, l1, some (.ref xk), l3], [.int i0], h) Q = Tr sc d 258 (1135, [l0, l1, some (.ref xk), l3], [.ref xk, .int i0], h) Q := t_aload_n k_258_1134 rfl
theorem k_258_1135 : lk 258 1135 = some (.aload_n 0, 1136, 0, 0, .null) := by decide +kernel
theorem x_258_1135 : Tr sc d 258 (1135, [some (.ref xk), l1, l2, l3], [.ref k1, .int i0], h) Q = Tr sc d 258 (1136, [some (.ref xk), l1, l2, l3], [.ref xk, .ref k1, .int i0], h) Q := t_aload_n k_258_1135 rfl
theorem k_258_1136 : lk 258 1136 = some (.iload_n 3, 1137, 3, 0, .null) := by decide +kernel
theorem x_258_1136 : Tr sc d 258 (1136, [l0, l1, l2, some (.int x)], [.ref k2, .ref k1, .int i0], h) Q = Tr sc d 258 (1137, [l0, l1, l2, some (.int x)], [.int x, .ref k2, .ref k1, .int i0], h) Q := t_iload_n k_258_1136 rfl
theorem k_258_1137 : lk 258 1137 = some (.iconst 1, 1138, 0, 0, .int 1) := by decide +kernel
theorem x_258_1137 : Tr sc d 258 (1137, [l0, l1, l2, l3], [.int i3, .ref k2, .ref k1, .int i0], h) Q = Tr sc d 258 (1138, [l0, l1, l2, l3], [.int 1, .int i3, .ref k2, .ref k1, .int i0], h) Q := t_go k_258_1137 rfl
theorem k_258_1138 : lk 258 1138 = some (.iadd, 1139, 0, 0, .null) := by decide +kernel
theorem x_258_1138 : Tr sc d 258 (1138, [l0, l1, l2, l3], [.int i4, .int i3, .ref k2, .ref k1, .int i0], h) Q = Tr sc d 258 (1139, [l0, l1, l2, l3], [.int (i3 + i4), .ref k2, .ref k1, .int i0], h) Q := t_go k_258_1138 rfl
theorem k_258_1139 : lk 258 1139 = some (.iaload, 1140, 0, 0, .null) := by decide +kernel
theorem x_258_1139 : Tr sc d 258 (1139, [l0, l1, l2, l3], [.int i3, .ref k2, .ref k1, .int i0], h) Q = (iOk sc h k2 i3 ∧ Tr sc d 258 (1140, [l0, l1, l2, l3], [.int (iRd sc h k2 i3), .ref k1, .int i0], h) Q) := t_iald k_258_1139
theorem k_258_1140 : lk 258 1140 = some (.invokevirtual 115, 1143, 218, 1, .null) := by decide +kernel
theorem x_258_1140 : Tr sc (d + 1) 258 (1140, [l0, l1, l2, l3], [.int i2, .ref k1, .int i0], h) Q = (okp h k1 10 = true ∧ Tr sc d 218 (ent0 218 [.ref k1, .int i2] h) (fun z => Tr sc (d + 1) 258 (1143, [l0, l1, l2, l3], z.1.toList ++ [.int i0], z.2) Q)) := t_cv (as := [.int i2]) (r := [.int i0]) k_258_1140 rfl rfl (Nat.le_of_ble_eq_true rfl) (Nat.le_of_ble_eq_true rfl) (Nat.le_of_ble_eq_true rfl)
theorem k_258_1143 : lk 258 1143 = some (.if_icmp .eq 605, 1146, 1748, 0, .null) := by decide +kernel
theorem x_258_1143 : Tr sc d 258 (1143, [l0, l1, l2, l3], [.int i1, .int i0], h) Q = if i0 = i1 then Tr sc d 258 (1748, [l0, l1, l2, l3], [], h) Q else Tr sc d 258 (1146, [l0, l1, l2, l3], [], h) Q := t_if k_258_1143 rfl
theorem k_258_1146 : lk 258 1146 = some (.iconst 0, 1147, 0, 0, .int 0) := by decide +kernel
theorem x_258_1146 : Tr sc d 258 (1146, [l0, l1, l2, l3], [], h) Q = Tr sc d 258 (1147, [l0, l1, l2, l3], [.int 0], h) Q := t_go k_258_1146 rfl
theorem k_258_1147 : lk 258 1147 = some (.ireturn, 1148, 0, 0, .null) := by decide +kernel
theorem x_258_1147 : Tr sc d 258 (1147, [l0, l1, l2, l3], [.int i0], h) Q = (vp_nar .boolean i0 = i0 ∧ Q (some (.int i0), h)) := t_zret k_258_1147 r_258
theorem k_258_1148 : lk 258 1148 = some (.aload_n 1, 1149, 1, 0, .null) := by decide +kernel
theorem x_258_1148 : Tr sc d 258 (1148, [l0, some (.ref xk), l2, l3], [], h) Q = Tr sc d 258 (1149, [l0, some (.ref xk), l2, l3], [.ref xk], h) Q := t_aload_n k_258_1148 rfl
theorem k_258_1149 : lk 258 1149 = some (.aload_n 0, 1150, 0, 0, .null) := by decide +kernel
theorem x_258_1149 : Tr sc d 258 (1149, [some (.ref xk), l1, l2, l3], [.ref k0], h) Q = Tr sc d 258 (1150, [some (.ref xk), l1, l2, l3], [.ref xk, .ref k0], h) Q := t_aload_n k_258_1149 rfl
theorem k_258_1150 : lk 258 1150 = some (.iload_n 3, 1151, 3, 0, .null) := by decide +kernel
theorem x_258_1150 : Tr sc d 258 (1150, [l0, l1, l2, some (.int x)], [.ref k1, .ref k0], h) Q = Tr sc d 258 (1151, [l0, l1, l2, some (.int x)], [.int x, .ref k1, .ref k0], h) Q := t_iload_n k_258_1150 rfl
theorem k_258_1151 : lk 258 1151 = some (.iconst 1, 1152, 0, 0, .int 1) := by decide +kernel
theorem x_258_1151 : Tr sc d 258 (1151, [l0, l1, l2, l3], [.int i2, .ref k1, .ref k0], h) Q = Tr sc d 258 (1152, [l0, l1, l2, l3], [.int 1, .int i2, .ref k1, .ref k0], h) Q := t_go k_258_1151 rfl
theorem k_258_1152 : lk 258 1152 = some (.iadd, 1153, 0, 0, .null) := by decide +kernel
theorem x_258_1152 : Tr sc d 258 (1152, [l0, l1, l2, l3], [.int i3, .int i2, .ref k1, .ref k0], h) Q = Tr sc d 258 (1153, [l0, l1, l2, l3], [.int (i2 + i3), .ref k1, .ref k0], h) Q := t_go k_258_1152 rfl
theorem k_258_1153 : lk 258 1153 = some (.iaload, 1154, 0, 0, .null) := by decide +kernel
theorem x_258_1153 : Tr sc d 258 (1153, [l0, l1, l2, l3], [.int i2, .ref k1, .ref k0], h) Q = (iOk sc h k1 i2 ∧ Tr sc d 258 (1154, [l0, l1, l2, l3], [.int (iRd sc h k1 i2), .ref k0], h) Q) := t_iald k_258_1153
theorem k_258_1154 : lk 258 1154 = some (.aload_n 0, 1155, 0, 0, .null) := by decide +kernel
theorem x_258_1154 : Tr sc d 258 (1154, [some (.ref xk), l1, l2, l3], [.int i1, .ref k0], h) Q = Tr sc d 258 (1155, [some (.ref xk), l1, l2, l3], [.ref xk, .int i1, .ref k0], h) Q := t_aload_n k_258_1154 rfl
theorem k_258_1155 : lk 258 1155 = some (.iload_n 3, 1156, 3, 0, .null) := by decide +kernel
theorem x_258_1155 : Tr sc d 258 (1155, [l0, l1, l2, some (.int x)], [.ref k2, .int i1, .ref k0], h) Q = Tr sc d 258 (1156, [l0, l1, l2, some (.int x)], [.int x, .ref k2, .int i1, .ref k0], h) Q := t_iload_n k_258_1155 rfl
theorem k_258_1156 : lk 258 1156 = some (.iconst 2, 1157, 0, 0, .int 2) := by decide +kernel
theorem x_258_1156 : Tr sc d 258 (1156, [l0, l1, l2, l3], [.int i3, .ref k2, .int i1, .ref k0], h) Q = Tr sc d 258 (1157, [l0, l1, l2, l3], [.int 2, .int i3, .ref k2, .int i1, .ref k0], h) Q := t_go k_258_1156 rfl
theorem k_258_1157 : lk 258 1157 = some (.iadd, 1158, 0, 0, .null) := by decide +kernel
theorem x_258_1157 : Tr sc d 258 (1157, [l0, l1, l2, l3], [.int i4, .int i3, .ref k2, .int i1, .ref k0], h) Q = Tr sc d 258 (1158, [l0, l1, l2, l3], [.int (i3 + i4), .ref k2, .int i1, .ref k0], h) Q := t_go k_258_1157 rfl
theorem k_258_1158 : lk 258 1158 = some (.iaload, 1159, 0, 0, .null) := by decide +kernel
theorem x_258_1158 : Tr sc d 258 (1158, [l0, l1, l2, l3], [.int i3, .ref k2, .int i1, .ref k0], h) Q = (iOk sc h k2 i3 ∧ Tr sc d 258 (1159, [l0, l1, l2, l3], [.int (iRd sc h k2 i3), .int i1, .ref k0], h) Q) := t_iald k_258_1158
theorem k_258_1159 : lk 258 1159 = some (.aload_n 0, 1160, 0, 0, .null) := by decide +kernel
theorem x_258_1159 : Tr sc d 258 (1159, [some (.ref xk), l1, l2, l3], [.int i2, .int i1, .ref k0], h) Q = Tr sc d 258 (1160, [some (.ref xk), l1, l2, l3], [.ref xk, .int i2, .int i1, .ref k0], h) Q := t_aload_n k_258_1159 rfl
theorem k_258_1160 : lk 258 1160 = some (.iload_n 3, 1161, 3, 0, .null) := by decide +kernel
theorem x_258_1160 : Tr sc d 258 (1160, [l0, l1, l2, some (.int x)], [.ref k3, .int i2, .int i1, .ref k0], h) Q = Tr sc d 258 (1161, [l0, l1, l2, some (.int x)], [.int x, .ref k3, .int i2, .int i1, .ref k0], h) Q := t_iload_n k_258_1160 rfl
theorem k_258_1161 : lk 258 1161 = some (.iconst 3, 1162, 0, 0, .int 3) := by decide +kernel
theorem x_258_1161 : Tr sc d 258 (1161, [l0, l1, l2, l3], [.int i4, .ref k3, .int i2, .int i1, .ref k0], h) Q = Tr sc d 258 (1162, [l0, l1, l2, l3], [.int 3, .int i4, .ref k3, .int i2, .int i1, .ref k0], h) Q := t_go k_258_1161 rfl
theorem k_258_1162 : lk 258 1162 = some (.iadd, 1163, 0, 0, .null) := by decide +kernel
theorem x_258_1162 : Tr sc d 258 (1162, [l0, l1, l2, l3], [.int i5, .int i4, .ref k3, .int i2, .int i1, .ref k0], h) Q = Tr sc d 258 (1163, [l0, l1, l2, l3], [.int (i4 + i5), .ref k3, .int i2, .int i1, .ref k0], h) Q := t_go k_258_1162 rfl
theorem k_258_1163 : lk 258 1163 = some (.iaload, 1164, 0, 0, .null) := by decide +kernel
theorem x_258_1163 : Tr sc d 258 (1163, [l0, l1, l2, l3], [.int i4, .ref k3, .int i2, .int i1, .ref k0], h) Q = (iOk sc h k3 i4 ∧ Tr sc d 258 (1164, [l0, l1, l2, l3], [.int (iRd sc h k3 i4), .int i2, .int i1, .ref k0], h) Q) := t_iald k_258_1163
theorem k_258_1164 : lk 258 1164 = some (.invokevirtual 116, 1167, 120, 3, .null) := by decide +kernel
theorem x_258_1164 : Tr sc (d + 1) 258 (1164, [l0, l1, l2, l3], [.int i3, .int i2, .int i1, .ref k0], h) Q = (okp h k0 9 = true ∧ Tr sc d 120 (ent0 120 [.ref k0, .int i1, .int i2, .int i3] h) (fun z => Tr sc (d + 1) 258 (1167, [l0, l1, l2, l3], z.1.toList ++ [], z.2) Q)) := t_cv (as := [.int i1, .int i2, .int i3]) (r := []) k_258_1164 rfl rfl (Nat.le_of_ble_eq_true rfl) (Nat.le_of_ble_eq_true rfl) (Nat.le_of_ble_eq_true rfl)
theorem k_258_1167 : lk 258 1167 = some (.aload_n 2, 1168, 2, 0, .null) := by decide +kernel
theorem x_258_1167 : Tr sc d 258 (1167, [l0, l1, some (.ref xk), l3], [.int i0], h) Q = Tr sc d 258 (1168, [l0, l1, some (.ref xk), l3], [.ref xk, .int i0], h) Q := t_aload_n k_258_1167 rfl
theorem k_258_1168 : lk 258 1168 = some (.aload_n 0, 1169, 0, 0, .null) := by decide +kernel
theorem x_258_1168 : Tr sc d 258 (1168, [some (.ref xk), l1, l2, l3], [.ref k1, .int i0], h) Q = Tr sc d 258 (1169, [some (.ref xk), l1, l2, l3], [.ref xk, .ref k1, .int i0], h) Q := t_aload_n k_258_1168 rfl
theorem k_258_1169 : lk 258 1169 = some (.iload_n 3, 1170, 3, 0, .null) := by decide +kernel
theorem x_258_1169 : Tr sc d 258 (1169, [l0, l1, l2, some (.int x)], [.ref k2, .ref k1, .int i0], h) Q = Tr sc d 258 (1170, [l0, l1, l2, some (.int x)], [.int x, .ref k2, .ref k1, .int i0], h) Q := t_iload_n k_258_1169 rfl
theorem k_258_1170 : lk 258 1170 = some (.iconst 1, 1171, 0, 0, .int 1) := by decide +kernel
theorem x_258_1170 : Tr sc d 258 (1170, [l0, l1, l2, l3], [.int i3, .ref k2, .ref k1, .int i0], h) Q = Tr sc d 258 (1171, [l0, l1, l2, l3], [.int 1, .int i3, .ref k2, .ref k1, .int i0], h) Q := t_go k_258_1170 rfl
theorem k_258_1171 : lk 258 1171 = some (.iadd, 1172, 0, 0, .null) := by decide +kernel
theorem x_258_1171 : Tr sc d 258 (1171, [l0, l1, l2, l3], [.int i4, .int i3, .ref k2, .ref k1, .int i0], h) Q = Tr sc d 258 (1172, [l0, l1, l2, l3], [.int (i3 + i4), .ref k2, .ref k1, .int i0], h) Q := t_go k_258_1171 rfl
theorem k_258_1172 : lk 258 1172 = some (.iaload, 1173, 0, 0, .null) := by decide +kernel
theorem x_258_1172 : Tr sc d 258 (1172, [l0, l1, l2, l3], [.int i3, .ref k2, .ref k1, .int i0], h) Q = (iOk sc h k2 i3 ∧ Tr sc d 258 (1173, [l0, l1, l2, l3], [.int (iRd sc h k2 i3), .ref k1, .int i0], h) Q) := t_iald k_258_1172
theorem k_258_1173 : lk 258 1173 = some (.aload_n 0, 1174, 0, 0, .null) := by decide +kernel
theorem x_258_1173 : Tr sc d 258 (1173, [some (.ref xk), l1, l2, l3], [.int i2, .ref k1, .int i0], h) Q = Tr sc d 258 (1174, [some (.ref xk), l1, l2, l3], [.ref xk, .int i2, .ref k1, .int i0], h) Q := t_aload_n k_258_1173 rfl
theorem k_258_1174 : lk 258 1174 = some (.iload_n 3, 1175, 3, 0, .null) := by decide +kernel
theorem x_258_1174 : Tr sc d 258 (1174, [l0, l1, l2, some (.int x)], [.ref k3, .int i2, .ref k1, .int i0], h) Q = Tr sc d 258 (1175, [l0, l1, l2, some (.int x)], [.int x, .ref k3, .int i2, .ref k1, .int i0], h) Q := t_iload_n k_258_1174 rfl
theorem k_258_1175 : lk 258 1175 = some (.iconst 2, 1176, 0, 0, .int 2) := by decide +kernel
theorem x_258_1175 : Tr sc d 258 (1175, [l0, l1, l2, l3], [.int i4, .ref k3, .int i2, .ref k1, .int i0], h) Q = Tr sc d 258 (1176, [l0, l1, l2, l3], [.int 2, .int i4, .ref k3, .int i2, .ref k1, .int i0], h) Q := t_go k_258_1175 rfl
theorem k_258_1176 : lk 258 1176 = some (.iadd, 1177, 0, 0, .null) := by decide +kernel
theorem x_258_1176 : Tr sc d 258 (1176, [l0, l1, l2, l3], [.int i5, .int i4, .ref k3, .int i2, .ref k1, .int i0], h) Q = Tr sc d 258 (1177, [l0, l1, l2, l3], [.int (i4 + i5), .ref k3, .int i2, .ref k1, .int i0], h) Q := t_go k_258_1176 rfl
theorem k_258_1177 : lk 258 1177 = some (.iaload, 1178, 0, 0, .null) := by decide +kernel
theorem x_258_1177 : Tr sc d 258 (1177, [l0, l1, l2, l3], [.int i4, .ref k3, .int i2, .ref k1, .int i0], h) Q = (iOk sc h k3 i4 ∧ Tr sc d 258 (1178, [l0, l1, l2, l3], [.int (iRd sc h k3 i4), .int i2, .ref k1, .int i0], h) Q) := t_iald k_258_1177
theorem k_258_1178 : lk 258 1178 = some (.aload_n 0, 1179, 0, 0, .null) := by decide +kernel
theorem x_258_1178 : Tr sc d 258 (1178, [some (.ref xk), l1, l2, l3], [.int i3, .int i2, .ref k1, .int i0], h) Q = Tr sc d 258 (1179, [some (.ref xk), l1, l2, l3], [.ref xk, .int i3, .int i2, .ref k1, .int i0], h) Q := t_aload_n k_258_1178 rfl
theorem k_258_1179 : lk 258 1179 = some (.iload_n 3, 1180, 3, 0, .null) := by decide +kernel
theorem x_258_1179 : Tr sc d 258 (1179, [l0, l1, l2, some (.int x)], [.ref k4, .int i3, .int i2, .ref k1, .int i0], h) Q = Tr sc d 258 (1180, [l0, l1, l2, some (.int x)], [.int x, .ref k4, .int i3, .int i2, .ref k1, .int i0], h) Q := t_iload_n k_258_1179 rfl
theorem k_258_1180 : lk 258 1180 = some (.iconst 3, 1181, 0, 0, .int 3) := by decide +kernel
theorem x_258_1180 : Tr sc d 258 (1180, [l0, l1, l2, l3], [.int i5, .ref k4, .int i3, .int i2, .ref k1, .int i0], h) Q = Tr sc d 258 (1181, [l0, l1, l2, l3], [.int 3, .int i5, .ref k4, .int i3, .int i2, .ref k1, .int i0], h) Q := t_go k_258_1180 rfl
theorem k_258_1181 : lk 258 1181 = some (.iadd, 1182, 0, 0, .null) := by decide +kernel
theorem x_258_1181 : Tr sc d 258 (1181, [l0, l1, l2, l3], [.int i6, .int i5, .ref k4, .int i3, .int i2, .ref k1, .int i0], h) Q = Tr sc d 258 (1182, [l0, l1, l2, l3], [.int (i5 + i6), .ref k4, .int i3, .int i2, .ref k1, .int i0], h) Q := t_go k_258_1181 rfl
theorem k_258_1182 : lk 258 1182 = some (.iaload, 1183, 0, 0, .null) := by decide +kernel
theorem x_258_1182 : Tr sc d 258 (1182, [l0, l1, l2, l3], [.int i5, .ref k4, .int i3, .int i2, .ref k1, .int i0], h) Q = (iOk sc h k4 i5 ∧ Tr sc d 258 (1183, [l0, l1, l2, l3], [.int (iRd sc h k4 i5), .int i3, .int i2, .ref k1, .int i0], h) Q) := t_iald k_258_1182
theorem k_258_1183 : lk 258 1183 = some (.invokevirtual 119, 1186, 219, 3, .null) := by decide +kernel
theorem x_258_1183 : Tr sc (d + 1) 258 (1183, [l0, l1, l2, l3], [.int i4, .int i3, .int i2, .ref k1, .int i0], h) Q = (okp h k1 10 = true ∧ Tr sc d 219 (ent0 219 [.ref k1, .int i2, .int i3, .int i4] h) (fun z => Tr sc (d + 1) 258 (1186, [l0, l1, l2, l3], z.1.toList ++ [.int i0], z.2) Q)) := t_cv (as := [.int i2, .int i3, .int i4]) (r := [.int i0]) k_258_1183 rfl rfl (Nat.le_of_ble_eq_true rfl) (Nat.le_of_ble_eq_true rfl) (Nat.le_of_ble_eq_true rfl)
theorem k_258_1186 : lk 258 1186 = some (.if_icmp .eq 562, 1189, 1748, 0, .null) := by decide +kernel
theorem x_258_1186 : Tr sc d 258 (1186, [l0, l1, l2, l3], [.int i1, .int i0], h) Q = if i0 = i1 then Tr sc d 258 (1748, [l0, l1, l2, l3], [], h) Q else Tr sc d 258 (1189, [l0, l1, l2, l3], [], h) Q := t_if k_258_1186 rfl
theorem k_258_1189 : lk 258 1189 = some (.iconst 0, 1190, 0, 0, .int 0) := by decide +kernel
theorem x_258_1189 : Tr sc d 258 (1189, [l0, l1, l2, l3], [], h) Q = Tr sc d 258 (1190, [l0, l1, l2, l3], [.int 0], h) Q := t_go k_258_1189 rfl
theorem k_258_1190 : lk 258 1190 = some (.ireturn, 1191, 0, 0, .null) := by decide +kernel
theorem x_258_1190 : Tr sc d 258 (1190, [l0, l1, l2, l3], [.int i0], h) Q = (vp_nar .boolean i0 = i0 ∧ Q (some (.int i0), h)) := t_zret k_258_1190 r_258
theorem k_258_1191 : lk 258 1191 = some (.aload_n 1, 1192, 1, 0, .null) := by decide +kernel
theorem x_258_1191 : Tr sc d 258 (1191, [l0, some (.ref xk), l2, l3], [], h) Q = Tr sc d 258 (1192, [l0, some (.ref xk), l2, l3], [.ref xk], h) Q := t_aload_n k_258_1191 rfl
theorem k_258_1192 : lk 258 1192 = some (.aload_n 0, 1193, 0, 0, .null) := by decide +kernel
theorem x_258_1192 : Tr sc d 258 (1192, [some (.ref xk), l1, l2, l3], [.ref k0], h) Q = Tr sc d 258 (1193, [some (.ref xk), l1, l2, l3], [.ref xk, .ref k0], h) Q := t_aload_n k_258_1192 rfl
theorem k_258_1193 : lk 258 1193 = some (.iload_n 3, 1194, 3, 0, .null) := by decide +kernel
theorem x_258_1193 : Tr sc d 258 (1193, [l0, l1, l2, some (.int x)], [.ref k1, .ref k0], h) Q = Tr sc d 258 (1194, [l0, l1, l2, some (.int x)], [.int x, .ref k1, .ref k0], h) Q := t_iload_n k_258_1193 rfl
theorem k_258_1194 : lk 258 1194 = some (.iconst 1, 1195, 0, 0, .int 1) := by decide +kernel
theorem x_258_1194 : Tr sc d 258 (1194, [l0, l1, l2, l3], [.int i2, .ref k1, .ref k0], h) Q = Tr sc d 258 (1195, [l0, l1, l2, l3], [.int 1, .int i2, .ref k1, .ref k0], h) Q := t_go k_258_1194 rfl
theorem k_258_1195 : lk 258 1195 = some (.iadd, 1196, 0, 0, .null) := by decide +kernel
theorem x_258_1195 : Tr sc d 258 (1195, [l0, l1, l2, l3], [.int i3, .int i2, .ref k1, .ref k0], h) Q = Tr sc d 258 (1196, [l0, l1, l2, l3], [.int (i2 + i3), .ref k1, .ref k0], h) Q := t_go k_258_1195 rfl
theorem k_258_1196 : lk 258 1196 = some (.iaload, 1197, 0, 0, .null) := by decide +kernel
theorem x_258_1196 : Tr sc d 258 (1196, [l0, l1, l2, l3], [.int i2, .ref k1, .ref k0], h) Q = (iOk sc h k1 i2 ∧ Tr sc d 258 (1197, [l0, l1, l2, l3], [.int (iRd sc h k1 i2), .ref k0], h) Q) := t_iald k_258_1196
theorem k_258_1197 : lk 258 1197 = some (.aload_n 0, 1198, 0, 0, .null) := by decide +kernel
theorem x_258_1197 : Tr sc d 258 (1197, [some (.ref xk), l1, l2, l3], [.int i1, .ref k0], h) Q = Tr sc d 258 (1198, [some (.ref xk), l1, l2, l3], [.ref xk, .int i1, .ref k0], h) Q := t_aload_n k_258_1197 rfl
theorem k_258_1198 : lk 258 1198 = some (.iload_n 3, 1199, 3, 0, .null) := by decide +kernel
theorem x_258_1198 : Tr sc d 258 (1198, [l0, l1, l2, some (.int x)], [.ref k2, .int i1, .ref k0], h) Q = Tr sc d 258 (1199, [l0, l1, l2, some (.int x)], [.int x, .ref k2, .int i1, .ref k0], h) Q := t_iload_n k_258_1198 rfl
theorem k_258_1199 : lk 258 1199 = some (.iconst 2, 1200, 0, 0, .int 2) := by decide +kernel
theorem x_258_1199 : Tr sc d 258 (1199, [l0, l1, l2, l3], [.int i3, .ref k2, .int i1, .ref k0], h) Q = Tr sc d 258 (1200, [l0, l1, l2, l3], [.int 2, .int i3, .ref k2, .int i1, .ref k0], h) Q := t_go k_258_1199 rfl
theorem k_258_1200 : lk 258 1200 = some (.iadd, 1201, 0, 0, .null) := by decide +kernel
theorem x_258_1200 : Tr sc d 258 (1200, [l0, l1, l2, l3], [.int i4, .int i3, .ref k2, .int i1, .ref k0], h) Q = Tr sc d 258 (1201, [l0, l1, l2, l3], [.int (i3 + i4), .ref k2, .int i1, .ref k0], h) Q := t_go k_258_1200 rfl
theorem k_258_1201 : lk 258 1201 = some (.iaload, 1202, 0, 0, .null) := by decide +kernel
theorem x_258_1201 : Tr sc d 258 (1201, [l0, l1, l2, l3], [.int i3, .ref k2, .int i1, .ref k0], h) Q = (iOk sc h k2 i3 ∧ Tr sc d 258 (1202, [l0, l1, l2, l3], [.int (iRd sc h k2 i3), .int i1, .ref k0], h) Q) := t_iald k_258_1201
theorem k_258_1202 : lk 258 1202 = some (.invokevirtual 120, 1205, 121, 2, .null) := by decide +kernel
theorem x_258_1202 : Tr sc (d + 1) 258 (1202, [l0, l1, l2, l3], [.int i2, .int i1, .ref k0], h) Q = (okp h k0 9 = true ∧ Tr sc d 121 (ent0 121 [.ref k0, .int i1, .int i2] h) (fun z => Tr sc (d + 1) 258 (1205, [l0, l1, l2, l3], z.1.toList ++ [], z.2) Q)) := t_cv (as := [.int i1, .int i2]) (r := []) k_258_1202 rfl rfl (Nat.le_of_ble_eq_true rfl) (Nat.le_of_ble_eq_true rfl) (Nat.le_of_ble_eq_true rfl)
theorem k_258_1205 : lk 258 1205 = some (.aload_n 2, 1206, 2, 0, .null) := by decide +kernel
theorem x_258_1205 : Tr sc d 258 (1205, [l0, l1, some (.ref xk), l3], [.int i0], h) Q = Tr sc d 258 (1206, [l0, l1, some (.ref xk), l3], [.ref xk, .int i0], h) Q := t_aload_n k_258_1205 rfl
theorem k_258_1206 : lk 258 1206 = some (.aload_n 0, 1207, 0, 0, .null) := by decide +kernel
theorem x_258_1206 : Tr sc d 258 (1206, [some (.ref xk), l1, l2, l3], [.ref k1, .int i0], h) Q = Tr sc d 258 (1207, [some (.ref xk), l1, l2, l3], [.ref xk, .ref k1, .int i0], h) Q := t_aload_n k_258_1206 rfl
theorem k_258_1207 : lk 258 1207 = some (.iload_n 3, 1208, 3, 0, .null) := by decide +kernel
theorem x_258_1207 : Tr sc d 258 (1207, [l0, l1, l2, some (.int x)], [.ref k2, .ref k1, .int i0], h) Q = Tr sc d 258 (1208, [l0, l1, l2, some (.int x)], [.int x, .ref k2, .ref k1, .int i0], h) Q := t_iload_n k_258_1207 rfl
theorem k_258_1208 : lk 258 1208 = some (.iconst 1, 1209, 0, 0, .int 1) := by decide +kernel
theorem x_258_1208 : Tr sc d 258 (1208, [l0, l1, l2, l3], [.int i3, .ref k2, .ref k1, .int i0], h) Q = Tr sc d 258 (1209, [l0, l1, l2, l3], [.int 1, .int i3, .ref k2, .ref k1, .int i0], h) Q := t_go k_258_1208 rfl
theorem k_258_1209 : lk 258 1209 = some (.iadd, 1210, 0, 0, .null) := by decide +kernel
theorem x_258_1209 : Tr sc d 258 (1209, [l0, l1, l2, l3], [.int i4, .int i3, .ref k2, .ref k1, .int i0], h) Q = Tr sc d 258 (1210, [l0, l1, l2, l3], [.int (i3 + i4), .ref k2, .ref k1, .int i0], h) Q := t_go k_258_1209 rfl
theorem k_258_1210 : lk 258 1210 = some (.iaload, 1211, 0, 0, .null) := by decide +kernel
theorem x_258_1210 : Tr sc d 258 (1210, [l0, l1, l2, l3], [.int i3, .ref k2, .ref k1, .int i0], h) Q = (iOk sc h k2 i3 ∧ Tr sc d 258 (1211, [l0, l1, l2, l3], [.int (iRd sc h k2 i3), .ref k1, .int i0], h) Q) := t_iald k_258_1210
theorem k_258_1211 : lk 258 1211 = some (.aload_n 0, 1212, 0, 0, .null) := by decide +kernel
theorem x_258_1211 : Tr sc d 258 (1211, [some (.ref xk), l1, l2, l3], [.int i2, .ref k1, .int i0], h) Q = Tr sc d 258 (1212, [some (.ref xk), l1, l2, l3], [.ref xk, .int i2, .ref k1, .int i0], h) Q := t_aload_n k_258_1211 rfl
theorem k_258_1212 : lk 258 1212 = some (.iload_n 3, 1213, 3, 0, .null) := by decide +kernel
theorem x_258_1212 : Tr sc d 258 (1212, [l0, l1, l2, some (.int x)], [.ref k3, .int i2, .ref k1, .int i0], h) Q = Tr sc d 258 (1213, [l0, l1, l2, some (.int x)], [.int x, .ref k3, .int i2, .ref k1, .int i0], h) Q := t_iload_n k_258_1212 rfl
theorem k_258_1213 : lk 258 1213 = some (.iconst 2, 1214, 0, 0, .int 2) := by decide +kernel
theorem x_258_1213 : Tr sc d 258 (1213, [l0, l1, l2, l3], [.int i4, .ref k3, .int i2, .ref k1, .int i0], h) Q = Tr sc d 258 (1214, [l0, l1, l2, l3], [.int 2, .int i4, .ref k3, .int i2, .ref k1, .int i0], h) Q := t_go k_258_1213 rfl
theorem k_258_1214 : lk 258 1214 = some (.iadd, 1215, 0, 0, .null) := by decide +kernel
theorem x_258_1214 : Tr sc d 258 (1214, [l0, l1, l2, l3], [.int i5, .int i4, .ref k3, .int i2, .ref k1, .int i0], h) Q = Tr sc d 258 (1215, [l0, l1, l2, l3], [.int (i4 + i5), .ref k3, .int i2, .ref k1, .int i0], h) Q := t_go k_258_1214 rfl
theorem k_258_1215 : lk 258 1215 = some (.iaload, 1216, 0, 0, .null) := by decide +kernel
theorem x_258_1215 : Tr sc d 258 (1215, [l0, l1, l2, l3], [.int i4, .ref k3, .int i2, .ref k1, .int i0], h) Q = (iOk sc h k3 i4 ∧ Tr sc d 258 (1216, [l0, l1, l2, l3], [.int (iRd sc h k3 i4), .int i2, .ref k1, .int i0], h) Q) := t_iald k_258_1215
theorem k_258_1216 : lk 258 1216 = some (.invokevirtual 123, 1219, 221, 2, .null) := by decide +kernel
theorem x_258_1216 : Tr sc (d + 1) 258 (1216, [l0, l1, l2, l3], [.int i3, .int i2, .ref k1, .int i0], h) Q = (okp h k1 10 = true ∧ Tr sc d 221 (ent0 221 [.ref k1, .int i2, .int i3] h) (fun z => Tr sc (d + 1) 258 (1219, [l0, l1, l2, l3], z.1.toList ++ [.int i0], z.2) Q)) := t_cv (as := [.int i2, .int i3]) (r := [.int i0]) k_258_1216 rfl rfl (Nat.le_of_ble_eq_true rfl) (Nat.le_of_ble_eq_true rfl) (Nat.le_of_ble_eq_true rfl)
theorem k_258_1219 : lk 258 1219 = some (.if_icmp .eq 529, 1222, 1748, 0, .null) := by decide +kernel
theorem x_258_1219 : Tr sc d 258 (1219, [l0, l1, l2, l3], [.int i1, .int i0], h) Q = if i0 = i1 then Tr sc d 258 (1748, [l0, l1, l2, l3], [], h) Q else Tr sc d 258 (1222, [l0, l1, l2, l3], [], h) Q := t_if k_258_1219 rfl
theorem k_258_1222 : lk 258 1222 = some (.iconst 0, 1223, 0, 0, .int 0) := by decide +kernel
theorem x_258_1222 : Tr sc d 258 (1222, [l0, l1, l2, l3], [], h) Q = Tr sc d 258 (1223, [l0, l1, l2, l3], [.int 0], h) Q := t_go k_258_1222 rfl
theorem k_258_1223 : lk 258 1223 = some (.ireturn, 1224, 0, 0, .null) := by decide +kernel
theorem x_258_1223 : Tr sc d 258 (1223, [l0, l1, l2, l3], [.int i0], h) Q = (vp_nar .boolean i0 = i0 ∧ Q (some (.int i0), h)) := t_zret k_258_1223 r_258
theorem k_258_1224 : lk 258 1224 = some (.aload_n 1, 1225, 1, 0, .null) := by decide +kernel
theorem x_258_1224 : Tr sc d 258 (1224, [l0, some (.ref xk), l2, l3], [], h) Q = Tr sc d 258 (1225, [l0, some (.ref xk), l2, l3], [.ref xk], h) Q := t_aload_n k_258_1224 rfl
theorem k_258_1225 : lk 258 1225 = some (.aload_n 0, 1226, 0, 0, .null) := by decide +kernel
theorem x_258_1225 : Tr sc d 258 (1225, [some (.ref xk), l1, l2, l3], [.ref k0], h) Q = Tr sc d 258 (1226, [some (.ref xk), l1, l2, l3], [.ref xk, .ref k0], h) Q := t_aload_n k_258_1225 rfl
theorem k_258_1226 : lk 258 1226 = some (.iload_n 3, 1227, 3, 0, .null) := by decide +kernel
theorem x_258_1226 : Tr sc d 258 (1226, [l0, l1, l2, some (.int x)], [.ref k1, .ref k0], h) Q = Tr sc d 258 (1227, [l0, l1, l2, some (.int x)], [.int x, .ref k1, .ref k0], h) Q := t_iload_n k_258_1226 rfl
theorem k_258_1227 : lk 258 1227 = some (.iconst 1, 1228, 0, 0, .int 1) := by decide +kernel
theorem x_258_1227 : Tr sc d 258 (1227, [l0, l1, l2, l3], [.int i2, .ref k1, .ref k0], h) Q = Tr sc d 258 (1228, [l0, l1, l2, l3], [.int 1, .int i2, .ref k1, .ref k0], h) Q := t_go k_258_1227 rfl
theorem k_258_1228 : lk 258 1228 = some (.iadd, 1229, 0, 0, .null) := by decide +kernel
theorem x_258_1228 : Tr sc d 258 (1228, [l0, l1, l2, l3], [.int i3, .int i2, .ref k1, .ref k0], h) Q = Tr sc d 258 (1229, [l0, l1, l2, l3], [.int (i2 + i3), .ref k1, .ref k0], h) Q := t_go k_258_1228 rfl
theorem k_258_1229 : lk 258 1229 = some (.iaload, 1230, 0, 0, .null) := by decide +kernel
theorem x_258_1229 : Tr sc d 258 (1229, [l0, l1, l2, l3], [.int i2, .ref k1, .ref k0], h) Q = (iOk sc h k1 i2 ∧ Tr sc d 258 (1230, [l0, l1, l2, l3], [.int (iRd sc h k1 i2), .ref k0], h) Q) := t_iald k_258_1229
theorem k_258_1230 : lk 258 1230 = some (.invokevirtual 124, 1233, 122, 1, .null) := by decide +kernel
theorem x_258_1230 : Tr sc (d + 1) 258 (1230, [l0, l1, l2, l3], [.int i1, .ref k0], h) Q = (okp h k0 9 = true ∧ Tr sc d 122 (ent0 122 [.ref k0, .int i1] h) (fun z => Tr sc (d + 1) 258 (1233, [l0, l1, l2, l3], z.1.toList ++ [], z.2) Q)) := t_cv (as := [.int i1]) (r := []) k_258_1230 rfl rfl (Nat.le_of_ble_eq_true rfl) (Nat.le_of_ble_eq_true rfl) (Nat.le_of_ble_eq_true rfl)
theorem k_258_1233 : lk 258 1233 = some (.aload_n 2, 1234, 2, 0, .null) := by decide +kernel
theorem x_258_1233 : Tr sc d 258 (1233, [l0, l1, some (.ref xk), l3], [.int i0], h) Q = Tr sc d 258 (1234, [l0, l1, some (.ref xk), l3], [.ref xk, .int i0], h) Q := t_aload_n k_258_1233 rfl
theorem k_258_1234 : lk 258 1234 = some (.aload_n 0, 1235, 0, 0, .null) := by decide +kernel
theorem x_258_1234 : Tr sc d 258 (1234, [some (.ref xk), l1, l2, l3], [.ref k1, .int i0], h) Q = Tr sc d 258 (1235, [some (.ref xk), l1, l2, l3], [.ref xk, .ref k1, .int i0], h) Q := t_aload_n k_258_1234 rfl
theorem k_258_1235 : lk 258 1235 = some (.iload_n 3, 1236, 3, 0, .null) := by decide +kernel
theorem x_258_1235 : Tr sc d 258 (1235, [l0, l1, l2, some (.int x)], [.ref k2, .ref k1, .int i0], h) Q = Tr sc d 258 (1236, [l0, l1, l2, some (.int x)], [.int x, .ref k2, .ref k1, .int i0], h) Q := t_iload_n k_258_1235 rfl
theorem k_258_1236 : lk 258 1236 = some (.iconst 1, 1237, 0, 0, .int 1) := by decide +kernel
theorem x_258_1236 : Tr sc d 258 (1236, [l0, l1, l2, l3], [.int i3, .ref k2, .ref k1, .int i0], h) Q = Tr sc d 258 (1237, [l0, l1, l2, l3], [.int 1, .int i3, .ref k2, .ref k1, .int i0], h) Q := t_go k_258_1236 rfl
theorem k_258_1237 : lk 258 1237 = some (.iadd, 1238, 0, 0, .null) := by decide +kernel
theorem x_258_1237 : Tr sc d 258 (1237, [l0, l1, l2, l3], [.int i4, .int i3, .ref k2, .ref k1, .int i0], h) Q = Tr sc d 258 (1238, [l0, l1, l2, l3], [.int (i3 + i4), .ref k2, .ref k1, .int i0], h) Q := t_go k_258_1237 rfl
theorem k_258_1238 : lk 258 1238 = some (.iaload, 1239, 0, 0, .null) := by decide +kernel
theorem x_258_1238 : Tr sc d 258 (1238, [l0, l1, l2, l3], [.int i3, .ref k2, .ref k1, .int i0], h) Q = (iOk sc h k2 i3 ∧ Tr sc d 258 (1239, [l0, l1, l2, l3], [.int (iRd sc h k2 i3), .ref k1, .int i0], h) Q) := t_iald k_258_1238
theorem k_258_1239 : lk 258 1239 = some (.invokevirtual 127, 1242, 222, 1, .null) := by decide +kernel
theorem x_258_1239 : Tr sc (d + 1) 258 (1239, [l0, l1, l2, l3], [.int i2, .ref k1, .int i0], h) Q = (okp h k1 10 = true ∧ Tr sc d 222 (ent0 222 [.ref k1, .int i2] h) (fun z => Tr sc (d + 1) 258 (1242, [l0, l1, l2, l3], z.1.toList ++ [.int i0], z.2) Q)) := t_cv (as := [.int i2]) (r := [.int i0]) k_258_1239 rfl rfl (Nat.le_of_ble_eq_true rfl) (Nat.le_of_ble_eq_true rfl) (Nat.le_of_ble_eq_true rfl)
theorem k_258_1242 : lk 258 1242 = some (.if_icmp .eq 506, 1245, 1748, 0, .null) := by decide +kernel
theorem x_258_1242 : Tr sc d 258 (1242, [l0, l1, l2, l3], [.int i1, .int i0], h) Q = if i0 = i1 then Tr sc d 258 (1748, [l0, l1, l2, l3], [], h) Q else Tr sc d 258 (1245, [l0, l1, l2, l3], [], h) Q := t_if k_258_1242 rfl
theorem k_258_1245 : lk 258 1245 = some (.iconst 0, 1246, 0, 0, .int 0) := by decide +kernel
theorem x_258_1245 : Tr sc d 258 (1245, [l0, l1, l2, l3], [], h) Q = Tr sc d 258 (1246, [l0, l1, l2, l3], [.int 0], h) Q := t_go k_258_1245 rfl
theorem k_258_1246 : lk 258 1246 = some (.ireturn, 1247, 0, 0, .null) := by decide +kernel
theorem x_258_1246 : Tr sc d 258 (1246, [l0, l1, l2, l3], [.int i0], h) Q = (vp_nar .boolean i0 = i0 ∧ Q (some (.int i0), h)) := t_zret k_258_1246 r_258
theorem k_258_1247 : lk 258 1247 = some (.aload_n 1, 1248, 1, 0, .null) := by decide +kernel
theorem x_258_1247 : Tr sc d 258 (1247, [l0, some (.ref xk), l2, l3], [], h) Q = Tr sc d 258 (1248, [l0, some (.ref xk), l2, l3], [.ref xk], h) Q := t_aload_n k_258_1247 rfl
theorem k_258_1248 : lk 258 1248 = some (.aload_n 0, 1249, 0, 0, .null) := by decide +kernel
theorem x_258_1248 : Tr sc d 258 (1248, [some (.ref xk), l1, l2, l3], [.ref k0], h) Q = Tr sc d 258 (1249, [some (.ref xk), l1, l2, l3], [.ref xk, .ref k0], h) Q := t_aload_n k_258_1248 rfl
theorem k_258_1249 : lk 258 1249 = some (.iload_n 3, 1250, 3, 0, .null) := by decide +kernel
theorem x_258_1249 : Tr sc d 258 (1249, [l0, l1, l2, some (.int x)], [.ref k1, .ref k0], h) Q = Tr sc d 258 (1250, [l0, l1, l2, some (.int x)], [.int x, .ref k1, .ref k0], h) Q := t_iload_n k_258_1249 rfl
theorem k_258_1250 : lk 258 1250 = some (.iconst 1, 1251, 0, 0, .int 1) := by decide +kernel
theorem x_258_1250 : Tr sc d 258 (1250, [l0, l1, l2, l3], [.int i2, .ref k1, .ref k0], h) Q = Tr sc d 258 (1251, [l0, l1, l2, l3], [.int 1, .int i2, .ref k1, .ref k0], h) Q := t_go k_258_1250 rfl
theorem k_258_1251 : lk 258 1251 = some (.iadd, 1252, 0, 0, .null) := by decide +kernel
theorem x_258_1251 : Tr sc d 258 (1251, [l0, l1, l2, l3], [.int i3, .int i2, .ref k1, .ref k0], h) Q = Tr sc d 258 (1252, [l0, l1, l2, l3], [.int (i2 + i3), .ref k1, .ref k0], h) Q := t_go k_258_1251 rfl
theorem k_258_1252 : lk 258 1252 = some (.iaload, 1253, 0, 0, .null) := by decide +kernel
theorem x_258_1252 : Tr sc d 258 (1252, [l0, l1, l2, l3], [.int i2, .ref k1, .ref k0], h) Q = (iOk sc h k1 i2 ∧ Tr sc d 258 (1253, [l0, l1, l2, l3], [.int (iRd sc h k1 i2), .ref k0], h) Q) := t_iald k_258_1252
theorem k_258_1253 : lk 258 1253 = some (.aload_n 0, 1254, 0, 0, .null) := by decide +kernel
theorem x_258_1253 : Tr sc d 258 (1253, [some (.ref xk), l1, l2, l3], [.int i1, .ref k0], h) Q = Tr sc d 258 (1254, [some (.ref xk), l1, l2, l3], [.ref xk, .int i1, .ref k0], h) Q := t_aload_n k_258_1253 rfl
theorem k_258_1254 : lk 258 1254 = some (.iload_n 3, 1255, 3, 0, .null) := by decide +kernel
theorem x_258_1254 : Tr sc d 258 (1254, [l0, l1, l2, some (.int x)], [.ref k2, .int i1, .ref k0], h) Q = Tr sc d 258 (1255, [l0, l1, l2, some (.int x)], [.int x, .ref k2, .int i1, .ref k0], h) Q := t_iload_n k_258_1254 rfl
theorem k_258_1255 : lk 258 1255 = some (.iconst 2, 1256, 0, 0, .int 2) := by decide +kernel
theorem x_258_1255 : Tr sc d 258 (1255, [l0, l1, l2, l3], [.int i3, .ref k2, .int i1, .ref k0], h) Q = Tr sc d 258 (1256, [l0, l1, l2, l3], [.int 2, .int i3, .ref k2, .int i1, .ref k0], h) Q := t_go k_258_1255 rfl
theorem k_258_1256 : lk 258 1256 = some (.iadd, 1257, 0, 0, .null) := by decide +kernel
theorem x_258_1256 : Tr sc d 258 (1256, [l0, l1, l2, l3], [.int i4, .int i3, .ref k2, .int i1, .ref k0], h) Q = Tr sc d 258 (1257, [l0, l1, l2, l3], [.int (i3 + i4), .ref k2, .int i1, .ref k0], h) Q := t_go k_258_1256 rfl
theorem k_258_1257 : lk 258 1257 = some (.iaload, 1258, 0, 0, .null) := by decide +kernel
theorem x_258_1257 : Tr sc d 258 (1257, [l0, l1, l2, l3], [.int i3, .ref k2, .int i1, .ref k0], h) Q = (iOk sc h k2 i3 ∧ Tr sc d 258 (1258, [l0, l1, l2, l3], [.int (iRd sc h k2 i3), .int i1, .ref k0], h) Q) := t_iald k_258_1257
theorem k_258_1258 : lk 258 1258 = some (.invokevirtual 128, 1261, 123, 2, .null) := by decide +kernel
theorem x_258_1258 : Tr sc (d + 1) 258 (1258, [l0, l1, l2, l3], [.int i2, .int i1, .ref k0], h) Q = (okp h k0 9 = true ∧ Tr sc d 123 (ent0 123 [.ref k0, .int i1, .int i2] h) (fun z => Tr sc (d + 1) 258 (1261, [l0, l1, l2, l3], z.1.toList ++ [], z.2) Q)) := t_cv (as := [.int i1, .int i2]) (r := []) k_258_1258 rfl rfl (Nat.le_of_ble_eq_true rfl) (Nat.le_of_ble_eq_true rfl) (Nat.le_of_ble_eq_true rfl)
theorem k_258_1261 : lk 258 1261 = some (.aload_n 2, 1262, 2, 0, .null) := by decide +kernel
theorem x_258_1261 : Tr sc d 258 (1261, [l0, l1, some (.ref xk), l3], [.int i0], h) Q = Tr sc d 258 (1262, [l0, l1, some (.ref xk), l3], [.ref xk, .int i0], h) Q := t_aload_n k_258_1261 rfl
theorem k_258_1262 : lk 258 1262 = some (.aload_n 0, 1263, 0, 0, .null) := by decide +kernel
theorem x_258_1262 : Tr sc d 258 (1262, [some (.ref xk), l1, l2, l3], [.ref k1, .int i0], h) Q = Tr sc d 258 (1263, [some (.ref xk), l1, l2, l3], [.ref xk, .ref k1, .int i0], h) Q := t_aload_n k_258_1262 rfl
theorem k_258_1263 : lk 258 1263 = some (.iload_n 3, 1264, 3, 0, .null) := by decide +kernel
theorem x_258_1263 : Tr sc d 258 (1263, [l0, l1, l2, some (.int x)], [.ref k2, .ref k1, .int i0], h) Q = Tr sc d 258 (1264, [l0, l1, l2, some (.int x)], [.int x, .ref k2, .ref k1, .int i0], h) Q := t_iload_n k_258_1263 rfl
theorem k_258_1264 : lk 258 1264 = some (.iconst 1, 1265, 0, 0, .int 1) := by decide +kernel
theorem x_258_1264 : Tr sc d 258 (1264, [l0, l1, l2, l3], [.int i3, .ref k2, .ref k1, .int i0], h) Q = Tr sc d 258 (1265, [l0, l1, l2, l3], [.int 1, .int i3, .ref k2, .ref k1, .int i0], h) Q := t_go k_258_1264 rfl
theorem k_258_1265 : lk 258 1265 = some (.iadd, 1266, 0, 0, .null) := by decide +kernel
theorem x_258_1265 : Tr sc d 258 (1265, [l0, l1, l2, l3], [.int i4, .int i3, .ref k2, .ref k1, .int i0], h) Q = Tr sc d 258 (1266, [l0, l1, l2, l3], [.int (i3 + i4), .ref k2, .ref k1, .int i0], h) Q := t_go k_258_1265 rfl
theorem k_258_1266 : lk 258 1266 = some (.iaload, 1267, 0, 0, .null) := by decide +kernel
theorem x_258_1266 : Tr sc d 258 (1266, [l0, l1, l2, l3], [.int i3, .ref k2, .ref k1, .int i0], h) Q = (iOk sc h k2 i3 ∧ Tr sc d 258 (1267, [l0, l1, l2, l3], [.int (iRd sc h k2 i3), .ref k1, .int i0], h) Q) := t_iald k_258_1266
theorem k_258_1267 : lk 258 1267 = some (.aload_n 0, 1268, 0, 0, .null) := by decide +kernel
theorem x_258_1267 : Tr sc d 258 (1267, [some (.ref xk), l1, l2, l3], [.int i2, .ref k1, .int i0], h) Q = Tr sc d 258 (1268, [some (.ref xk), l1, l2, l3], [.ref xk, .int i2, .ref k1, .int i0], h) Q := t_aload_n k_258_1267 rfl
theorem k_258_1268 : lk 258 1268 = some (.iload_n 3, 1269, 3, 0, .null) := by decide +kernel
theorem x_258_1268 : Tr sc d 258 (1268, [l0, l1, l2, some (.int x)], [.ref k3, .int i2, .ref k1, .int i0], h) Q = Tr sc d 258 (1269, [l0, l1, l2, some (.int x)], [.int x, .ref k3, .int i2, .ref k1, .int i0], h) Q := t_iload_n k_258_1268 rfl
theorem k_258_1269 : lk 258 1269 = some (.iconst 2, 1270, 0, 0, .int 2) := by decide +kernel
theorem x_258_1269 : Tr sc d 258 (1269, [l0, l1, l2, l3], [.int i4, .ref k3, .int i2, .ref k1, .int i0], h) Q = Tr sc d 258 (1270, [l0, l1, l2, l3], [.int 2, .int i4, .ref k3, .int i2, .ref k1, .int i0], h) Q := t_go k_258_1269 rfl
theorem k_258_1270 : lk 258 1270 = some (.iadd, 1271, 0, 0, .null) := by decide +kernel
theorem x_258_1270 : Tr sc d 258 (1270, [l0, l1, l2, l3], [.int i5, .int i4, .ref k3, .int i2, .ref k1, .int i0], h) Q = Tr sc d 258 (1271, [l0, l1, l2, l3], [.int (i4 + i5), .ref k3, .int i2, .ref k1, .int i0], h) Q := t_go k_258_1270 rfl
theorem k_258_1271 : lk 258 1271 = some (.iaload, 1272, 0, 0, .null) := by decide +kernel
theorem x_258_1271 : Tr sc d 258 (1271, [l0, l1, l2, l3], [.int i4, .ref k3, .int i2, .ref k1, .int i0], h) Q = (iOk sc h k3 i4 ∧ Tr sc d 258 (1272, [l0, l1, l2, l3], [.int (iRd sc h k3 i4), .int i2, .ref k1, .int i0], h) Q) := t_iald k_258_1271
theorem k_258_1272 : lk 258 1272 = some (.invokevirtual 131, 1275, 227, 2, .null) := by decide +kernel
theorem x_258_1272 : Tr sc (d + 1) 258 (1272, [l0, l1, l2, l3], [.int i3, .int i2, .ref k1, .int i0], h) Q = (okp h k1 10 = true ∧ Tr sc d 227 (ent0 227 [.ref k1, .int i2, .int i3] h) (fun z => Tr sc (d + 1) 258 (1275, [l0, l1, l2, l3], z.1.toList ++ [.int i0], z.2) Q)) := t_cv (as := [.int i2, .int i3]) (r := [.int i0]) k_258_1272 rfl rfl (Nat.le_of_ble_eq_true rfl) (Nat.le_of_ble_eq_true rfl) (Nat.le_of_ble_eq_true rfl)
theorem k_258_1275 : lk 258 1275 = some (.if_icmp .eq 473, 1278, 1748, 0, .null) := by decide +kernel
theorem x_258_1275 : Tr sc d 258 (1275, [l0, l1, l2, l3], [.int i1, .int i0], h) Q = if i0 = i1 then Tr sc d 258 (1748, [l0, l1, l2, l3], [], h) Q else Tr sc d 258 (1278, [l0, l1, l2, l3], [], h) Q := t_if k_258_1275 rfl
theorem k_258_1278 : lk 258 1278 = some (.iconst 0, 1279, 0, 0, .int 0) := by decide +kernel
theorem x_258_1278 : Tr sc d 258 (1278, [l0, l1, l2, l3], [], h) Q = Tr sc d 258 (1279, [l0, l1, l2, l3], [.int 0], h) Q := t_go k_258_1278 rfl
theorem k_258_1279 : lk 258 1279 = some (.ireturn, 1280, 0, 0, .null) := by decide +kernel
theorem x_258_1279 : Tr sc d 258 (1279, [l0, l1, l2, l3], [.int i0], h) Q = (vp_nar .boolean i0 = i0 ∧ Q (some (.int i0), h)) := t_zret k_258_1279 r_258
theorem k_258_1280 : lk 258 1280 = some (.aload_n 1, 1281, 1, 0, .null) := by decide +kernel
theorem x_258_1280 : Tr sc d 258 (1280, [l0, some (.ref xk), l2, l3], [], h) Q = Tr sc d 258 (1281, [l0, some (.ref xk), l2, l3], [.ref xk], h) Q := t_aload_n k_258_1280 rfl
theorem k_258_1281 : lk 258 1281 = some (.aload_n 0, 1282, 0, 0, .null) := by decide +kernel
theorem x_258_1281 : Tr sc d 258 (1281, [some (.ref xk), l1, l2, l3], [.ref k0], h) Q = Tr sc d 258 (1282, [some (.ref xk), l1, l2, l3], [.ref xk, .ref k0], h) Q := t_aload_n k_258_1281 rfl
theorem k_258_1282 : lk 258 1282 = some (.iload_n 3, 1283, 3, 0, .null) := by decide +kernel
theorem x_258_1282 : Tr sc d 258 (1282, [l0, l1, l2, some (.int x)], [.ref k1, .ref k0], h) Q = Tr sc d 258 (1283, [l0, l1, l2, some (.int x)], [.int x, .ref k1, .ref k0], h) Q := t_iload_n k_258_1282 rfl
theorem k_258_1283 : lk 258 1283 = some (.iconst 1, 1284, 0, 0, .int 1) := by decide +kernel
theorem x_258_1283 : Tr sc d 258 (1283, [l0, l1, l2, l3], [.int i2, .ref k1, .ref k0], h) Q = Tr sc d 258 (1284, [l0, l1, l2, l3], [.int 1, .int i2, .ref k1, .ref k0], h) Q := t_go k_258_1283 rfl
theorem k_258_1284 : lk 258 1284 = some (.iadd, 1285, 0, 0, .null) := by decide +kernel
theorem x_258_1284 : Tr sc d 258 (1284, [l0, l1, l2, l3], [.int i3, .int i2, .ref k1, .ref k0], h) Q = Tr sc d 258 (1285, [l0, l1, l2, l3], [.int (i2 + i3), .ref k1, .ref k0], h) Q := t_go k_258_1284 rfl
theorem k_258_1285 : lk 258 1285 = some (.iaload, 1286, 0, 0, .null) := by decide +kernel
theorem x_258_1285 : Tr sc d 258 (1285, [l0, l1, l2, l3], [.int i2, .ref k1, .ref k0], h) Q = (iOk sc h k1 i2 ∧ Tr sc d 258 (1286, [l0, l1, l2, l3], [.int (iRd sc h k1 i2), .ref k0], h) Q) := t_iald k_258_1285
theorem k_258_1286 : lk 258 1286 = some (.aload_n 0, 1287, 0, 0, .null) := by decide +kernel
theorem x_258_1286 : Tr sc d 258 (1286, [some (.ref xk), l1, l2, l3], [.int i1, .ref k0], h) Q = Tr sc d 258 (1287, [some (.ref xk), l1, l2, l3], [.ref xk, .int i1, .ref k0], h) Q := t_aload_n k_258_1286 rfl
theorem k_258_1287 : lk 258 1287 = some (.iload_n 3, 1288, 3, 0, .null) := by decide +kernel
theorem x_258_1287 : Tr sc d 258 (1287, [l0, l1, l2, some (.int x)], [.ref k2, .int i1, .ref k0], h) Q = Tr sc d 258 (1288, [l0, l1, l2, some (.int x)], [.int x, .ref k2, .int i1, .ref k0], h) Q := t_iload_n k_258_1287 rfl
theorem k_258_1288 : lk 258 1288 = some (.iconst 2, 1289, 0, 0, .int 2) := by decide +kernel
theorem x_258_1288 : Tr sc d 258 (1288, [l0, l1, l2, l3], [.int i3, .ref k2, .int i1, .ref k0], h) Q = Tr sc d 258 (1289, [l0, l1, l2, l3], [.int 2, .int i3, .ref k2, .int i1, .ref k0], h) Q := t_go k_258_1288 rfl
theorem k_258_1289 : lk 258 1289 = some (.iadd, 1290, 0, 0, .null) := by decide +kernel
theorem x_258_1289 : Tr sc d 258 (1289, [l0, l1, l2, l3], [.int i4, .int i3, .ref k2, .int i1, .ref k0], h) Q = Tr sc d 258 (1290, [l0, l1, l2, l3], [.int (i3 + i4), .ref k2, .int i1, .ref k0], h) Q := t_go k_258_1289 rfl
theorem k_258_1290 : lk 258 1290 = some (.iaload, 1291, 0, 0, .null) := by decide +kernel
theorem x_258_1290 : Tr sc d 258 (1290, [l0, l1, l2, l3], [.int i3, .ref k2, .int i1, .ref k0], h) Q = (iOk sc h k2 i3 ∧ Tr sc d 258 (1291, [l0, l1, l2, l3], [.int (iRd sc h k2 i3), .int i1, .ref k0], h) Q) := t_iald k_258_1290
theorem k_258_1291 : lk 258 1291 = some (.invokevirtual 132, 1294, 124, 2, .null) := by decide +kernel
theorem x_258_1291 : Tr sc (d + 1) 258 (1291, [l0, l1, l2, l3], [.int i2, .int i1, .ref k0], h) Q = (okp h k0 9 = true ∧ Tr sc d 124 (ent0 124 [.ref k0, .int i1, .int i2] h) (fun z => Tr sc (d + 1) 258 (1294, [l0, l1, l2, l3], z.1.toList ++ [], z.2) Q)) := t_cv (as := [.int i1, .int i2]) (r := []) k_258_1291 rfl rfl (Nat.le_of_ble_eq_true rfl) (Nat.le_of_ble_eq_true rfl) (Nat.le_of_ble_eq_true rfl)
theorem k_258_1294 : lk 258 1294 = some (.aload_n 2, 1295, 2, 0, .null) := by decide +kernel
theorem x_258_1294 : Tr sc d 258 (1294, [l0, l1, some (.ref xk), l3], [.int i0], h) Q = Tr sc d 258 (1295, [l0, l1, some (.ref xk), l3], [.ref xk, .int i0], h) Q := t_aload_n k_258_1294 rfl
theorem k_258_1295 : lk 258 1295 = some (.aload_n 0, 1296, 0, 0, .null) := by decide +kernel
theorem x_258_1295 : Tr sc d 258 (1295, [some (.ref xk), l1, l2, l3], [.ref k1, .int i0], h) Q = Tr sc d 258 (1296, [some (.ref xk), l1, l2, l3], [.ref xk, .ref k1, .int i0], h) Q := t_aload_n k_258_1295 rfl
theorem k_258_1296 : lk 258 1296 = some (.iload_n 3, 1297, 3, 0, .null) := by decide +kernel
theorem x_258_1296 : Tr sc d 258 (1296, [l0, l1, l2, some (.int x)], [.ref k2, .ref k1, .int i0], h) Q = Tr sc d 258 (1297, [l0, l1, l2, some (.int x)], [.int x, .ref k2, .ref k1, .int i0], h) Q := t_iload_n k_258_1296 rfl
theorem k_258_1297 : lk 258 1297 = some (.iconst 1, 1298, 0, 0, .int 1) := by decide +kernel
theorem x_258_1297 : Tr sc d 258 (1297, [l0, l1, l2, l3], [.int i3, .ref k2, .ref k1, .int i0], h) Q = Tr sc d 258 (1298, [l0, l1, l2, l3], [.int 1, .int i3, .ref k2, .ref k1, .int i0], h) Q := t_go k_258_1297 rfl
theorem k_258_1298 : lk 258 1298 = some (.iadd, 1299, 0, 0, .null) := by decide +kernel
theorem x_258_1298 : Tr sc d 258 (1298, [l0, l1, l2, l3], [.int i4, .int i3, .ref k2, .ref k1, .int i0], h) Q = Tr sc d 258 (1299, [l0, l1, l2, l3], [.int (i3 + i4), .ref k2, .ref k1, .int i0], h) Q := t_go k_258_1298 rfl
theorem k_258_1299 : lk 258 1299 = some (.iaload, 1300, 0, 0, .null) := by decide +kernel
theorem x_258_1299 : Tr sc d 258 (1299, [l0, l1, l2, l3], [.int i3, .ref k2, .ref k1, .int i0], h) Q = (iOk sc h k2 i3 ∧ Tr sc d 258 (1300, [l0, l1, l2, l3], [.int (iRd sc h k2 i3), .ref k1, .int i0], h) Q) := t_iald k_258_1299
theorem k_258_1300 : lk 258 1300 = some (.aload_n 0, 1301, 0, 0, .null) := by decide +kernel
theorem x_258_1300 : Tr sc d 258 (1300, [some (.ref xk), l1, l2, l3], [.int i2, .ref k1, .int i0], h) Q = Tr sc d 258 (1301, [some (.ref xk), l1, l2, l3], [.ref xk, .int i2, .ref k1, .int i0], h) Q := t_aload_n k_258_1300 rfl
theorem k_258_1301 : lk 258 1301 = some (.iload_n 3, 1302, 3, 0, .null) := by decide +kernel
theorem x_258_1301 : Tr sc d 258 (1301, [l0, l1, l2, some (.int x)], [.ref k3, .int i2, .ref k1, .int i0], h) Q = Tr sc d 258 (1302, [l0, l1, l2, some (.int x)], [.int x, .ref k3, .int i2, .ref k1, .int i0], h) Q := t_iload_n k_258_1301 rfl
theorem k_258_1302 : lk 258 1302 = some (.iconst 2, 1303, 0, 0, .int 2) := by decide +kernel
theorem x_258_1302 : Tr sc d 258 (1302, [l0, l1, l2, l3], [.int i4, .ref k3, .int i2, .ref k1, .int i0], h) Q = Tr sc d 258 (1303, [l0, l1, l2, l3], [.int 2, .int i4, .ref k3, .int i2, .ref k1, .int i0], h) Q := t_go k_258_1302 rfl
theorem k_258_1303 : lk 258 1303 = some (.iadd, 1304, 0, 0, .null) := by decide +kernel
theorem x_258_1303 : Tr sc d 258 (1303, [l0, l1, l2, l3], [.int i5, .int i4, .ref k3, .int i2, .ref k1, .int i0], h) Q = Tr sc d 258 (1304, [l0, l1, l2, l3], [.int (i4 + i5), .ref k3, .int i2, .ref k1, .int i0], h) Q := t_go k_258_1303 rfl
theorem k_258_1304 : lk 258 1304 = some (.iaload, 1305, 0, 0, .null) := by decide +kernel
theorem x_258_1304 : Tr sc d 258 (1304, [l0, l1, l2, l3], [.int i4, .ref k3, .int i2, .ref k1, .int i0], h) Q = (iOk sc h k3 i4 ∧ Tr sc d 258 (1305, [l0, l1, l2, l3], [.int (iRd sc h k3 i4), .int i2, .ref k1, .int i0], h) Q) := t_iald k_258_1304
theorem k_258_1305 : lk 258 1305 = some (.invokevirtual 135, 1308, 228, 2, .null) := by decide +kernel
theorem x_258_1305 : Tr sc (d + 1) 258 (1305, [l0, l1, l2, l3], [.int i3, .int i2, .ref k1, .int i0], h) Q = (okp h k1 10 = true ∧ Tr sc d 228 (ent0 228 [.ref k1, .int i2, .int i3] h) (fun z => Tr sc (d + 1) 258 (1308, [l0, l1, l2, l3], z.1.toList ++ [.int i0], z.2) Q)) := t_cv (as := [.int i2, .int i3]) (r := [.int i0]) k_258_1305 rfl rfl (Nat.le_of_ble_eq_true rfl) (Nat.le_of_ble_eq_true rfl) (Nat.le_of_ble_eq_true rfl)
theorem k_258_1308 : lk 258 1308 = some (.if_icmp .eq 440, 1311, 1748, 0, .null) := by decide +kernel
theorem x_258_1308 : Tr sc d 258 (1308, [l0, l1, l2, l3], [.int i1, .int i0], h) Q = if i0 = i1 then Tr sc d 258 (1748, [l0, l1, l2, l3], [], h) Q else Tr sc d 258 (1311, [l0, l1, l2, l3], [], h) Q := t_if k_258_1308 rfl
theorem k_258_1311 : lk 258 1311 = some (.iconst 0, 1312, 0, 0, .int 0) := by decide +kernel
theorem x_258_1311 : Tr sc d 258 (1311, [l0, l1, l2, l3], [], h) Q = Tr sc d 258 (1312, [l0, l1, l2, l3], [.int 0], h) Q := t_go k_258_1311 rfl
theorem k_258_1312 : lk 258 1312 = some (.ireturn, 1313, 0, 0, .null) := by decide +kernel
theorem x_258_1312 : Tr sc d 258 (1312, [l0, l1, l2, l3], [.int i0], h) Q = (vp_nar .boolean i0 = i0 ∧ Q (some (.int i0), h)) := t_zret k_258_1312 r_258
theorem k_258_1313 : lk 258 1313 = some (.aload_n 1, 1314, 1, 0, .null) := by decide +kernel
theorem x_258_1313 : Tr sc d 258 (1313, [l0, some (.ref xk), l2, l3], [], h) Q = Tr sc d 258 (1314, [l0, some (.ref xk), l2, l3], [.ref xk], h) Q := t_aload_n k_258_1313 rfl
theorem k_258_1314 : lk 258 1314 = some (.aload_n 0, 1315, 0, 0, .null) := by decide +kernel
theorem x_258_1314 : Tr sc d 258 (1314, [some (.ref xk), l1, l2, l3], [.ref k0], h) Q = Tr sc d 258 (1315, [some (.ref xk), l1, l2, l3], [.ref xk, .ref k0], h) Q := t_aload_n k_258_1314 rfl
theorem k_258_1315 : lk 258 1315 = some (.iload_n 3, 1316, 3, 0, .null) := by decide +kernel
theorem x_258_1315 : Tr sc d 258 (1315, [l0, l1, l2, some (.int x)], [.ref k1, .ref k0], h) Q = Tr sc d 258 (1316, [l0, l1, l2, some (.int x)], [.int x, .ref k1, .ref k0], h) Q := t_iload_n k_258_1315 rfl
theorem k_258_1316 : lk 258 1316 = some (.iconst 1, 1317, 0, 0, .int 1) := by decide +kernel
theorem x_258_1316 : Tr sc d 258 (1316, [l0, l1, l2, l3], [.int i2, .ref k1, .ref k0], h) Q = Tr sc d 258 (1317, [l0, l1, l2, l3], [.int 1, .int i2, .ref k1, .ref k0], h) Q := t_go k_258_1316 rfl
theorem k_258_1317 : lk 258 1317 = some (.iadd, 1318, 0, 0, .null) := by decide +kernel
theorem x_258_1317 : Tr sc d 258 (1317, [l0, l1, l2, l3], [.int i3, .int i2, .ref k1, .ref k0], h) Q = Tr sc d 258 (1318, [l0, l1, l2, l3], [.int (i2 + i3), .ref k1, .ref k0], h) Q := t_go k_258_1317 rfl
theorem k_258_1318 : lk 258 1318 = some (.iaload, 1319, 0, 0, .null) := by decide +kernel
theorem x_258_1318 : Tr sc d 258 (1318, [l0, l1, l2, l3], [.int i2, .ref k1, .ref k0], h) Q = (iOk sc h k1 i2 ∧ Tr sc d 258 (1319, [l0, l1, l2, l3], [.int (iRd sc h k1 i2), .ref k0], h) Q) := t_iald k_258_1318
theorem k_258_1319 : lk 258 1319 = some (.aload_n 0, 1320, 0, 0, .null) := by decide +kernel
theorem x_258_1319 : Tr sc d 258 (1319, [some (.ref xk), l1, l2, l3], [.int i1, .ref k0], h) Q = Tr sc d 258 (1320, [some (.ref xk), l1, l2, l3], [.ref xk, .int i1, .ref k0], h) Q := t_aload_n k_258_1319 rfl
theorem k_258_1320 : lk 258 1320 = some (.iload_n 3, 1321, 3, 0, .null) := by decide +kernel
theorem x_258_1320 : Tr sc d 258 (1320, [l0, l1, l2, some (.int x)], [.ref k2, .int i1, .ref k0], h) Q = Tr sc d 258 (1321, [l0, l1, l2, some (.int x)], [.int x, .ref k2, .int i1, .ref k0], h) Q := t_iload_n k_258_1320 rfl
theorem k_258_1321 : lk 258 1321 = some (.iconst 2, 1322, 0, 0, .int 2) := by decide +kernel
theorem x_258_1321 : Tr sc d 258 (1321, [l0, l1, l2, l3], [.int i3, .ref k2, .int i1, .ref k0], h) Q = Tr sc d 258 (1322, [l0, l1, l2, l3], [.int 2, .int i3, .ref k2, .int i1, .ref k0], h) Q := t_go k_258_1321 rfl
theorem k_258_1322 : lk 258 1322 = some (.iadd, 1323, 0, 0, .null) := by decide +kernel
theorem x_258_1322 : Tr sc d 258 (1322, [l0, l1, l2, l3], [.int i4, .int i3, .ref k2, .int i1, .ref k0], h) Q = Tr sc d 258 (1323, [l0, l1, l2, l3], [.int (i3 + i4), .ref k2, .int i1, .ref k0], h) Q := t_go k_258_1322 rfl
theorem k_258_1323 : lk 258 1323 = some (.iaload, 1324, 0, 0, .null) := by decide +kernel
theorem x_258_1323 : Tr sc d 258 (1323, [l0, l1, l2, l3], [.int i3, .ref k2, .int i1, .ref k0], h) Q = (iOk sc h k2 i3 ∧ Tr sc d 258 (1324, [l0, l1, l2, l3], [.int (iRd sc h k2 i3), .int i1, .ref k0], h) Q) := t_iald k_258_1323
theorem k_258_1324 : lk 258 1324 = some (.aload_n 0, 1325, 0, 0, .null) := by decide +kernel
theorem x_258_1324 : Tr sc d 258 (1324, [some (.ref xk), l1, l2, l3], [.int i2, .int i1, .ref k0], h) Q = Tr sc d 258 (1325, [some (.ref xk), l1, l2, l3], [.ref xk, .int i2, .int i1, .ref k0], h) Q := t_aload_n k_258_1324 rfl
theorem k_258_1325 : lk 258 1325 = some (.iload_n 3, 1326, 3, 0, .null) := by decide +kernel
theorem x_258_1325 : Tr sc d 258 (1325, [l0, l1, l2, some (.int x)], [.ref k3, .int i2, .int i1, .ref k0], h) Q = Tr sc d 258 (1326, [l0, l1, l2, some (.int x)], [.int x, .ref k3, .int i2, .int i1, .ref k0], h) Q := t_iload_n k_258_1325 rfl
theorem k_258_1326 : lk 258 1326 = some (.iconst 3, 1327, 0, 0, .int 3) := by decide +kernel
theorem x_258_1326 : Tr sc d 258 (1326, [l0, l1, l2, l3], [.int i4, .ref k3, .int i2, .int i1, .ref k0], h) Q = Tr sc d 258 (1327, [l0, l1, l2, l3], [.int 3, .int i4, .ref k3, .int i2, .int i1, .ref k0], h) Q := t_go k_258_1326 rfl
theorem k_258_1327 : lk 258 1327 = some (.iadd, 1328, 0, 0, .null) := by decide +kernel
theorem x_258_1327 : Tr sc d 258 (1327, [l0, l1, l2, l3], [.int i5, .int i4, .ref k3, .int i2, .int i1, .ref k0], h) Q = Tr sc d 258 (1328, [l0, l1, l2, l3], [.int (i4 + i5), .ref k3, .int i2, .int i1, .ref k0], h) Q := t_go k_258_1327 rfl
theorem k_258_1328 : lk 258 1328 = some (.iaload, 1329, 0, 0, .null) := by decide +kernel
theorem x_258_1328 : Tr sc d 258 (1328, [l0, l1, l2, l3], [.int i4, .ref k3, .int i2, .int i1, .ref k0], h) Q = (iOk sc h k3 i4 ∧ Tr sc d 258 (1329, [l0, l1, l2, l3], [.int (iRd sc h k3 i4), .int i2, .int i1, .ref k0], h) Q) := t_iald k_258_1328
theorem k_258_1329 : lk 258 1329 = some (.aload_n 0, 1330, 0, 0, .null) := by decide +kernel
theorem x_258_1329 : Tr sc d 258 (1329, [some (.ref xk), l1, l2, l3], [.int i3, .int i2, .int i1, .ref k0], h) Q = Tr sc d 258 (1330, [some (.ref xk), l1, l2, l3], [.ref xk, .int i3, .int i2, .int i1, .ref k0], h) Q := t_aload_n k_258_1329 rfl
theorem k_258_1330 : lk 258 1330 = some (.iload_n 3, 1331, 3, 0, .null) := by decide +kernel
theorem x_258_1330 : Tr sc d 258 (1330, [l0, l1, l2, some (.int x)], [.ref k4, .int i3, .int i2, .int i1, .ref k0], h) Q = Tr sc d 258 (1331, [l0, l1, l2, some (.int x)], [.int x, .ref k4, .int i3, .int i2, .int i1, .ref k0], h) Q := t_iload_n k_258_1330 rfl
theorem k_258_1331 : lk 258 1331 = some (.iconst 4, 1332, 0, 0, .int 4) := by decide +kernel
theorem x_258_1331 : Tr sc d 258 (1331, [l0, l1, l2, l3], [.int i5, .ref k4, .int i3, .int i2, .int i1, .ref k0], h) Q = Tr sc d 258 (1332, [l0, l1, l2, l3], [.int 4, .int i5, .ref k4, .int i3, .int i2, .int i1, .ref k0], h) Q := t_go k_258_1331 rfl
theorem k_258_1332 : lk 258 1332 = some (.iadd, 1333, 0, 0, .null) := by decide +kernel
theorem x_258_1332 : Tr sc d 258 (1332, [l0, l1, l2, l3], [.int i6, .int i5, .ref k4, .int i3, .int i2, .int i1, .ref k0], h) Q = Tr sc d 258 (1333, [l0, l1, l2, l3], [.int (i5 + i6), .ref k4, .int i3, .int i2, .int i1, .ref k0], h) Q := t_go k_258_1332 rfl
theorem k_258_1333 : lk 258 1333 = some (.iaload, 1334, 0, 0, .null) := by decide +kernel
theorem x_258_1333 : Tr sc d 258 (1333, [l0, l1, l2, l3], [.int i5, .ref k4, .int i3, .int i2, .int i1, .ref k0], h) Q = (iOk sc h k4 i5 ∧ Tr sc d 258 (1334, [l0, l1, l2, l3], [.int (iRd sc h k4 i5), .int i3, .int i2, .int i1, .ref k0], h) Q) := t_iald k_258_1333
theorem k_258_1334 : lk 258 1334 = some (.invokevirtual 136, 1337, 125, 4, .null) := by decide +kernel
theorem x_258_1334 : Tr sc (d + 1) 258 (1334, [l0, l1, l2, l3], [.int i4, .int i3, .int i2, .int i1, .ref k0], h) Q = (okp h k0 9 = true ∧ Tr sc d 125 (ent0 125 [.ref k0, .int i1, .int i2, .int i3, .int i4] h) (fun z => Tr sc (d + 1) 258 (1337, [l0, l1, l2, l3], z.1.toList ++ [], z.2) Q)) := t_cv (as := [.int i1, .int i2, .int i3, .int i4]) (r := []) k_258_1334 rfl rfl (Nat.le_of_ble_eq_true rfl) (Nat.le_of_ble_eq_true rfl) (Nat.le_of_ble_eq_true rfl)
theorem k_258_1337 : lk 258 1337 = some (.aload_n 2, 1338, 2, 0, .null) := by decide +kernel
theorem x_258_1337 : Tr sc d 258 (1337, [l0, l1, some (.ref xk), l3], [.int i0], h) Q = Tr sc d 258 (1338, [l0, l1, some (.ref xk), l3], [.ref xk, .int i0], h) Q := t_aload_n k_258_1337 rfl
theorem k_258_1338 : lk 258 1338 = some (.aload_n 0, 1339, 0, 0, .null) := by decide +kernel
theorem x_258_1338 : Tr sc d 258 (1338, [some (.ref xk), l1, l2, l3], [.ref k1, .int i0], h) Q = Tr sc d 258 (1339, [some (.ref xk), l1, l2, l3], [.ref xk, .ref k1, .int i0], h) Q := t_aload_n k_258_1338 rfl
theorem k_258_1339 : lk 258 1339 = some (.iload_n 3, 1340, 3, 0, .null) := by decide +kernel
theorem x_258_1339 : Tr sc d 258 (1339, [l0, l1, l2, some (.int x)], [.ref k2, .ref k1, .int i0], h) Q = Tr sc d 258 (1340, [l0, l1, l2, some (.int x)], [.int x, .ref k2, .ref k1, .int i0], h) Q := t_iload_n k_258_1339 rfl
theorem k_258_1340 : lk 258 1340 = some (.iconst 1, 1341, 0, 0, .int 1) := by decide +kernel
theorem x_258_1340 : Tr sc d 258 (1340, [l0, l1, l2, l3], [.int i3, .ref k2, .ref k1, .int i0], h) Q = Tr sc d 258 (1341, [l0, l1, l2, l3], [.int 1, .int i3, .ref k2, .ref k1, .int i0], h) Q := t_go k_258_1340 rfl
theorem k_258_1341 : lk 258 1341 = some (.iadd, 1342, 0, 0, .null) := by decide +kernel
theorem x_258_1341 : Tr sc d 258 (1341, [l0, l1, l2, l3], [.int i4, .int i3, .ref k2, .ref k1, .int i0], h) Q = Tr sc d 258 (1342, [l0, l1, l2, l3], [.int (i3 + i4), .ref k2, .ref k1, .int i0], h) Q := t_go k_258_1341 rfl
theorem k_258_1342 : lk 258 1342 = some (.iaload, 1343, 0, 0, .null) := by decide +kernel
theorem x_258_1342 : Tr sc d 258 (1342, [l0, l1, l2, l3], [.int i3, .ref k2, .ref k1, .int i0], h) Q = (iOk sc h k2 i3 ∧ Tr sc d 258 (1343, [l0, l1, l2, l3], [.int (iRd sc h k2 i3), .ref k1, .int i0], h) Q) := t_iald k_258_1342
theorem k_258_1343 : lk 258 1343 = some (.aload_n 0, 1344, 0, 0, .null) := by decide +kernel
theorem x_258_1343 : Tr sc d 258 (1343, [some (.ref xk), l1, l2, l3], [.int i2, .ref k1, .int i0], h) Q = Tr sc d 258 (1344, [some (.ref xk), l1, l2, l3], [.ref xk, .int i2, .ref k1, .int i0], h) Q := t_aload_n k_258_1343 rfl
theorem k_258_1344 : lk 258 1344 = some (.iload_n 3, 1345, 3, 0, .null) := by decide +kernel
theorem x_258_1344 : Tr sc d 258 (1344, [l0, l1, l2, some (.int x)], [.ref k3, .int i2, .ref k1, .int i0], h) Q = Tr sc d 258 (1345, [l0, l1, l2, some (.int x)], [.int x, .ref k3, .int i2, .ref k1, .int i0], h) Q := t_iload_n k_258_1344 rfl
theorem k_258_1345 : lk 258 1345 = some (.iconst 2, 1346, 0, 0, .int 2) := by decide +kernel
theorem x_258_1345 : Tr sc d 258 (1345, [l0, l1, l2, l3], [.int i4, .ref k3, .int i2, .ref k1, .int i0], h) Q = Tr sc d 258 (1346, [l0, l1, l2, l3], [.int 2, .int i4, .ref k3, .int i2, .ref k1, .int i0], h) Q := t_go k_258_1345 rfl
theorem k_258_1346 : lk 258 1346 = some (.iadd, 1347, 0, 0, .null) := by decide +kernel
theorem x_258_1346 : Tr sc d 258 (1346, [l0, l1, l2, l3], [.int i5, .int i4, .ref k3, .int i2, .ref k1, .int i0], h) Q = Tr sc d 258 (1347, [l0, l1, l2, l3], [.int (i4 + i5), .ref k3, .int i2, .ref k1, .int i0], h) Q := t_go k_258_1346 rfl
theorem k_258_1347 : lk 258 1347 = some (.iaload, 1348, 0, 0, .null) := by decide +kernel
theorem x_258_1347 : Tr sc d 258 (1347, [l0, l1, l2, l3], [.int i4, .ref k3, .int i2, .ref k1, .int i0], h) Q = (iOk sc h k3 i4 ∧ Tr sc d 258 (1348, [l0, l1, l2, l3], [.int (iRd sc h k3 i4), .int i2, .ref k1, .int i0], h) Q) := t_iald k_258_1347
theorem k_258_1348 : lk 258 1348 = some (.aload_n 0, 1349, 0, 0, .null) := by decide +kernel
theorem x_258_1348 : Tr sc d 258 (1348, [some (.ref xk), l1, l2, l3], [.int i3, .int i2, .ref k1, .int i0], h) Q = Tr sc d 258 (1349, [some (.ref xk), l1, l2, l3], [.ref xk, .int i3, .int i2, .ref k1, .int i0], h) Q := t_aload_n k_258_1348 rfl
theorem k_258_1349 : lk 258 1349 = some (.iload_n 3, 1350, 3, 0, .null) := by decide +kernel
theorem x_258_1349 : Tr sc d 258 (1349, [l0, l1, l2, some (.int x)], [.ref k4, .int i3, .int i2, .ref k1, .int i0], h) Q = Tr sc d 258 (1350, [l0, l1, l2, some (.int x)], [.int x, .ref k4, .int i3, .int i2, .ref k1, .int i0], h) Q := t_iload_n k_258_1349 rfl
theorem k_258_1350 : lk 258 1350 = some (.iconst 3, 1351, 0, 0, .int 3) := by decide +kernel
theorem x_258_1350 : Tr sc d 258 (1350, [l0, l1, l2, l3], [.int i5, .ref k4, .int i3, .int i2, .ref k1, .int i0], h) Q = Tr sc d 258 (1351, [l0, l1, l2, l3], [.int 3, .int i5, .ref k4, .int i3, .int i2, .ref k1, .int i0], h) Q := t_go k_258_1350 rfl
theorem k_258_1351 : lk 258 1351 = some (.iadd, 1352, 0, 0, .null) := by decide +kernel
theorem x_258_1351 : Tr sc d 258 (1351, [l0, l1, l2, l3], [.int i6, .int i5, .ref k4, .int i3, .int i2, .ref k1, .int i0], h) Q = Tr sc d 258 (1352, [l0, l1, l2, l3], [.int (i5 + i6), .ref k4, .int i3, .int i2, .ref k1, .int i0], h) Q := t_go k_258_1351 rfl
theorem k_258_1352 : lk 258 1352 = some (.iaload, 1353, 0, 0, .null) := by decide +kernel
theorem x_258_1352 : Tr sc d 258 (1352, [l0, l1, l2, l3], [.int i5, .ref k4, .int i3, .int i2, .ref k1, .int i0], h) Q = (iOk sc h k4 i5 ∧ Tr sc d 258 (1353, [l0, l1, l2, l3], [.int (iRd sc h k4 i5), .int i3, .int i2, .ref k1, .int i0], h) Q) := t_iald k_258_1352
theorem k_258_1353 : lk 258 1353 = some (.aload_n 0, 1354, 0, 0, .null) := by decide +kernel
theorem x_258_1353 : Tr sc d 258 (1353, [some (.ref xk), l1, l2, l3], [.int i4, .int i3, .int i2, .ref k1, .int i0], h) Q = Tr sc d 258 (1354, [some (.ref xk), l1, l2, l3], [.ref xk, .int i4, .int i3, .int i2, .ref k1, .int i0], h) Q := t_aload_n k_258_1353 rfl
theorem k_258_1354 : lk 258 1354 = some (.iload_n 3, 1355, 3, 0, .null) := by decide +kernel
theorem x_258_1354 : Tr sc d 258 (1354, [l0, l1, l2, some (.int x)], [.ref k5, .int i4, .int i3, .int i2, .ref k1, .int i0], h) Q = Tr sc d 258 (1355, [l0, l1, l2, some (.int x)], [.int x, .ref k5, .int i4, .int i3, .int i2, .ref k1, .int i0], h) Q := t_iload_n k_258_1354 rfl
theorem k_258_1355 : lk 258 1355 = some (.iconst 4, 1356, 0, 0, .int 4) := by decide +kernel
theorem x_258_1355 : Tr sc d 258 (1355, [l0, l1, l2, l3], [.int i6, .ref k5, .int i4, .int i3, .int i2, .ref k1, .int i0], h) Q = Tr sc d 258 (1356, [l0, l1, l2, l3], [.int 4, .int i6, .ref k5, .int i4, .int i3, .int i2, .ref k1, .int i0], h) Q := t_go k_258_1355 rfl
theorem k_258_1356 : lk 258 1356 = some (.iadd, 1357, 0, 0, .null) := by decide +kernel
theorem x_258_1356 : Tr sc d 258 (1356, [l0, l1, l2, l3], [.int i7, .int i6, .ref k5, .int i4, .int i3, .int i2, .ref k1, .int i0], h) Q = Tr sc d 258 (1357, [l0, l1, l2, l3], [.int (i6 + i7), .ref k5, .int i4, .int i3, .int i2, .ref k1, .int i0], h) Q := t_go k_258_1356 rfl
theorem k_258_1357 : lk 258 1357 = some (.iaload, 1358, 0, 0, .null) := by decide +kernel
theorem x_258_1357 : Tr sc d 258 (1357, [l0, l1, l2, l3], [.int i6, .ref k5, .int i4, .int i3, .int i2, .ref k1, .int i0], h) Q = (iOk sc h k5 i6 ∧ Tr sc d 258 (1358, [l0, l1, l2, l3], [.int (iRd sc h k5 i6), .int i4, .int i3, .int i2, .ref k1, .int i0], h) Q) := t_iald k_258_1357
theorem k_258_1358 : lk 258 1358 = some (.invokevirtual 139, 1361, 232, 4, .null) := by decide +kernel
theorem x_258_1358 : Tr sc (d + 1) 258 (1358, [l0, l1, l2, l3], [.int i5, .int i4, .int i3, .int i2, .ref k1, .int i0], h) Q = (okp h k1 10 = true ∧ Tr sc d 232 (ent0 232 [.ref k1, .int i2, .int i3, .int i4, .int i5] h) (fun z => Tr sc (d + 1) 258 (1361, [l0, l1, l2, l3], z.1.toList ++ [.int i0], z.2) Q)) := t_cv (as := [.int i2, .int i3, .int i4, .int i5]) (r := [.int i0]) k_258_1358 rfl rfl (Nat.le_of_ble_eq_true rfl) (Nat.le_of_ble_eq_true rfl) (Nat.le_of_ble_eq_true rfl)
theorem k_258_1361 : lk 258 1361 = some (.if_icmp .eq 387, 1364, 1748, 0, .null) := by decide +kernel
theorem x_258_1361 : Tr sc d 258 (1361, [l0, l1, l2, l3], [.int i1, .int i0], h) Q = if i0 = i1 then Tr sc d 258 (1748, [l0, l1, l2, l3], [], h) Q else Tr sc d 258 (1364, [l0, l1, l2, l3], [], h) Q := t_if k_258_1361 rfl
theorem k_258_1364 : lk 258 1364 = some (.iconst 0, 1365, 0, 0, .int 0) := by decide +kernel
theorem x_258_1364 : Tr sc d 258 (1364, [l0, l1, l2, l3], [], h) Q = Tr sc d 258 (1365, [l0, l1, l2, l3], [.int 0], h) Q := t_go k_258_1364 rfl
theorem k_258_1365 : lk 258 1365 = some (.ireturn, 1366, 0, 0, .null) := by decide +kernel
theorem x_258_1365 : Tr sc d 258 (1365, [l0, l1, l2, l3], [.int i0], h) Q = (vp_nar .boolean i0 = i0 ∧ Q (some (.int i0), h)) := t_zret k_258_1365 r_258
theorem k_258_1366 : lk 258 1366 = some (.aload_n 1, 1367, 1, 0, .null) := by decide +kernel
theorem x_258_1366 : Tr sc d 258 (1366, [l0, some (.ref xk), l2, l3], [], h) Q = Tr sc d 258 (1367, [l0, some (.ref xk), l2, l3], [.ref xk], h) Q := t_aload_n k_258_1366 rfl
theorem k_258_1367 : lk 258 1367 = some (.aload_n 0, 1368, 0, 0, .null) := by decide +kernel
theorem x_258_1367 : Tr sc d 258 (1367, [some (.ref xk), l1, l2, l3], [.ref k0], h) Q = Tr sc d 258 (1368, [some (.ref xk), l1, l2, l3], [.ref xk, .ref k0], h) Q := t_aload_n k_258_1367 rfl
theorem k_258_1368 : lk 258 1368 = some (.iload_n 3, 1369, 3, 0, .null) := by decide +kernel
theorem x_258_1368 : Tr sc d 258 (1368, [l0, l1, l2, some (.int x)], [.ref k1, .ref k0], h) Q = Tr sc d 258 (1369, [l0, l1, l2, some (.int x)], [.int x, .ref k1, .ref k0], h) Q := t_iload_n k_258_1368 rfl
theorem k_258_1369 : lk 258 1369 = some (.iconst 1, 1370, 0, 0, .int 1) := by decide +kernel
theorem x_258_1369 : Tr sc d 258 (1369, [l0, l1, l2, l3], [.int i2, .ref k1, .ref k0], h) Q = Tr sc d 258 (1370, [l0, l1, l2, l3], [.int 1, .int i2, .ref k1, .ref k0], h) Q := t_go k_258_1369 rfl
theorem k_258_1370 : lk 258 1370 = some (.iadd, 1371, 0, 0, .null) := by decide +kernel
theorem x_258_1370 : Tr sc d 258 (1370, [l0, l1, l2, l3], [.int i3, .int i2, .ref k1, .ref k0], h) Q = Tr sc d 258 (1371, [l0, l1, l2, l3], [.int (i2 + i3), .ref k1, .ref k0], h) Q := t_go k_258_1370 rfl
theorem k_258_1371 : lk 258 1371 = some (.iaload, 1372, 0, 0, .null) := by decide +kernel
theorem x_258_1371 : Tr sc d 258 (1371, [l0, l1, l2, l3], [.int i2, .ref k1, .ref k0], h) Q = (iOk sc h k1 i2 ∧ Tr sc d 258 (1372, [l0, l1, l2, l3], [.int (iRd sc h k1 i2), .ref k0], h) Q) := t_iald k_258_1371
theorem k_258_1372 : lk 258 1372 = some (.aload_n 0, 1373, 0, 0, .null) := by decide +kernel
theorem x_258_1372 : Tr sc d 258 (1372, [some (.ref xk), l1, l2, l3], [.int i1, .ref k0], h) Q = Tr sc d 258 (1373, [some (.ref xk), l1, l2, l3], [.ref xk, .int i1, .ref k0], h) Q := t_aload_n k_258_1372 rfl
theorem k_258_1373 : lk 258 1373 = some (.iload_n 3, 1374, 3, 0, .null) := by decide +kernel
theorem x_258_1373 : Tr sc d 258 (1373, [l0, l1, l2, some (.int x)], [.ref k2, .int i1, .ref k0], h) Q = Tr sc d 258 (1374, [l0, l1, l2, some (.int x)], [.int x, .ref k2, .int i1, .ref k0], h) Q := t_iload_n k_258_1373 rfl
theorem k_258_1374 : lk 258 1374 = some (.iconst 2, 1375, 0, 0, .int 2) := by decide +kernel
theorem x_258_1374 : Tr sc d 258 (1374, [l0, l1, l2, l3], [.int i3, .ref k2, .int i1, .ref k0], h) Q = Tr sc d 258 (1375, [l0, l1, l2, l3], [.int 2, .int i3, .ref k2, .int i1, .ref k0], h) Q := t_go k_258_1374 rfl
theorem k_258_1375 : lk 258 1375 = some (.iadd, 1376, 0, 0, .null) := by decide +kernel
theorem x_258_1375 : Tr sc d 258 (1375, [l0, l1, l2, l3], [.int i4, .int i3, .ref k2, .int i1, .ref k0], h) Q = Tr sc d 258 (1376, [l0, l1, l2, l3], [.int (i3 + i4), .ref k2, .int i1, .ref k0], h) Q := t_go k_258_1375 rfl
theorem k_258_1376 : lk 258 1376 = some (.iaload, 1377, 0, 0, .null) := by decide +kernel
theorem x_258_1376 : Tr sc d 258 (1376, [l0, l1, l2, l3], [.int i3, .ref k2, .int i1, .ref k0], h) Q = (iOk sc h k2 i3 ∧ Tr sc d 258 (1377, [l0, l1, l2, l3], [.int (iRd sc h k2 i3), .int i1, .ref k0], h) Q) := t_iald k_258_1376
theorem k_258_1377 : lk 258 1377 = some (.invokevirtual 140, 1380, 126, 2, .null) := by decide +kernel
theorem x_258_1377 : Tr sc (d + 1) 258 (1377, [l0, l1, l2, l3], [.int i2, .int i1, .ref k0], h) Q = (okp h k0 9 = true ∧ Tr sc d 126 (ent0 126 [.ref k0, .int i1, .int i2] h) (fun z => Tr sc (d + 1) 258 (1380, [l0, l1, l2, l3], z.1.toList ++ [], z.2) Q)) := t_cv (as := [.int i1, .int i2]) (r := []) k_258_1377 rfl rfl (Nat.le_of_ble_eq_true rfl) (Nat.le_of_ble_eq_true rfl) (Nat.le_of_ble_eq_true rfl)
theorem k_258_1380 : lk 258 1380 = some (.aload_n 2, 1381, 2, 0, .null) := by decide +kernel
theorem x_258_1380 : Tr sc d 258 (1380, [l0, l1, some (.ref xk), l3], [.int i0], h) Q = Tr sc d 258 (1381, [l0, l1, some (.ref xk), l3], [.ref xk, .int i0], h) Q := t_aload_n k_258_1380 rfl
theorem k_258_1381 : lk 258 1381 = some (.aload_n 0, 1382, 0, 0, .null) := by decide +kernel
theorem x_258_1381 : Tr sc d 258 (1381, [some (.ref xk), l1, l2, l3], [.ref k1, .int i0], h) Q = Tr sc d 258 (1382, [some (.ref xk), l1, l2, l3], [.ref xk, .ref k1, .int i0], h) Q := t_aload_n k_258_1381 rfl
theorem k_258_1382 : lk 258 1382 = some (.iload_n 3, 1383, 3, 0, .null) := by decide +kernel
theorem x_258_1382 : Tr sc d 258 (1382, [l0, l1, l2, some (.int x)], [.ref k2, .ref k1, .int i0], h) Q = Tr sc d 258 (1383, [l0, l1, l2, some (.int x)], [.int x, .ref k2, .ref k1, .int i0], h) Q := t_iload_n k_258_1382 rfl
theorem k_258_1383 : lk 258 1383 = some (.iconst 1, 1384, 0, 0, .int 1) := by decide +kernel
theorem x_258_1383 : Tr sc d 258 (1383, [l0, l1, l2, l3], [.int i3, .ref k2, .ref k1, .int i0], h) Q = Tr sc d 258 (1384, [l0, l1, l2, l3], [.int 1, .int i3, .ref k2, .ref k1, .int i0], h) Q := t_go k_258_1383 rfl
theorem k_258_1384 : lk 258 1384 = some (.iadd, 1385, 0, 0, .null) := by decide +kernel
theorem x_258_1384 : Tr sc d 258 (1384, [l0, l1, l2, l3], [.int i4, .int i3, .ref k2, .ref k1, .int i0], h) Q = Tr sc d 258 (1385, [l0, l1, l2, l3], [.int (i3 + i4), .ref k2, .ref k1, .int i0], h) Q := t_go k_258_1384 rfl
theorem k_258_1385 : lk 258 1385 = some (.iaload, 1386, 0, 0, .null) := by decide +kernel
theorem x_258_1385 : Tr sc d 258 (1385, [l0, l1, l2, l3], [.int i3, .ref k2, .ref k1, .int i0], h) Q = (iOk sc h k2 i3 ∧ Tr sc d 258 (1386, [l0, l1, l2, l3], [.int (iRd sc h k2 i3), .ref k1, .int i0], h) Q) := t_iald k_258_1385
theorem k_258_1386 : lk 258 1386 = some (.aload_n 0, 1387, 0, 0, .null) := by decide +kernel
theorem x_258_1386 : Tr sc d 258 (1386, [some (.ref xk), l1, l2, l3], [.int i2, .ref k1, .int i0], h) Q = Tr sc d 258 (1387, [some (.ref xk), l1, l2, l3], [.ref xk, .int i2, .ref k1, .int i0], h) Q := t_aload_n k_258_1386 rfl
theorem k_258_1387 : lk 258 1387 = some (.iload_n 3, 1388, 3, 0, .null) := by decide +kernel
theorem x_258_1387 : Tr sc d 258 (1387, [l0, l1, l2, some (.int x)], [.ref k3, .int i2, .ref k1, .int i0], h) Q = Tr sc d 258 (1388, [l0, l1, l2, some (.int x)], [.int x, .ref k3, .int i2, .ref k1, .int i0], h) Q := t_iload_n k_258_1387 rfl
theorem k_258_1388 : lk 258 1388 = some (.iconst 2, 1389, 0, 0, .int 2) := by decide +kernel
theorem x_258_1388 : Tr sc d 258 (1388, [l0, l1, l2, l3], [.int i4, .ref k3, .int i2, .ref k1, .int i0], h) Q = Tr sc d 258 (1389, [l0, l1, l2, l3], [.int 2, .int i4, .ref k3, .int i2, .ref k1, .int i0], h) Q := t_go k_258_1388 rfl
theorem k_258_1389 : lk 258 1389 = some (.iadd, 1390, 0, 0, .null) := by decide +kernel
theorem x_258_1389 : Tr sc d 258 (1389, [l0, l1, l2, l3], [.int i5, .int i4, .ref k3, .int i2, .ref k1, .int i0], h) Q = Tr sc d 258 (1390, [l0, l1, l2, l3], [.int (i4 + i5), .ref k3, .int i2, .ref k1, .int i0], h) Q := t_go k_258_1389 rfl
theorem k_258_1390 : lk 258 1390 = some (.iaload, 1391, 0, 0, .null) := by decide +kernel
theorem x_258_1390 : Tr sc d 258 (1390, [l0, l1, l2, l3], [.int i4, .ref k3, .int i2, .ref k1, .int i0], h) Q = (iOk sc h k3 i4 ∧ Tr sc d 258 (1391, [l0, l1, l2, l3], [.int (iRd sc h k3 i4), .int i2, .ref k1, .int i0], h) Q) := t_iald k_258_1390
theorem k_258_1391 : lk 258 1391 = some (.invokevirtual 143, 1394, 234, 2, .null) := by decide +kernel
theorem x_258_1391 : Tr sc (d + 1) 258 (1391, [l0, l1, l2, l3], [.int i3, .int i2, .ref k1, .int i0], h) Q = (okp h k1 10 = true ∧ Tr sc d 234 (ent0 234 [.ref k1, .int i2, .int i3] h) (fun z => Tr sc (d + 1) 258 (1394, [l0, l1, l2, l3], z.1.toList ++ [.int i0], z.2) Q)) := t_cv (as := [.int i2, .int i3]) (r := [.int i0]) k_258_1391 rfl rfl (Nat.le_of_ble_eq_true rfl) (Nat.le_of_ble_eq_true rfl) (Nat.le_of_ble_eq_true rfl)
theorem k_258_1394 : lk 258 1394 = some (.if_icmp .eq 354, 1397, 1748, 0, .null) := by decide +kernel
theorem x_258_1394 : Tr sc d 258 (1394, [l0, l1, l2, l3], [.int i1, .int i0], h) Q = if i0 = i1 then Tr sc d 258 (1748, [l0, l1, l2, l3], [], h) Q else Tr sc d 258 (1397, [l0, l1, l2, l3], [], h) Q := t_if k_258_1394 rfl
theorem k_258_1397 : lk 258 1397 = some (.iconst 0, 1398, 0, 0, .int 0) := by decide +kernel
theorem x_258_1397 : Tr sc d 258 (1397, [l0, l1, l2, l3], [], h) Q = Tr sc d 258 (1398, [l0, l1, l2, l3], [.int 0], h) Q := t_go k_258_1397 rfl
theorem k_258_1398 : lk 258 1398 = some (.ireturn, 1399, 0, 0, .null) := by decide +kernel
theorem x_258_1398 : Tr sc d 258 (1398, [l0, l1, l2, l3], [.int i0], h) Q = (vp_nar .boolean i0 = i0 ∧ Q (some (.int i0), h)) := t_zret k_258_1398 r_258
theorem k_258_1399 : lk 258 1399 = some (.aload_n 1, 1400, 1, 0, .null) := by decide +kernel
theorem x_258_1399 : Tr sc d 258 (1399, [l0, some (.ref xk), l2, l3], [], h) Q = Tr sc d 258 (1400, [l0, some (.ref xk), l2, l3], [.ref xk], h) Q := t_aload_n k_258_1399 rfl
theorem k_258_1400 : lk 258 1400 = some (.aload_n 0, 1401, 0, 0, .null) := by decide +kernel
theorem x_258_1400 : Tr sc d 258 (1400, [some (.ref xk), l1, l2, l3], [.ref k0], h) Q = Tr sc d 258 (1401, [some (.ref xk), l1, l2, l3], [.ref xk, .ref k0], h) Q := t_aload_n k_258_1400 rfl
theorem k_258_1401 : lk 258 1401 = some (.iload_n 3, 1402, 3, 0, .null) := by decide +kernel
theorem x_258_1401 : Tr sc d 258 (1401, [l0, l1, l2, some (.int x)], [.ref k1, .ref k0], h) Q = Tr sc d 258 (1402, [l0, l1, l2, some (.int x)], [.int x, .ref k1, .ref k0], h) Q := t_iload_n k_258_1401 rfl
theorem k_258_1402 : lk 258 1402 = some (.iconst 1, 1403, 0, 0, .int 1) := by decide +kernel
theorem x_258_1402 : Tr sc d 258 (1402, [l0, l1, l2, l3], [.int i2, .ref k1, .ref k0], h) Q = Tr sc d 258 (1403, [l0, l1, l2, l3], [.int 1, .int i2, .ref k1, .ref k0], h) Q := t_go k_258_1402 rfl
theorem k_258_1403 : lk 258 1403 = some (.iadd, 1404, 0, 0, .null) := by decide +kernel
theorem x_258_1403 : Tr sc d 258 (1403, [l0, l1, l2, l3], [.int i3, .int i2, .ref k1, .ref k0], h) Q = Tr sc d 258 (1404, [l0, l1, l2, l3], [.int (i2 + i3), .ref k1, .ref k0], h) Q := t_go k_258_1403 rfl
theorem k_258_1404 : lk 258 1404 = some (.iaload, 1405, 0, 0, .null) := by decide +kernel
theorem x_258_1404 : Tr sc d 258 (1404, [l0, l1, l2, l3], [.int i2, .ref k1, .ref k0], h) Q = (iOk sc h k1 i2 ∧ Tr sc d 258 (1405, [l0, l1, l2, l3], [.int (iRd sc h k1 i2), .ref k0], h) Q) := t_iald k_258_1404
theorem k_258_1405 : lk 258 1405 = some (.aload_n 0, 1406, 0, 0, .null) := by decide +kernel
theorem x_258_1405 : Tr sc d 258 (1405, [some (.ref xk), l1, l2, l3], [.int i1, .ref k0], h) Q = Tr sc d 258 (1406, [some (.ref xk), l1, l2, l3], [.ref xk, .int i1, .ref k0], h) Q := t_aload_n k_258_1405 rfl
theorem k_258_1406 : lk 258 1406 = some (.iload_n 3, 1407, 3, 0, .null) := by decide +kernel
theorem x_258_1406 : Tr sc d 258 (1406, [l0, l1, l2, some (.int x)], [.ref k2, .int i1, .ref k0], h) Q = Tr sc d 258 (1407, [l0, l1, l2, some (.int x)], [.int x, .ref k2, .int i1, .ref k0], h) Q := t_iload_n k_258_1406 rfl
theorem k_258_1407 : lk 258 1407 = some (.iconst 2, 1408, 0, 0, .int 2) := by decide +kernel
theorem x_258_1407 : Tr sc d 258 (1407, [l0, l1, l2, l3], [.int i3, .ref k2, .int i1, .ref k0], h) Q = Tr sc d 258 (1408, [l0, l1, l2, l3], [.int 2, .int i3, .ref k2, .int i1, .ref k0], h) Q := t_go k_258_1407 rfl
theorem k_258_1408 : lk 258 1408 = some (.iadd, 1409, 0, 0, .null) := by decide +kernel
theorem x_258_1408 : Tr sc d 258 (1408, [l0, l1, l2, l3], [.int i4, .int i3, .ref k2, .int i1, .ref k0], h) Q = Tr sc d 258 (1409, [l0, l1, l2, l3], [.int (i3 + i4), .ref k2, .int i1, .ref k0], h) Q := t_go k_258_1408 rfl
theorem k_258_1409 : lk 258 1409 = some (.iaload, 1410, 0, 0, .null) := by decide +kernel
theorem x_258_1409 : Tr sc d 258 (1409, [l0, l1, l2, l3], [.int i3, .ref k2, .int i1, .ref k0], h) Q = (iOk sc h k2 i3 ∧ Tr sc d 258 (1410, [l0, l1, l2, l3], [.int (iRd sc h k2 i3), .int i1, .ref k0], h) Q) := t_iald k_258_1409
theorem k_258_1410 : lk 258 1410 = some (.ifCond .eq 7, 1413, 1417, 0, .null) := by decide +kernel
theorem x_258_1410 : Tr sc d 258 (1410, [l0, l1, l2, l3], [.int i2, .int i1, .ref k0], h) Q = if i2 = 0 then Tr sc d 258 (1417, [l0, l1, l2, l3], [.int i1, .ref k0], h) Q else Tr sc d 258 (1413, [l0, l1, l2, l3], [.int i1, .ref k0], h) Q := t_if k_258_1410 rfl
theorem k_258_1413 : lk 258 1413 = some (.iconst 1, 1414, 0, 0, .int 1) := by decide +kernel
theorem x_258_1413 : Tr sc d 258 (1413, [l0, l1, l2, l3], [.int i1, .ref k0], h) Q = Tr sc d 258 (1414, [l0, l1, l2, l3], [.int 1, .int i1, .ref k0], h) Q := t_go k_258_1413 rfl
theorem k_258_1414 : lk 258 1414 = some (.goto 4, 1417, 1418, 0, .null) := by decide +kernel
theorem x_258_1414 : Tr sc d 258 (1414, [l0, l1, l2, l3], [.int i2, .int i1, .ref k0], h) Q = Tr sc d 258 (1418, [l0, l1, l2, l3], [.int i2, .int i1, .ref k0], h) Q := t_go k_258_1414 rfl
theorem k_258_1417 : lk 258 1417 = some (.iconst 0, 1418, 0, 0, .int 0) := by decide +kernel
theorem x_258_1417 : Tr sc d 258 (1417, [l0, l1, l2, l3], [.int i1, .ref k0], h) Q = Tr sc d 258 (1418, [l0, l1, l2, l3], [.int 0, .int i1, .ref k0], h) Q := t_go k_258_1417 rfl
theorem k_258_1418 : lk 258 1418 = some (.invokevirtual 144, 1421, 127, 2, .null) := by decide +kernel
theorem x_258_1418 : Tr sc (d + 1) 258 (1418, [l0, l1, l2, l3], [.int i2, .int i1, .ref k0], h) Q = (okp h k0 9 = true ∧ Tr sc d 127 (ent0 127 [.ref k0, .int i1, .int i2] h) (fun z => Tr sc (d + 1) 258 (1421, [l0, l1, l2, l3], z.1.toList ++ [], z.2) Q)) := t_cv (as := [.int i1, .int i2]) (r := []) k_258_1418 rfl rfl (Nat.le_of_ble_eq_true rfl) (Nat.le_of_ble_eq_true rfl) (Nat.le_of_ble_eq_true rfl)
theorem k_258_1421 : lk 258 1421 = some (.aload_n 2, 1422, 2, 0, .null) := by decide +kernel
theorem x_258_1421 : Tr sc d 258 (1421, [l0, l1, some (.ref xk), l3], [.int i0], h) Q = Tr sc d 258 (1422, [l0, l1, some (.ref xk), l3], [.ref xk, .int i0], h) Q := t_aload_n k_258_1421 rfl
theorem k_258_1422 : lk 258 1422 = some (.aload_n 0, 1423, 0, 0, .null) := by decide +kernel
theorem x_258_1422 : Tr sc d 258 (1422, [some (.ref xk), l1, l2, l3], [.ref k1, .int i0], h) Q = Tr sc d 258 (1423, [some (.ref xk), l1, l2, l3], [.ref xk, .ref k1, .int i0], h) Q := t_aload_n k_258_1422 rfl
theorem k_258_1423 : lk 258 1423 = some (.iload_n 3, 1424, 3, 0, .null) := by decide +kernel
theorem x_258_1423 : Tr sc d 258 (1423, [l0, l1, l2, some (.int x)], [.ref k2, .ref k1, .int i0], h) Q = Tr sc d 258 (1424, [l0, l1, l2, some (.int x)], [.int x, .ref k2, .ref k1, .int i0], h) Q := t_iload_n k_258_1423 rfl
theorem k_258_1424 : lk 258 1424 = some (.iconst 1, 1425, 0, 0, .int 1) := by decide +kernel
theorem x_258_1424 : Tr sc d 258 (1424, [l0, l1, l2, l3], [.int i3, .ref k2, .ref k1, .int i0], h) Q = Tr sc d 258 (1425, [l0, l1, l2, l3], [.int 1, .int i3, .ref k2, .ref k1, .int i0], h) Q := t_go k_258_1424 rfl
theorem k_258_1425 : lk 258 1425 = some (.iadd, 1426, 0, 0, .null) := by decide +kernel
theorem x_258_1425 : Tr sc d 258 (1425, [l0, l1, l2, l3], [.int i4, .int i3, .ref k2, .ref k1, .int i0], h) Q = Tr sc d 258 (1426, [l0, l1, l2, l3], [.int (i3 + i4), .ref k2, .ref k1, .int i0], h) Q := t_go k_258_1425 rfl
theorem k_258_1426 : lk 258 1426 = some (.iaload, 1427, 0, 0, .null) := by decide +kernel
theorem x_258_1426 : Tr sc d 258 (1426, [l0, l1, l2, l3], [.int i3, .ref k2, .ref k1, .int i0], h) Q = (iOk sc h k2 i3 ∧ Tr sc d 258 (1427, [l0, l1, l2, l3], [.int (iRd sc h k2 i3), .ref k1, .int i0], h) Q) := t_iald k_258_1426
theorem k_258_1427 : lk 258 1427 = some (.aload_n 0, 1428, 0, 0, .null) := by decide +kernel
theorem x_258_1427 : Tr sc d 258 (1427, [some (.ref xk), l1, l2, l3], [.int i2, .ref k1, .int i0], h) Q = Tr sc d 258 (1428, [some (.ref xk), l1, l2, l3], [.ref xk, .int i2, .ref k1, .int i0], h) Q := t_aload_n k_258_1427 rfl
theorem k_258_1428 : lk 258 1428 = some (.iload_n 3, 1429, 3, 0, .null) := by decide +kernel
theorem x_258_1428 : Tr sc d 258 (1428, [l0, l1, l2, some (.int x)], [.ref k3, .int i2, .ref k1, .int i0], h) Q = Tr sc d 258 (1429, [l0, l1, l2, some (.int x)], [.int x, .ref k3, .int i2, .ref k1, .int i0], h) Q := t_iload_n k_258_1428 rfl
theorem k_258_1429 : lk 258 1429 = some (.iconst 2, 1430, 0, 0, .int 2) := by decide +kernel
theorem x_258_1429 : Tr sc d 258 (1429, [l0, l1, l2, l3], [.int i4, .ref k3, .int i2, .ref k1, .int i0], h) Q = Tr sc d 258 (1430, [l0, l1, l2, l3], [.int 2, .int i4, .ref k3, .int i2, .ref k1, .int i0], h) Q := t_go k_258_1429 rfl
theorem k_258_1430 : lk 258 1430 = some (.iadd, 1431, 0, 0, .null) := by decide +kernel
theorem x_258_1430 : Tr sc d 258 (1430, [l0, l1, l2, l3], [.int i5, .int i4, .ref k3, .int i2, .ref k1, .int i0], h) Q = Tr sc d 258 (1431, [l0, l1, l2, l3], [.int (i4 + i5), .ref k3, .int i2, .ref k1, .int i0], h) Q := t_go k_258_1430 rfl
theorem k_258_1431 : lk 258 1431 = some (.iaload, 1432, 0, 0, .null) := by decide +kernel
theorem x_258_1431 : Tr sc d 258 (1431, [l0, l1, l2, l3], [.int i4, .ref k3, .int i2, .ref k1, .int i0], h) Q = (iOk sc h k3 i4 ∧ Tr sc d 258 (1432, [l0, l1, l2, l3], [.int (iRd sc h k3 i4), .int i2, .ref k1, .int i0], h) Q) := t_iald k_258_1431
theorem k_258_1432 : lk 258 1432 = some (.ifCond .eq 7, 1435, 1439, 0, .null) := by decide +kernel
theorem x_258_1432 : Tr sc d 258 (1432, [l0, l1, l2, l3], [.int i3, .int i2, .ref k1, .int i0], h) Q = if i3 = 0 then Tr sc d 258 (1439, [l0, l1, l2, l3], [.int i2, .ref k1, .int i0], h) Q else Tr sc d 258 (1435, [l0, l1, l2, l3], [.int i2, .ref k1, .int i0], h) Q := t_if k_258_1432 rfl
theorem k_258_1435 : lk 258 1435 = some (.iconst 1, 1436, 0, 0, .int 1) := by decide +kernel
theorem x_258_1435 : Tr sc d 258 (1435, [l0, l1, l2, l3], [.int i2, .ref k1, .int i0], h) Q = Tr sc d 258 (1436, [l0, l1, l2, l3], [.int 1, .int i2, .ref k1, .int i0], h) Q := t_go k_258_1435 rfl
theorem k_258_1436 : lk 258 1436 = some (.goto 4, 1439, 1440, 0, .null) := by decide +kernel
theorem x_258_1436 : Tr sc d 258 (1436, [l0, l1, l2, l3], [.int i3, .int i2, .ref k1, .int i0], h) Q = Tr sc d 258 (1440, [l0, l1, l2, l3], [.int i3, .int i2, .ref k1, .int i0], h) Q := t_go k_258_1436 rfl
theorem k_258_1439 : lk 258 1439 = some (.iconst 0, 1440, 0, 0, .int 0) := by decide +kernel
theorem x_258_1439 : Tr sc d 258 (1439, [l0, l1, l2, l3], [.int i2, .ref k1, .int i0], h) Q = Tr sc d 258 (1440, [l0, l1, l2, l3], [.int 0, .int i2, .ref k1, .int i0], h) Q := t_go k_258_1439 rfl
theorem k_258_1440 : lk 258 1440 = some (.invokevirtual 148, 1443, 235, 2, .null) := by decide +kernel
theorem x_258_1440 : Tr sc (d + 1) 258 (1440, [l0, l1, l2, l3], [.int i3, .int i2, .ref k1, .int i0], h) Q = (okp h k1 10 = true ∧ Tr sc d 235 (ent0 235 [.ref k1, .int i2, .int i3] h) (fun z => Tr sc (d + 1) 258 (1443, [l0, l1, l2, l3], z.1.toList ++ [.int i0], z.2) Q)) := t_cv (as := [.int i2, .int i3]) (r := [.int i0]) k_258_1440 rfl rfl (Nat.le_of_ble_eq_true rfl) (Nat.le_of_ble_eq_true rfl) (Nat.le_of_ble_eq_true rfl)
theorem k_258_1443 : lk 258 1443 = some (.if_icmp .eq 305, 1446, 1748, 0, .null) := by decide +kernel
theorem x_258_1443 : Tr sc d 258 (1443, [l0, l1, l2, l3], [.int i1, .int i0], h) Q = if i0 = i1 then Tr sc d 258 (1748, [l0, l1, l2, l3], [], h) Q else Tr sc d 258 (1446, [l0, l1, l2, l3], [], h) Q := t_if k_258_1443 rfl
theorem k_258_1446 : lk 258 1446 = some (.iconst 0, 1447, 0, 0, .int 0) := by decide +kernel
theorem x_258_1446 : Tr sc d 258 (1446, [l0, l1, l2, l3], [], h) Q = Tr sc d 258 (1447, [l0, l1, l2, l3], [.int 0], h) Q := t_go k_258_1446 rfl
theorem k_258_1447 : lk 258 1447 = some (.ireturn, 1448, 0, 0, .null) := by decide +kernel
theorem x_258_1447 : Tr sc d 258 (1447, [l0, l1, l2, l3], [.int i0], h) Q = (vp_nar .boolean i0 = i0 ∧ Q (some (.int i0), h)) := t_zret k_258_1447 r_258
theorem k_258_1448 : lk 258 1448 = some (.aload_n 1, 1449, 1, 0, .null) := by decide +kernel
theorem x_258_1448 : Tr sc d 258 (1448, [l0, some (.ref xk), l2, l3], [], h) Q = Tr sc d 258 (1449, [l0, some (.ref xk), l2, l3], [.ref xk], h) Q := t_aload_n k_258_1448 rfl
theorem k_258_1449 : lk 258 1449 = some (.aload_n 0, 1450, 0, 0, .null) := by decide +kernel
theorem x_258_1449 : Tr sc d 258 (1449, [some (.ref xk), l1, l2, l3], [.ref k0], h) Q = Tr sc d 258 (1450, [some (.ref xk), l1, l2, l3], [.ref xk, .ref k0], h) Q := t_aload_n k_258_1449 rfl
theorem k_258_1450 : lk 258 1450 = some (.iload_n 3, 1451, 3, 0, .null) := by decide +kernel
theorem x_258_1450 : Tr sc d 258 (1450, [l0, l1, l2, some (.int x)], [.ref k1, .ref k0], h) Q = Tr sc d 258 (1451, [l0, l1, l2, some (.int x)], [.int x, .ref k1, .ref k0], h) Q := t_iload_n k_258_1450 rfl
theorem k_258_1451 : lk 258 1451 = some (.iconst 1, 1452, 0, 0, .int 1) := by decide +kernel
theorem x_258_1451 : Tr sc d 258 (1451, [l0, l1, l2, l3], [.int i2, .ref k1, .ref k0], h) Q = Tr sc d 258 (1452, [l0, l1, l2, l3], [.int 1, .int i2, .ref k1, .ref k0], h) Q := t_go k_258_1451 rfl
theorem k_258_1452 : lk 258 1452 = some (.iadd, 1453, 0, 0, .null) := by decide +kernel
theorem x_258_1452 : Tr sc d 258 (1452, [l0, l1, l2, l3], [.int i3, .int i2, .ref k1, .ref k0], h) Q = Tr sc d 258 (1453, [l0, l1, l2, l3], [.int (i2 + i3), .ref k1, .ref k0], h) Q := t_go k_258_1452 rfl
theorem k_258_1453 : lk 258 1453 = some (.iaload, 1454, 0, 0, .null) := by decide +kernel
theorem x_258_1453 : Tr sc d 258 (1453, [l0, l1, l2, l3], [.int i2, .ref k1, .ref k0], h) Q = (iOk sc h k1 i2 ∧ Tr sc d 258 (1454, [l0, l1, l2, l3], [.int (iRd sc h k1 i2), .ref k0], h) Q) := t_iald k_258_1453
theorem k_258_1454 : lk 258 1454 = some (.aload_n 0, 1455, 0, 0, .null) := by decide +kernel
theorem x_258_1454 : Tr sc d 258 (1454, [some (.ref xk), l1, l2, l3], [.int i1, .ref k0], h) Q = Tr sc d 258 (1455, [some (.ref xk), l1, l2, l3], [.ref xk, .int i1, .ref k0], h) Q := t_aload_n k_258_1454 rfl
theorem k_258_1455 : lk 258 1455 = some (.iload_n 3, 1456, 3, 0, .null) := by decide +kernel
theorem x_258_1455 : Tr sc d 258 (1455, [l0, l1, l2, some (.int x)], [.ref k2, .int i1, .ref k0], h) Q = Tr sc d 258 (1456, [l0, l1, l2, some (.int x)], [.int x, .ref k2, .int i1, .ref k0], h) Q := t_iload_n k_258_1455 rfl
theorem k_258_1456 : lk 258 1456 = some (.iconst 2, 1457, 0, 0, .int 2) := by decide +kernel
theorem x_258_1456 : Tr sc d 258 (1456, [l0, l1, l2, l3], [.int i3, .ref k2, .int i1, .ref k0], h) Q = Tr sc d 258 (1457, [l0, l1, l2, l3], [.int 2, .int i3, .ref k2, .int i1, .ref k0], h) Q := t_go k_258_1456 rfl
theorem k_258_1457 : lk 258 1457 = some (.iadd, 1458, 0, 0, .null) := by decide +kernel
theorem x_258_1457 : Tr sc d 258 (1457, [l0, l1, l2, l3], [.int i4, .int i3, .ref k2, .int i1, .ref k0], h) Q = Tr sc d 258 (1458, [l0, l1, l2, l3], [.int (i3 + i4), .ref k2, .int i1, .ref k0], h) Q := t_go k_258_1457 rfl
theorem k_258_1458 : lk 258 1458 = some (.iaload, 1459, 0, 0, .null) := by decide +kernel
theorem x_258_1458 : Tr sc d 258 (1458, [l0, l1, l2, l3], [.int i3, .ref k2, .int i1, .ref k0], h) Q = (iOk sc h k2 i3 ∧ Tr sc d 258 (1459, [l0, l1, l2, l3], [.int (iRd sc h k2 i3), .int i1, .ref k0], h) Q) := t_iald k_258_1458
theorem k_258_1459 : lk 258 1459 = some (.aload_n 0, 1460, 0, 0, .null) := by decide +kernel
theorem x_258_1459 : Tr sc d 258 (1459, [some (.ref xk), l1, l2, l3], [.int i2, .int i1, .ref k0], h) Q = Tr sc d 258 (1460, [some (.ref xk), l1, l2, l3], [.ref xk, .int i2, .int i1, .ref k0], h) Q := t_aload_n k_258_1459 rfl
theorem k_258_1460 : lk 258 1460 = some (.iload_n 3, 1461, 3, 0, .null) := by decide +kernel
theorem x_258_1460 : Tr sc d 258 (1460, [l0, l1, l2, some (.int x)], [.ref k3, .int i2, .int i1, .ref k0], h) Q = Tr sc d 258 (1461, [l0, l1, l2, some (.int x)], [.int x, .ref k3, .int i2, .int i1, .ref k0], h) Q := t_iload_n k_258_1460 rfl
theorem k_258_1461 : lk 258 1461 = some (.iconst 3, 1462, 0, 0, .int 3) := by decide +kernel
theorem x_258_1461 : Tr sc d 258 (1461, [l0, l1, l2, l3], [.int i4, .ref k3, .int i2, .int i1, .ref k0], h) Q = Tr sc d 258 (1462, [l0, l1, l2, l3], [.int 3, .int i4, .ref k3, .int i2, .int i1, .ref k0], h) Q := t_go k_258_1461 rfl
theorem k_258_1462 : lk 258 1462 = some (.iadd, 1463, 0, 0, .null) := by decide +kernel
theorem x_258_1462 : Tr sc d 258 (1462, [l0, l1, l2, l3], [.int i5, .int i4, .ref k3, .int i2, .int i1, .ref k0], h) Q = Tr sc d 258 (1463, [l0, l1, l2, l3], [.int (i4 + i5), .ref k3, .int i2, .int i1, .ref k0], h) Q := t_go k_258_1462 rfl
theorem k_258_1463 : lk 258 1463 = some (.iaload, 1464, 0, 0, .null) := by decide +kernel
theorem x_258_1463 : Tr sc d 258 (1463, [l0, l1, l2, l3], [.int i4, .ref k3, .int i2, .int i1, .ref k0], h) Q = (iOk sc h k3 i4 ∧ Tr sc d 258 (1464, [l0, l1, l2, l3], [.int (iRd sc h k3 i4), .int i2, .int i1, .ref k0], h) Q) := t_iald k_258_1463
theorem k_258_1464 : lk 258 1464 = some (.aload_n 0, 1465, 0, 0, .null) := by decide +kernel
theorem x_258_1464 : Tr sc d 258 (1464, [some (.ref xk), l1, l2, l3], [.int i3, .int i2, .int i1, .ref k0], h) Q = Tr sc d 258 (1465, [some (.ref xk), l1, l2, l3], [.ref xk, .int i3, .int i2, .int i1, .ref k0], h) Q := t_aload_n k_258_1464 rfl
theorem k_258_1465 : lk 258 1465 = some (.iload_n 3, 1466, 3, 0, .null) := by decide +kernel
theorem x_258_1465 : Tr sc d 258 (1465, [l0, l1, l2, some (.int x)], [.ref k4, .int i3, .int i2, .int i1, .ref k0], h) Q = Tr sc d 258 (1466, [l0, l1, l2, some (.int x)], [.int x, .ref k4, .int i3, .int i2, .int i1, .ref k0], h) Q := t_iload_n k_258_1465 rfl
theorem k_258_1466 : lk 258 1466 = some (.iconst 4, 1467, 0, 0, .int 4) := by decide +kernel
theorem x_258_1466 : Tr sc d 258 (1466, [l0, l1, l2, l3], [.int i5, .ref k4, .int i3, .int i2, .int i1, .ref k0], h) Q = Tr sc d 258 (1467, [l0, l1, l2, l3], [.int 4, .int i5, .ref k4, .int i3, .int i2, .int i1, .ref k0], h) Q := t_go k_258_1466 rfl
theorem k_258_1467 : lk 258 1467 = some (.iadd, 1468, 0, 0, .null) := by decide +kernel
theorem x_258_1467 : Tr sc d 258 (1467, [l0, l1, l2, l3], [.int i6, .int i5, .ref k4, .int i3, .int i2, .int i1, .ref k0], h) Q = Tr sc d 258 (1468, [l0, l1, l2, l3], [.int (i5 + i6), .ref k4, .int i3, .int i2, .int i1, .ref k0], h) Q := t_go k_258_1467 rfl
theorem k_258_1468 : lk 258 1468 = some (.iaload, 1469, 0, 0, .null) := by decide +kernel
theorem x_258_1468 : Tr sc d 258 (1468, [l0, l1, l2, l3], [.int i5, .ref k4, .int i3, .int i2, .int i1, .ref k0], h) Q = (iOk sc h k4 i5 ∧ Tr sc d 258 (1469, [l0, l1, l2, l3], [.int (iRd sc h k4 i5), .int i3, .int i2, .int i1, .ref k0], h) Q) := t_iald k_258_1468
theorem k_258_1469 : lk 258 1469 = some (.invokevirtual 149, 1472, 128, 4, .null) := by decide +kernel
theorem x_258_1469 : Tr sc (d + 1) 258 (1469, [l0, l1, l2, l3], [.int i4, .int i3, .int i2, .int i1, .ref k0], h) Q = (okp h k0 9 = true ∧ Tr sc d 128 (ent0 128 [.ref k0, .int i1, .int i2, .int i3, .int i4] h) (fun z => Tr sc (d + 1) 258 (1472, [l0, l1, l2, l3], z.1.toList ++ [], z.2) Q)) := t_cv (as := [.int i1, .int i2, .int i3, .int i4]) (r := []) k_258_1469 rfl rfl (Nat.le_of_ble_eq_true rfl) (Nat.le_of_ble_eq_true rfl) (Nat.le_of_ble_eq_true rfl)
theorem k_258_1472 : lk 258 1472 = some (.aload_n 2, 1473, 2, 0, .null) := by decide +kernel
theorem x_258_1472 : Tr sc d 258 (1472, [l0, l1, some (.ref xk), l3], [.int i0], h) Q = Tr sc d 258 (1473, [l0, l1, some (.ref xk), l3], [.ref xk, .int i0], h) Q := t_aload_n k_258_1472 rfl
theorem k_258_1473 : lk 258 1473 = some (.aload_n 0, 1474, 0, 0, .null) := by decide +kernel
theorem x_258_1473 : Tr sc d 258 (1473, [some (.ref xk), l1, l2, l3], [.ref k1, .int i0], h) Q = Tr sc d 258 (1474, [some (.ref xk), l1, l2, l3], [.ref xk, .ref k1, .int i0], h) Q := t_aload_n k_258_1473 rfl
theorem k_258_1474 : lk 258 1474 = some (.iload_n 3, 1475, 3, 0, .null) := by decide +kernel
theorem x_258_1474 : Tr sc d 258 (1474, [l0, l1, l2, some (.int x)], [.ref k2, .ref k1, .int i0], h) Q = Tr sc d 258 (1475, [l0, l1, l2, some (.int x)], [.int x, .ref k2, .ref k1, .int i0], h) Q := t_iload_n k_258_1474 rfl
theorem k_258_1475 : lk 258 1475 = some (.iconst 1, 1476, 0, 0, .int 1) := by decide +kernel
theorem x_258_1475 : Tr sc d 258 (1475, [l0, l1, l2, l3], [.int i3, .ref k2, .ref k1, .int i0], h) Q = Tr sc d 258 (1476, [l0, l1, l2, l3], [.int 1, .int i3, .ref k2, .ref k1, .int i0], h) Q := t_go k_258_1475 rfl
theorem k_258_1476 : lk 258 1476 = some (.iadd, 1477, 0, 0, .null) := by decide +kernel
theorem x_258_1476 : Tr sc d 258 (1476, [l0, l1, l2, l3], [.int i4, .int i3, .ref k2, .ref k1, .int i0], h) Q = Tr sc d 258 (1477, [l0, l1, l2, l3], [.int (i3 + i4), .ref k2, .ref k1, .int i0], h) Q := t_go k_258_1476 rfl
theorem k_258_1477 : lk 258 1477 = some (.iaload, 1478, 0, 0, .null) := by decide +kernel
theorem x_258_1477 : Tr sc d 258 (1477, [l0, l1, l2, l3], [.int i3, .ref k2, .ref k1, .int i0], h) Q = (iOk sc h k2 i3 ∧ Tr sc d 258 (1478, [l0, l1, l2, l3], [.int (iRd sc h k2 i3), .ref k1, .int i0], h) Q) := t_iald k_258_1477
theorem k_258_1478 : lk 258 1478 = some (.aload_n 0, 1479, 0, 0, .null) := by decide +kernel
theorem x_258_1478 : Tr sc d 258 (1478, [some (.ref xk), l1, l2, l3], [.int i2, .ref k1, .int i0], h) Q = Tr sc d 258 (1479, [some (.ref xk), l1, l2, l3], [.ref xk, .int i2, .ref k1, .int i0], h) Q := t_aload_n k_258_1478 rfl
theorem k_258_1479 : lk 258 1479 = some (.iload_n 3, 1480, 3, 0, .null) := by decide +kernel
theorem x_258_1479 : Tr sc d 258 (1479, [l0, l1, l2, some (.int x)], [.ref k3, .int i2, .ref k1, .int i0], h) Q = Tr sc d 258 (1480, [l0, l1, l2, some (.int x)], [.int x, .ref k3, .int i2, .ref k1, .int i0], h) Q := t_iload_n k_258_1479 rfl
theorem k_258_1480 : lk 258 1480 = some (.iconst 2, 1481, 0, 0, .int 2) := by decide +kernel
theorem x_258_1480 : Tr sc d 258 (1480, [l0, l1, l2, l3], [.int i4, .ref k3, .int i2, .ref k1, .int i0], h) Q = Tr sc d 258 (1481, [l0, l1, l2, l3], [.int 2, .int i4, .ref k3, .int i2, .ref k1, .int i0], h) Q := t_go k_258_1480 rfl
theorem k_258_1481 : lk 258 1481 = some (.iadd, 1482, 0, 0, .null) := by decide +kernel
theorem x_258_1481 : Tr sc d 258 (1481, [l0, l1, l2, l3], [.int i5, .int i4, .ref k3, .int i2, .ref k1, .int i0], h) Q = Tr sc d 258 (1482, [l0, l1, l2, l3], [.int (i4 + i5), .ref k3, .int i2, .ref k1, .int i0], h) Q := t_go k_258_1481 rfl
theorem k_258_1482 : lk 258 1482 = some (.iaload, 1483, 0, 0, .null) := by decide +kernel
theorem x_258_1482 : Tr sc d 258 (1482, [l0, l1, l2, l3], [.int i4, .ref k3, .int i2, .ref k1, .int i0], h) Q = (iOk sc h k3 i4 ∧ Tr sc d 258 (1483, [l0, l1, l2, l3], [.int (iRd sc h k3 i4), .int i2, .ref k1, .int i0], h) Q) := t_iald k_258_1482
theorem k_258_1483 : lk 258 1483 = some (.aload_n 0, 1484, 0, 0, .null) := by decide +kernel
theorem x_258_1483 : Tr sc d 258 (1483, [some (.ref xk), l1, l2, l3], [.int i3, .int i2, .ref k1, .int i0], h) Q = Tr sc d 258 (1484, [some (.ref xk), l1, l2, l3], [.ref xk, .int i3, .int i2, .ref k1, .int i0], h) Q := t_aload_n k_258_1483 rfl
theorem k_258_1484 : lk 258 1484 = some (.iload_n 3, 1485, 3, 0, .null) := by decide +kernel
theorem x_258_1484 : Tr sc d 258 (1484, [l0, l1, l2, some (.int x)], [.ref k4, .int i3, .int i2, .ref k1, .int i0], h) Q = Tr sc d 258 (1485, [l0, l1, l2, some (.int x)], [.int x, .ref k4, .int i3, .int i2, .ref k1, .int i0], h) Q := t_iload_n k_258_1484 rfl
theorem k_258_1485 : lk 258 1485 = some (.iconst 3, 1486, 0, 0, .int 3) := by decide +kernel
theorem x_258_1485 : Tr sc d 258 (1485, [l0, l1, l2, l3], [.int i5, .ref k4, .int i3, .int i2, .ref k1, .int i0], h) Q = Tr sc d 258 (1486, [l0, l1, l2, l3], [.int 3, .int i5, .ref k4, .int i3, .int i2, .ref k1, .int i0], h) Q := t_go k_258_1485 rfl
theorem k_258_1486 : lk 258 1486 = some (.iadd, 1487, 0, 0, .null) := by decide +kernel
theorem x_258_1486 : Tr sc d 258 (1486, [l0, l1, l2, l3], [.int i6, .int i5, .ref k4, .int i3, .int i2, .ref k1, .int i0], h) Q = Tr sc d 258 (1487, [l0, l1, l2, l3], [.int (i5 + i6), .ref k4, .int i3, .int i2, .ref k1, .int i0], h) Q := t_go k_258_1486 rfl
theorem k_258_1487 : lk 258 1487 = some (.iaload, 1488, 0, 0, .null) := by decide +kernel
theorem x_258_1487 : Tr sc d 258 (1487, [l0, l1, l2, l3], [.int i5, .ref k4, .int i3, .int i2, .ref k1, .int i0], h) Q = (iOk sc h k4 i5 ∧ Tr sc d 258 (1488, [l0, l1, l2, l3], [.int (iRd sc h k4 i5), .int i3, .int i2, .ref k1, .int i0], h) Q) := t_iald k_258_1487
theorem k_258_1488 : lk 258 1488 = some (.aload_n 0, 1489, 0, 0, .null) := by decide +kernel
theorem x_258_1488 : Tr sc d 258 (1488, [some (.ref xk), l1, l2, l3], [.int i4, .int i3, .int i2, .ref k1, .int i0], h) Q = Tr sc d 258 (1489, [some (.ref xk), l1, l2, l3], [.ref xk, .int i4, .int i3, .int i2, .ref k1, .int i0], h) Q := t_aload_n k_258_1488 rfl
theorem k_258_1489 : lk 258 1489 = some (.iload_n 3, 1490, 3, 0, .null) := by decide +kernel
theorem x_258_1489 : Tr sc d 258 (1489, [l0, l1, l2, some (.int x)], [.ref k5, .int i4, .int i3, .int i2, .ref k1, .int i0], h) Q = Tr sc d 258 (1490, [l0, l1, l2, some (.int x)], [.int x, .ref k5, .int i4, .int i3, .int i2, .ref k1, .int i0], h) Q := t_iload_n k_258_1489 rfl
theorem k_258_1490 : lk 258 1490 = some (.iconst 4, 1491, 0, 0, .int 4) := by decide +kernel
theorem x_258_1490 : Tr sc d 258 (1490, [l0, l1, l2, l3], [.int i6, .ref k5, .int i4, .int i3, .int i2, .ref k1, .int i0], h) Q = Tr sc d 258 (1491, [l0, l1, l2, l3], [.int 4, .int i6, .ref k5, .int i4, .int i3, .int i2, .ref k1, .int i0], h) Q := t_go k_258_1490 rfl
theorem k_258_1491 : lk 258 1491 = some (.iadd, 1492, 0, 0, .null) := by decide +kernel
theorem x_258_1491 : Tr sc d 258 (1491, [l0, l1, l2, l3], [.int i7, .int i6, .ref k5, .int i4, .int i3, .int i2, .ref k1, .int i0], h) Q = Tr sc d 258 (1492, [l0, l1, l2, l3], [.int (i6 + i7), .ref k5, .int i4, .int i3, .int i2, .ref k1, .int i0], h) Q := t_go k_258_1491 rfl
theorem k_258_1492 : lk 258 1492 = some (.iaload, 1493, 0, 0, .null) := by decide +kernel
theorem x_258_1492 : Tr sc d 258 (1492, [l0, l1, l2, l3], [.int i6, .ref k5, .int i4, .int i3, .int i2, .ref k1, .int i0], h) Q = (iOk sc h k5 i6 ∧ Tr sc d 258 (1493, [l0, l1, l2, l3], [.int (iRd sc h k5 i6), .int i4, .int i3, .int i2, .ref k1, .int i0], h) Q) := t_iald k_258_1492
theorem k_258_1493 : lk 258 1493 = some (.invokevirtual 152, 1496, 236, 4, .null) := by decide +kernel
theorem x_258_1493 : Tr sc (d + 1) 258 (1493, [l0, l1, l2, l3], [.int i5, .int i4, .int i3, .int i2, .ref k1, .int i0], h) Q = (okp h k1 10 = true ∧ Tr sc d 236 (ent0 236 [.ref k1, .int i2, .int i3, .int i4, .int i5] h) (fun z => Tr sc (d + 1) 258 (1496, [l0, l1, l2, l3], z.1.toList ++ [.int i0], z.2) Q)) := t_cv (as := [.int i2, .int i3, .int i4, .int i5]) (r := [.int i0]) k_258_1493 rfl rfl (Nat.le_of_ble_eq_true rfl) (Nat.le_of_ble_eq_true rfl) (Nat.le_of_ble_eq_true rfl)
theorem k_258_1496 : lk 258 1496 = some (.if_icmp .eq 252, 1499, 1748, 0, .null) := by decide +kernel
theorem x_258_1496 : Tr sc d 258 (1496, [l0, l1, l2, l3], [.int i1, .int i0], h) Q = if i0 = i1 then Tr sc d 258 (1748, [l0, l1, l2, l3], [], h) Q else Tr sc d 258 (1499, [l0, l1, l2, l3], [], h) Q := t_if k_258_1496 rfl
theorem k_258_1499 : lk 258 1499 = some (.iconst 0, 1500, 0, 0, .int 0) := by decide +kernel
theorem x_258_1499 : Tr sc d 258 (1499, [l0, l1, l2, l3], [], h) Q = Tr sc d 258 (1500, [l0, l1, l2, l3], [.int 0], h) Q := t_go k_258_1499 rfl
theorem k_258_1500 : lk 258 1500 = some (.ireturn, 1501, 0, 0, .null) := by decide +kernel
theorem x_258_1500 : Tr sc d 258 (1500, [l0, l1, l2, l3], [.int i0], h) Q = (vp_nar .boolean i0 = i0 ∧ Q (some (.int i0), h)) := t_zret k_258_1500 r_258
theorem k_258_1501 : lk 258 1501 = some (.aload_n 1, 1502, 1, 0, .null) := by decide +kernel
theorem x_258_1501 : Tr sc d 258 (1501, [l0, some (.ref xk), l2, l3], [], h) Q = Tr sc d 258 (1502, [l0, some (.ref xk), l2, l3], [.ref xk], h) Q := t_aload_n k_258_1501 rfl
theorem k_258_1502 : lk 258 1502 = some (.aload_n 0, 1503, 0, 0, .null) := by decide +kernel
theorem x_258_1502 : Tr sc d 258 (1502, [some (.ref xk), l1, l2, l3], [.ref k0], h) Q = Tr sc d 258 (1503, [some (.ref xk), l1, l2, l3], [.ref xk, .ref k0], h) Q := t_aload_n k_258_1502 rfl
theorem k_258_1503 : lk 258 1503 = some (.iload_n 3, 1504, 3, 0, .null) := by decide +kernel
theorem x_258_1503 : Tr sc d 258 (1503, [l0, l1, l2, some (.int x)], [.ref k1, .ref k0], h) Q = Tr sc d 258 (1504, [l0, l1, l2, some (.int x)], [.int x, .ref k1, .ref k0], h) Q := t_iload_n k_258_1503 rfl
theorem k_258_1504 : lk 258 1504 = some (.iconst 1, 1505, 0, 0, .int 1) := by decide +kernel
theorem x_258_1504 : Tr sc d 258 (1504, [l0, l1, l2, l3], [.int i2, .ref k1, .ref k0], h) Q = Tr sc d 258 (1505, [l0, l1, l2, l3], [.int 1, .int i2, .ref k1, .ref k0], h) Q := t_go k_258_1504 rfl
theorem k_258_1505 : lk 258 1505 = some (.iadd, 1506, 0, 0, .null) := by decide +kernel
theorem x_258_1505 : Tr sc d 258 (1505, [l0, l1, l2, l3], [.int i3, .int i2, .ref k1, .ref k0], h) Q = Tr sc d 258 (1506, [l0, l1, l2, l3], [.int (i2 + i3), .ref k1, .ref k0], h) Q := t_go k_258_1505 rfl
theorem k_258_1506 : lk 258 1506 = some (.iaload, 1507, 0, 0, .null) := by decide +kernel
theorem x_258_1506 : Tr sc d 258 (1506, [l0, l1, l2, l3], [.int i2, .ref k1, .ref k0], h) Q = (iOk sc h k1 i2 ∧ Tr sc d 258 (1507, [l0, l1, l2, l3], [.int (iRd sc h k1 i2), .ref k0], h) Q) := t_iald k_258_1506
theorem k_258_1507 : lk 258 1507 = some (.aload_n 0, 1508, 0, 0, .null) := by decide +kernel
theorem x_258_1507 : Tr sc d 258 (1507, [some (.ref xk), l1, l2, l3], [.int i1, .ref k0], h) Q = Tr sc d 258 (1508, [some (.ref xk), l1, l2, l3], [.ref xk, .int i1, .ref k0], h) Q := t_aload_n k_258_1507 rfl
theorem k_258_1508 : lk 258 1508 = some (.iload_n 3, 1509, 3, 0, .null) := by decide +kernel
theorem x_258_1508 : Tr sc d 258 (1508, [l0, l1, l2, some (.int x)], [.ref k2, .int i1, .ref k0], h) Q = Tr sc d 258 (1509, [l0, l1, l2, some (.int x)], [.int x, .ref k2, .int i1, .ref k0], h) Q := t_iload_n k_258_1508 rfl
theorem k_258_1509 : lk 258 1509 = some (.iconst 2, 1510, 0, 0, .int 2) := by decide +kernel
theorem x_258_1509 : Tr sc d 258 (1509, [l0, l1, l2, l3], [.int i3, .ref k2, .int i1, .ref k0], h) Q = Tr sc d 258 (1510, [l0, l1, l2, l3], [.int 2, .int i3, .ref k2, .int i1, .ref k0], h) Q := t_go k_258_1509 rfl
theorem k_258_1510 : lk 258 1510 = some (.iadd, 1511, 0, 0, .null) := by decide +kernel
theorem x_258_1510 : Tr sc d 258 (1510, [l0, l1, l2, l3], [.int i4, .int i3, .ref k2, .int i1, .ref k0], h) Q = Tr sc d 258 (1511, [l0, l1, l2, l3], [.int (i3 + i4), .ref k2, .int i1, .ref k0], h) Q := t_go k_258_1510 rfl
theorem k_258_1511 : lk 258 1511 = some (.iaload, 1512, 0, 0, .null) := by decide +kernel
theorem x_258_1511 : Tr sc d 258 (1511, [l0, l1, l2, l3], [.int i3, .ref k2, .int i1, .ref k0], h) Q = (iOk sc h k2 i3 ∧ Tr sc d 258 (1512, [l0, l1, l2, l3], [.int (iRd sc h k2 i3), .int i1, .ref k0], h) Q) := t_iald k_258_1511
theorem k_258_1512 : lk 258 1512 = some (.invokevirtual 153, 1515, 129, 2, .null) := by decide +kernel
theorem x_258_1512 : Tr sc (d + 1) 258 (1512, [l0, l1, l2, l3], [.int i2, .int i1, .ref k0], h) Q = (okp h k0 9 = true ∧ Tr sc d 129 (ent0 129 [.ref k0, .int i1, .int i2] h) (fun z => Tr sc (d + 1) 258 (1515, [l0, l1, l2, l3], z.1.toList ++ [], z.2) Q)) := t_cv (as := [.int i1, .int i2]) (r := []) k_258_1512 rfl rfl (Nat.le_of_ble_eq_true rfl) (Nat.le_of_ble_eq_true rfl) (Nat.le_of_ble_eq_true rfl)
theorem k_258_1515 : lk 258 1515 = some (.aload_n 2, 1516, 2, 0, .null) := by decide +kernel
theorem x_258_1515 : Tr sc d 258 (1515, [l0, l1, some (.ref xk), l3], [.int i0], h) Q = Tr sc d 258 (1516, [l0, l1, some (.ref xk), l3], [.ref xk, .int i0], h) Q := t_aload_n k_258_1515 rfl
theorem k_258_1516 : lk 258 1516 = some (.aload_n 0, 1517, 0, 0, .null) := by decide +kernel
theorem x_258_1516 : Tr sc d 258 (1516, [some (.ref xk), l1, l2, l3], [.ref k1, .int i0], h) Q = Tr sc d 258 (1517, [some (.ref xk), l1, l2, l3], [.ref xk, .ref k1, .int i0], h) Q := t_aload_n k_258_1516 rfl
theorem k_258_1517 : lk 258 1517 = some (.iload_n 3, 1518, 3, 0, .null) := by decide +kernel
theorem x_258_1517 : Tr sc d 258 (1517, [l0, l1, l2, some (.int x)], [.ref k2, .ref k1, .int i0], h) Q = Tr sc d 258 (1518, [l0, l1, l2, some (.int x)], [.int x, .ref k2, .ref k1, .int i0], h) Q := t_iload_n k_258_1517 rfl
theorem k_258_1518 : lk 258 1518 = some (.iconst 1, 1519, 0, 0, .int 1) := by decide +kernel
theorem x_258_1518 : Tr sc d 258 (1518, [l0, l1, l2, l3], [.int i3, .ref k2, .ref k1, .int i0], h) Q = Tr sc d 258 (1519, [l0, l1, l2, l3], [.int 1, .int i3, .ref k2, .ref k1, .int i0], h) Q := t_go k_258_1518 rfl
theorem k_258_1519 : lk 258 1519 = some (.iadd, 1520, 0, 0, .null) := by decide +kernel
theorem x_258_1519 : Tr sc d 258 (1519, [l0, l1, l2, l3], [.int i4, .int i3, .ref k2, .ref k1, .int i0], h) Q = Tr sc d 258 (1520, [l0, l1, l2, l3], [.int (i3 + i4), .ref k2, .ref k1, .int i0], h) Q := t_go k_258_1519 rfl
theorem k_258_1520 : lk 258 1520 = some (.iaload, 1521, 0, 0, .null) := by decide +kernel
theorem x_258_1520 : Tr sc d 258 (1520, [l0, l1, l2, l3], [.int i3, .ref k2, .ref k1, .int i0], h) Q = (iOk sc h k2 i3 ∧ Tr sc d 258 (1521, [l0, l1, l2, l3], [.int (iRd sc h k2 i3), .ref k1, .int i0], h) Q) := t_iald k_258_1520
theorem k_258_1521 : lk 258 1521 = some (.aload_n 0, 1522, 0, 0, .null) := by decide +kernel
theorem x_258_1521 : Tr sc d 258 (1521, [some (.ref xk), l1, l2, l3], [.int i2, .ref k1, .int i0], h) Q = Tr sc d 258 (1522, [some (.ref xk), l1, l2, l3], [.ref xk, .int i2, .ref k1, .int i0], h) Q := t_aload_n k_258_1521 rfl
theorem k_258_1522 : lk 258 1522 = some (.iload_n 3, 1523, 3, 0, .null) := by decide +kernel
theorem x_258_1522 : Tr sc d 258 (1522, [l0, l1, l2, some (.int x)], [.ref k3, .int i2, .ref k1, .int i0], h) Q = Tr sc d 258 (1523, [l0, l1, l2, some (.int x)], [.int x, .ref k3, .int i2, .ref k1, .int i0], h) Q := t_iload_n k_258_1522 rfl
theorem k_258_1523 : lk 258 1523 = some (.iconst 2, 1524, 0, 0, .int 2) := by decide +kernel
theorem x_258_1523 : Tr sc d 258 (1523, [l0, l1, l2, l3], [.int i4, .ref k3, .int i2, .ref k1, .int i0], h) Q = Tr sc d 258 (1524, [l0, l1, l2, l3], [.int 2, .int i4, .ref k3, .int i2, .ref k1, .int i0], h) Q := t_go k_258_1523 rfl
theorem k_258_1524 : lk 258 1524 = some (.iadd, 1525, 0, 0, .null) := by decide +kernel
theorem x_258_1524 : Tr sc d 258 (1524, [l0, l1, l2, l3], [.int i5, .int i4, .ref k3, .int i2, .ref k1, .int i0], h) Q = Tr sc d 258 (1525, [l0, l1, l2, l3], [.int (i4 + i5), .ref k3, .int i2, .ref k1, .int i0], h) Q := t_go k_258_1524 rfl
theorem k_258_1525 : lk 258 1525 = some (.iaload, 1526, 0, 0, .null) := by decide +kernel
theorem x_258_1525 : Tr sc d 258 (1525, [l0, l1, l2, l3], [.int i4, .ref k3, .int i2, .ref k1, .int i0], h) Q = (iOk sc h k3 i4 ∧ Tr sc d 258 (1526, [l0, l1, l2, l3], [.int (iRd sc h k3 i4), .int i2, .ref k1, .int i0], h) Q) := t_iald k_258_1525
theorem k_258_1526 : lk 258 1526 = some (.invokevirtual 156, 1529, 237, 2, .null) := by decide +kernel
theorem x_258_1526 : Tr sc (d + 1) 258 (1526, [l0, l1, l2, l3], [.int i3, .int i2, .ref k1, .int i0], h) Q = (okp h k1 10 = true ∧ Tr sc d 237 (ent0 237 [.ref k1, .int i2, .int i3] h) (fun z => Tr sc (d + 1) 258 (1529, [l0, l1, l2, l3], z.1.toList ++ [.int i0], z.2) Q)) := t_cv (as := [.int i2, .int i3]) (r := [.int i0]) k_258_1526 rfl rfl (Nat.le_of_ble_eq_true rfl) (Nat.le_of_ble_eq_true rfl) (Nat.le_of_ble_eq_true rfl)
theorem k_258_1529 : lk 258 1529 = some (.if_icmp .eq 219, 1532, 1748, 0, .null) := by decide +kernel
theorem x_258_1529 : Tr sc d 258 (1529, [l0, l1, l2, l3], [.int i1, .int i0], h) Q = if i0 = i1 then Tr sc d 258 (1748, [l0, l1, l2, l3], [], h) Q else Tr sc d 258 (1532, [l0, l1, l2, l3], [], h) Q := t_if k_258_1529 rfl
theorem k_258_1532 : lk 258 1532 = some (.iconst 0, 1533, 0, 0, .int 0) := by decide +kernel
theorem x_258_1532 : Tr sc d 258 (1532, [l0, l1, l2, l3], [], h) Q = Tr sc d 258 (1533, [l0, l1, l2, l3], [.int 0], h) Q := t_go k_258_1532 rfl
theorem k_258_1533 : lk 258 1533 = some (.ireturn, 1534, 0, 0, .null) := by decide +kernel
theorem x_258_1533 : Tr sc d 258 (1533, [l0, l1, l2, l3], [.int i0], h) Q = (vp_nar .boolean i0 = i0 ∧ Q (some (.int i0), h)) := t_zret k_258_1533 r_258
theorem k_258_1534 : lk 258 1534 = some (.aload_n 1, 1535, 1, 0, .null) := by decide +kernel
theorem x_258_1534 : Tr sc d 258 (1534, [l0, some (.ref xk), l2, l3], [], h) Q = Tr sc d 258 (1535, [l0, some (.ref xk), l2, l3], [.ref xk], h) Q := t_aload_n k_258_1534 rfl
theorem k_258_1535 : lk 258 1535 = some (.aload_n 0, 1536, 0, 0, .null) := by decide +kernel
theorem x_258_1535 : Tr sc d 258 (1535, [some (.ref xk), l1, l2, l3], [.ref k0], h) Q = Tr sc d 258 (1536, [some (.ref xk), l1, l2, l3], [.ref xk, .ref k0], h) Q := t_aload_n k_258_1535 rfl
theorem k_258_1536 : lk 258 1536 = some (.iload_n 3, 1537, 3, 0, .null) := by decide +kernel
theorem x_258_1536 : Tr sc d 258 (1536, [l0, l1, l2, some (.int x)], [.ref k1, .ref k0], h) Q = Tr sc d 258 (1537, [l0, l1, l2, some (.int x)], [.int x, .ref k1, .ref k0], h) Q := t_iload_n k_258_1536 rfl
theorem k_258_1537 : lk 258 1537 = some (.iconst 1, 1538, 0, 0, .int 1) := by decide +kernel
theorem x_258_1537 : Tr sc d 258 (1537, [l0, l1, l2, l3], [.int i2, .ref k1, .ref k0], h) Q = Tr sc d 258 (1538, [l0, l1, l2, l3], [.int 1, .int i2, .ref k1, .ref k0], h) Q := t_go k_258_1537 rfl
theorem k_258_1538 : lk 258 1538 = some (.iadd, 1539, 0, 0, .null) := by decide +kernel
theorem x_258_1538 : Tr sc d 258 (1538, [l0, l1, l2, l3], [.int i3, .int i2, .ref k1, .ref k0], h) Q = Tr sc d 258 (1539, [l0, l1, l2, l3], [.int (i2 + i3), .ref k1, .ref k0], h) Q := t_go k_258_1538 rfl
theorem k_258_1539 : lk 258 1539 = some (.iaload, 1540, 0, 0, .null) := by decide +kernel
theorem x_258_1539 : Tr sc d 258 (1539, [l0, l1, l2, l3], [.int i2, .ref k1, .ref k0], h) Q = (iOk sc h k1 i2 ∧ Tr sc d 258 (1540, [l0, l1, l2, l3], [.int (iRd sc h k1 i2), .ref k0], h) Q) := t_iald k_258_1539
theorem k_258_1540 : lk 258 1540 = some (.aload_n 0, 1541, 0, 0, .null) := by decide +kernel
theorem x_258_1540 : Tr sc d 258 (1540, [some (.ref xk), l1, l2, l3], [.int i1, .ref k0], h) Q = Tr sc d 258 (1541, [some (.ref xk), l1, l2, l3], [.ref xk, .int i1, .ref k0], h) Q := t_aload_n k_258_1540 rfl
theorem k_258_1541 : lk 258 1541 = some (.iload_n 3, 1542, 3, 0, .null) := by decide +kernel
theorem x_258_1541 : Tr sc d 258 (1541, [l0, l1, l2, some (.int x)], [.ref k2, .int i1, .ref k0], h) Q = Tr sc d 258 (1542, [l0, l1, l2, some (.int x)], [.int x, .ref k2, .int i1, .ref k0], h) Q := t_iload_n k_258_1541 rfl
theorem k_258_1542 : lk 258 1542 = some (.iconst 2, 1543, 0, 0, .int 2) := by decide +kernel
theorem x_258_1542 : Tr sc d 258 (1542, [l0, l1, l2, l3], [.int i3, .ref k2, .int i1, .ref k0], h) Q = Tr sc d 258 (1543, [l0, l1, l2, l3], [.int 2, .int i3, .ref k2, .int i1, .ref k0], h) Q := t_go k_258_1542 rfl
theorem k_258_1543 : lk 258 1543 = some (.iadd, 1544, 0, 0, .null) := by decide +kernel
theorem x_258_1543 : Tr sc d 258 (1543, [l0, l1, l2, l3], [.int i4, .int i3, .ref k2, .int i1, .ref k0], h) Q = Tr sc d 258 (1544, [l0, l1, l2, l3], [.int (i3 + i4), .ref k2, .int i1, .ref k0], h) Q := t_go k_258_1543 rfl
theorem k_258_1544 : lk 258 1544 = some (.iaload, 1545, 0, 0, .null) := by decide +kernel
theorem x_258_1544 : Tr sc d 258 (1544, [l0, l1, l2, l3], [.int i3, .ref k2, .int i1, .ref k0], h) Q = (iOk sc h k2 i3 ∧ Tr sc d 258 (1545, [l0, l1, l2, l3], [.int (iRd sc h k2 i3), .int i1, .ref k0], h) Q) := t_iald k_258_1544
theorem k_258_1545 : lk 258 1545 = some (.aload_n 0, 1546, 0, 0, .null) := by decide +kernel
theorem x_258_1545 : Tr sc d 258 (1545, [some (.ref xk), l1, l2, l3], [.int i2, .int i1, .ref k0], h) Q = Tr sc d 258 (1546, [some (.ref xk), l1, l2, l3], [.ref xk, .int i2, .int i1, .ref k0], h) Q := t_aload_n k_258_1545 rfl
theorem k_258_1546 : lk 258 1546 = some (.iload_n 3, 1547, 3, 0, .null) := by decide +kernel
theorem x_258_1546 : Tr sc d 258 (1546, [l0, l1, l2, some (.int x)], [.ref k3, .int i2, .int i1, .ref k0], h) Q = Tr sc d 258 (1547, [l0, l1, l2, some (.int x)], [.int x, .ref k3, .int i2, .int i1, .ref k0], h) Q := t_iload_n k_258_1546 rfl
theorem k_258_1547 : lk 258 1547 = some (.iconst 3, 1548, 0, 0, .int 3) := by decide +kernel
theorem x_258_1547 : Tr sc d 258 (1547, [l0, l1, l2, l3], [.int i4, .ref k3, .int i2, .int i1, .ref k0], h) Q = Tr sc d 258 (1548, [l0, l1, l2, l3], [.int 3, .int i4, .ref k3, .int i2, .int i1, .ref k0], h) Q := t_go k_258_1547 rfl
theorem k_258_1548 : lk 258 1548 = some (.iadd, 1549, 0, 0, .null) := by decide +kernel
theorem x_258_1548 : Tr sc d 258 (1548, [l0, l1, l2, l3], [.int i5, .int i4, .ref k3, .int i2, .int i1, .ref k0], h) Q = Tr sc d 258 (1549, [l0, l1, l2, l3], [.int (i4 + i5), .ref k3, .int i2, .int i1, .ref k0], h) Q := t_go k_258_1548 rfl
theorem k_258_1549 : lk 258 1549 = some (.iaload, 1550, 0, 0, .null) := by decide +kernel
theorem x_258_1549 : Tr sc d 258 (1549, [l0, l1, l2, l3], [.int i4, .ref k3, .int i2, .int i1, .ref k0], h) Q = (iOk sc h k3 i4 ∧ Tr sc d 258 (1550, [l0, l1, l2, l3], [.int (iRd sc h k3 i4), .int i2, .int i1, .ref k0], h) Q) := t_iald k_258_1549
theorem k_258_1550 : lk 258 1550 = some (.invokevirtual 157, 1553, 130, 3, .null) := by decide +kernel
theorem x_258_1550 : Tr sc (d + 1) 258 (1550, [l0, l1, l2, l3], [.int i3, .int i2, .int i1, .ref k0], h) Q = (okp h k0 9 = true ∧ Tr sc d 130 (ent0 130 [.ref k0, .int i1, .int i2, .int i3] h) (fun z => Tr sc (d + 1) 258 (1553, [l0, l1, l2, l3], z.1.toList ++ [], z.2) Q)) := t_cv (as := [.int i1, .int i2, .int i3]) (r := []) k_258_1550 rfl rfl (Nat.le_of_ble_eq_true rfl) (Nat.le_of_ble_eq_true rfl) (Nat.le_of_ble_eq_true rfl)
theorem k_258_1553 : lk 258 1553 = some (.aload_n 2, 1554, 2, 0, .null) := by decide +kernel
theorem x_258_1553 : Tr sc d 258 (1553, [l0, l1, some (.ref xk), l3], [.int i0], h) Q = Tr sc d 258 (1554, [l0, l1, some (.ref xk), l3], [.ref xk, .int i0], h) Q := t_aload_n k_258_1553 rfl
theorem k_258_1554 : lk 258 1554 = some (.aload_n 0, 1555, 0, 0, .null) := by decide +kernel
theorem x_258_1554 : Tr sc d 258 (1554, [some (.ref xk), l1, l2, l3], [.ref k1, .int i0], h) Q = Tr sc d 258 (1555, [some (.ref xk), l1, l2, l3], [.ref xk, .ref k1, .int i0], h) Q := t_aload_n k_258_1554 rfl
theorem k_258_1555 : lk 258 1555 = some (.iload_n 3, 1556, 3, 0, .null) := by decide +kernel
theorem x_258_1555 : Tr sc d 258 (1555, [l0, l1, l2, some (.int x)], [.ref k2, .ref k1, .int i0], h) Q = Tr sc d 258 (1556, [l0, l1, l2, some (.int x)], [.int x, .ref k2, .ref k1, .int i0], h) Q := t_iload_n k_258_1555 rfl
theorem k_258_1556 : lk 258 1556 = some (.iconst 1, 1557, 0, 0, .int 1) := by decide +kernel
theorem x_258_1556 : Tr sc d 258 (1556, [l0, l1, l2, l3], [.int i3, .ref k2, .ref k1, .int i0], h) Q = Tr sc d 258 (1557, [l0, l1, l2, l3], [.int 1, .int i3, .ref k2, .ref k1, .int i0], h) Q := t_go k_258_1556 rfl
theorem k_258_1557 : lk 258 1557 = some (.iadd, 1558, 0, 0, .null) := by decide +kernel
theorem x_258_1557 : Tr sc d 258 (1557, [l0, l1, l2, l3], [.int i4, .int i3, .ref k2, .ref k1, .int i0], h) Q = Tr sc d 258 (1558, [l0, l1, l2, l3], [.int (i3 + i4), .ref k2, .ref k1, .int i0], h) Q := t_go k_258_1557 rfl
theorem k_258_1558 : lk 258 1558 = some (.iaload, 1559, 0, 0, .null) := by decide +kernel
theorem x_258_1558 : Tr sc d 258 (1558, [l0, l1, l2, l3], [.int i3, .ref k2, .ref k1, .int i0], h) Q = (iOk sc h k2 i3 ∧ Tr sc d 258 (1559, [l0, l1, l2, l3], [.int (iRd sc h k2 i3), .ref k1, .int i0], h) Q) := t_iald k_258_1558
theorem k_258_1559 : lk 258 1559 = some (.aload_n 0, 1560, 0, 0, .null) := by decide +kernel
theorem x_258_1559 : Tr sc d 258 (1559, [some (.ref xk), l1, l2, l3], [.int i2, .ref k1, .int i0], h) Q = Tr sc d 258 (1560, [some (.ref xk), l1, l2, l3], [.ref xk, .int i2, .ref k1, .int i0], h) Q := t_aload_n k_258_1559 rfl
theorem k_258_1560 : lk 258 1560 = some (.iload_n 3, 1561, 3, 0, .null) := by decide +kernel
theorem x_258_1560 : Tr sc d 258 (1560, [l0, l1, l2, some (.int x)], [.ref k3, .int i2, .ref k1, .int i0], h) Q = Tr sc d 258 (1561, [l0, l1, l2, some (.int x)], [.int x, .ref k3, .int i2, .ref k1, .int i0], h) Q := t_iload_n k_258_1560 rfl
theorem k_258_1561 : lk 258 1561 = some (.iconst 2, 1562, 0, 0, .int 2) := by decide +kernel
theorem x_258_1561 : Tr sc d 258 (1561, [l0, l1, l2, l3], [.int i4, .ref k3, .int i2, .ref k1, .int i0], h) Q = Tr sc d 258 (1562, [l0, l1, l2, l3], [.int 2, .int i4, .ref k3, .int i2, .ref k1, .int i0], h) Q := t_go k_258_1561 rfl
theorem k_258_1562 : lk 258 1562 = some (.iadd, 1563, 0, 0, .null) := by decide +kernel
theorem x_258_1562 : Tr sc d 258 (1562, [l0, l1, l2, l3], [.int i5, .int i4, .ref k3, .int i2, .ref k1, .int i0], h) Q = Tr sc d 258 (1563, [l0, l1, l2, l3], [.int (i4 + i5), .ref k3, .int i2, .ref k1, .int i0], h) Q := t_go k_258_1562 rfl
theorem k_258_1563 : lk 258 1563 = some (.iaload, 1564, 0, 0, .null) := by decide +kernel
theorem x_258_1563 : Tr sc d 258 (1563, [l0, l1, l2, l3], [.int i4, .ref k3, .int i2, .ref k1, .int i0], h) Q = (iOk sc h k3 i4 ∧ Tr sc d 258 (1564, [l0, l1, l2, l3], [.int (iRd sc h k3 i4), .int i2, .ref k1, .int i0], h) Q) := t_iald k_258_1563
theorem k_258_1564 : lk 258 1564 = some (.aload_n 0, 1565, 0, 0, .null) := by decide +kernel
theorem x_258_1564 : Tr sc d 258 (1564, [some (.ref xk), l1, l2, l3], [.int i3, .int i2, .ref k1, .int i0], h) Q = Tr sc d 258 (1565, [some (.ref xk), l1, l2, l3], [.ref xk, .int i3, .int i2, .ref k1, .int i0], h) Q := t_aload_n k_258_1564 rfl
theorem k_258_1565 : lk 258 1565 = some (.iload_n 3, 1566, 3, 0, .null) := by decide +kernel
theorem x_258_1565 : Tr sc d 258 (1565, [l0, l1, l2, some (.int x)], [.ref k4, .int i3, .int i2, .ref k1, .int i0], h) Q = Tr sc d 258 (1566, [l0, l1, l2, some (.int x)], [.int x, .ref k4, .int i3, .int i2, .ref k1, .int i0], h) Q := t_iload_n k_258_1565 rfl
theorem k_258_1566 : lk 258 1566 = some (.iconst 3, 1567, 0, 0, .int 3) := by decide +kernel
theorem x_258_1566 : Tr sc d 258 (1566, [l0, l1, l2, l3], [.int i5, .ref k4, .int i3, .int i2, .ref k1, .int i0], h) Q = Tr sc d 258 (1567, [l0, l1, l2, l3], [.int 3, .int i5, .ref k4, .int i3, .int i2, .ref k1, .int i0], h) Q := t_go k_258_1566 rfl
theorem k_258_1567 : lk 258 1567 = some (.iadd, 1568, 0, 0, .null) := by decide +kernel
theorem x_258_1567 : Tr sc d 258 (1567, [l0, l1, l2, l3], [.int i6, .int i5, .ref k4, .int i3, .int i2, .ref k1, .int i0], h) Q = Tr sc d 258 (1568, [l0, l1, l2, l3], [.int (i5 + i6), .ref k4, .int i3, .int i2, .ref k1, .int i0], h) Q := t_go k_258_1567 rfl
theorem k_258_1568 : lk 258 1568 = some (.iaload, 1569, 0, 0, .null) := by decide +kernel
theorem x_258_1568 : Tr sc d 258 (1568, [l0, l1, l2, l3], [.int i5, .ref k4, .int i3, .int i2, .ref k1, .int i0], h) Q = (iOk sc h k4 i5 ∧ Tr sc d 258 (1569, [l0, l1, l2, l3], [.int (iRd sc h k4 i5), .int i3, .int i2, .ref k1, .int i0], h) Q) := t_iald k_258_1568
theorem k_258_1569 : lk 258 1569 = some (.invokevirtual 160, 1572, 239, 3, .null) := by decide +kernel
theorem x_258_1569 : Tr sc (d + 1) 258 (1569, [l0, l1, l2, l3], [.int i4, .int i3, .int i2, .ref k1, .int i0], h) Q = (okp h k1 10 = true ∧ Tr sc d 239 (ent0 239 [.ref k1, .int i2, .int i3, .int i4] h) (fun z => Tr sc (d + 1) 258 (1572, [l0, l1, l2, l3], z.1.toList ++ [.int i0], z.2) Q)) := t_cv (as := [.int i2, .int i3, .int i4]) (r := [.int i0]) k_258_1569 rfl rfl (Nat.le_of_ble_eq_true rfl) (Nat.le_of_ble_eq_true rfl) (Nat.le_of_ble_eq_true rfl)
theorem k_258_1572 : lk 258 1572 = some (.if_icmp .eq 176, 1575, 1748, 0, .null) := by decide +kernel
theorem x_258_1572 : Tr sc d 258 (1572, [l0, l1, l2, l3], [.int i1, .int i0], h) Q = if i0 = i1 then Tr sc d 258 (1748, [l0, l1, l2, l3], [], h) Q else Tr sc d 258 (1575, [l0, l1, l2, l3], [], h) Q := t_if k_258_1572 rfl
theorem k_258_1575 : lk 258 1575 = some (.iconst 0, 1576, 0, 0, .int 0) := by decide +kernel
theorem x_258_1575 : Tr sc d 258 (1575, [l0, l1, l2, l3], [], h) Q = Tr sc d 258 (1576, [l0, l1, l2, l3], [.int 0], h) Q := t_go k_258_1575 rfl
theorem k_258_1576 : lk 258 1576 = some (.ireturn, 1577, 0, 0, .null) := by decide +kernel
theorem x_258_1576 : Tr sc d 258 (1576, [l0, l1, l2, l3], [.int i0], h) Q = (vp_nar .boolean i0 = i0 ∧ Q (some (.int i0), h)) := t_zret k_258_1576 r_258
theorem k_258_1577 : lk 258 1577 = some (.aload_n 1, 1578, 1, 0, .null) := by decide +kernel
theorem x_258_1577 : Tr sc d 258 (1577, [l0, some (.ref xk), l2, l3], [], h) Q = Tr sc d 258 (1578, [l0, some (.ref xk), l2, l3], [.ref xk], h) Q := t_aload_n k_258_1577 rfl
theorem k_258_1578 : lk 258 1578 = some (.aload_n 0, 1579, 0, 0, .null) := by decide +kernel
theorem x_258_1578 : Tr sc d 258 (1578, [some (.ref xk), l1, l2, l3], [.ref k0], h) Q = Tr sc d 258 (1579, [some (.ref xk), l1, l2, l3], [.ref xk, .ref k0], h) Q := t_aload_n k_258_1578 rfl
theorem k_258_1579 : lk 258 1579 = some (.iload_n 3, 1580, 3, 0, .null) := by decide +kernel
theorem x_258_1579 : Tr sc d 258 (1579, [l0, l1, l2, some (.int x)], [.ref k1, .ref k0], h) Q = Tr sc d 258 (1580, [l0, l1, l2, some (.int x)], [.int x, .ref k1, .ref k0], h) Q := t_iload_n k_258_1579 rfl
theorem k_258_1580 : lk 258 1580 = some (.iconst 1, 1581, 0, 0, .int 1) := by decide +kernel
theorem x_258_1580 : Tr sc d 258 (1580, [l0, l1, l2, l3], [.int i2, .ref k1, .ref k0], h) Q = Tr sc d 258 (1581, [l0, l1, l2, l3], [.int 1, .int i2, .ref k1, .ref k0], h) Q := t_go k_258_1580 rfl
theorem k_258_1581 : lk 258 1581 = some (.iadd, 1582, 0, 0, .null) := by decide +kernel
theorem x_258_1581 : Tr sc d 258 (1581, [l0, l1, l2, l3], [.int i3, .int i2, .ref k1, .ref k0], h) Q = Tr sc d 258 (1582, [l0, l1, l2, l3], [.int (i2 + i3), .ref k1, .ref k0], h) Q := t_go k_258_1581 rfl
theorem k_258_1582 : lk 258 1582 = some (.iaload, 1583, 0, 0, .null) := by decide +kernel
theorem x_258_1582 : Tr sc d 258 (1582, [l0, l1, l2, l3], [.int i2, .ref k1, .ref k0], h) Q = (iOk sc h k1 i2 ∧ Tr sc d 258 (1583, [l0, l1, l2, l3], [.int (iRd sc h k1 i2), .ref k0], h) Q) := t_iald k_258_1582
theorem k_258_1583 : lk 258 1583 = some (.aload_n 0, 1584, 0, 0, .null) := by decide +kernel
theorem x_258_1583 : Tr sc d 258 (1583, [some (.ref xk), l1, l2, l3], [.int i1, .ref k0], h) Q = Tr sc d 258 (1584, [some (.ref xk), l1, l2, l3], [.ref xk, .int i1, .ref k0], h) Q := t_aload_n k_258_1583 rfl
theorem k_258_1584 : lk 258 1584 = some (.iload_n 3, 1585, 3, 0, .null) := by decide +kernel
theorem x_258_1584 : Tr sc d 258 (1584, [l0, l1, l2, some (.int x)], [.ref k2, .int i1, .ref k0], h) Q = Tr sc d 258 (1585, [l0, l1, l2, some (.int x)], [.int x, .ref k2, .int i1, .ref k0], h) Q := t_iload_n k_258_1584 rfl
theorem k_258_1585 : lk 258 1585 = some (.iconst 2, 1586, 0, 0, .int 2) := by decide +kernel
theorem x_258_1585 : Tr sc d 258 (1585, [l0, l1, l2, l3], [.int i3, .ref k2, .int i1, .ref k0], h) Q = Tr sc d 258 (1586, [l0, l1, l2, l3], [.int 2, .int i3, .ref k2, .int i1, .ref k0], h) Q := t_go k_258_1585 rfl
theorem k_258_1586 : lk 258 1586 = some (.iadd, 1587, 0, 0, .null) := by decide +kernel
theorem x_258_1586 : Tr sc d 258 (1586, [l0, l1, l2, l3], [.int i4, .int i3, .ref k2, .int i1, .ref k0], h) Q = Tr sc d 258 (1587, [l0, l1, l2, l3], [.int (i3 + i4), .ref k2, .int i1, .ref k0], h) Q := t_go k_258_1586 rfl
theorem k_258_1587 : lk 258 1587 = some (.iaload, 1588, 0, 0, .null) := by decide +kernel
theorem x_258_1587 : Tr sc d 258 (1587, [l0, l1, l2, l3], [.int i3, .ref k2, .int i1, .ref k0], h) Q = (iOk sc h k2 i3 ∧ Tr sc d 258 (1588, [l0, l1, l2, l3], [.int (iRd sc h k2 i3), .int i1, .ref k0], h) Q) := t_iald k_258_1587
theorem k_258_1588 : lk 258 1588 = some (.aload_n 0, 1589, 0, 0, .null) := by decide +kernel
theorem x_258_1588 : Tr sc d 258 (1588, [some (.ref xk), l1, l2, l3], [.int i2, .int i1, .ref k0], h) Q = Tr sc d 258 (1589, [some (.ref xk), l1, l2, l3], [.ref xk, .int i2, .int i1, .ref k0], h) Q := t_aload_n k_258_1588 rfl
theorem k_258_1589 : lk 258 1589 = some (.iload_n 3, 1590, 3, 0, .null) := by decide +kernel
theorem x_258_1589 : Tr sc d 258 (1589, [l0, l1, l2, some (.int x)], [.ref k3, .int i2, .int i1, .ref k0], h) Q = Tr sc d 258 (1590, [l0, l1, l2, some (.int x)], [.int x, .ref k3, .int i2, .int i1, .ref k0], h) Q := t_iload_n k_258_1589 rfl
theorem k_258_1590 : lk 258 1590 = some (.iconst 3, 1591, 0, 0, .int 3) := by decide +kernel
theorem x_258_1590 : Tr sc d 258 (1590, [l0, l1, l2, l3], [.int i4, .ref k3, .int i2, .int i1, .ref k0], h) Q = Tr sc d 258 (1591, [l0, l1, l2, l3], [.int 3, .int i4, .ref k3, .int i2, .int i1, .ref k0], h) Q := t_go k_258_1590 rfl
theorem k_258_1591 : lk 258 1591 = some (.iadd, 1592, 0, 0, .null) := by decide +kernel
theorem x_258_1591 : Tr sc d 258 (1591, [l0, l1, l2, l3], [.int i5, .int i4, .ref k3, .int i2, .int i1, .ref k0], h) Q = Tr sc d 258 (1592, [l0, l1, l2, l3], [.int (i4 + i5), .ref k3, .int i2, .int i1, .ref k0], h) Q := t_go k_258_1591 rfl
theorem k_258_1592 : lk 258 1592 = some (.iaload, 1593, 0, 0, .null) := by decide +kernel
theorem x_258_1592 : Tr sc d 258 (1592, [l0, l1, l2, l3], [.int i4, .ref k3, .int i2, .int i1, .ref k0], h) Q = (iOk sc h k3 i4 ∧ Tr sc d 258 (1593, [l0, l1, l2, l3], [.int (iRd sc h k3 i4), .int i2, .int i1, .ref k0], h) Q) := t_iald k_258_1592
theorem k_258_1593 : lk 258 1593 = some (.invokevirtual 161, 1596, 131, 3, .null) := by decide +kernel
theorem x_258_1593 : Tr sc (d + 1) 258 (1593, [l0, l1, l2, l3], [.int i3, .int i2, .int i1, .ref k0], h) Q = (okp h k0 9 = true ∧ Tr sc d 131 (ent0 131 [.ref k0, .int i1, .int i2, .int i3] h) (fun z => Tr sc (d + 1) 258 (1596, [l0, l1, l2, l3], z.1.toList ++ [], z.2) Q)) := t_cv (as := [.int i1, .int i2, .int i3]) (r := []) k_258_1593 rfl rfl (Nat.le_of_ble_eq_true rfl) (Nat.le_of_ble_eq_true rfl) (Nat.le_of_ble_eq_true rfl)
theorem k_258_1596 : lk 258 1596 = some (.aload_n 2, 1597, 2, 0, .null) := by decide +kernel
theorem x_258_1596 : Tr sc d 258 (1596, [l0, l1, some (.ref xk), l3], [.int i0], h) Q = Tr sc d 258 (1597, [l0, l1, some (.ref xk), l3], [.ref xk, .int i0], h) Q := t_aload_n k_258_1596 rfl
theorem k_258_1597 : lk 258 1597 = some (.aload_n 0, 1598, 0, 0, .null) := by decide +kernel
theorem x_258_1597 : Tr sc d 258 (1597, [some (.ref xk), l1, l2, l3], [.ref k1, .int i0], h) Q = Tr sc d 258 (1598, [some (.ref xk), l1, l2, l3], [.ref xk, .ref k1, .int i0], h) Q := t_aload_n k_258_1597 rfl
theorem k_258_1598 : lk 258 1598 = some (.iload_n 3, 1599, 3, 0, .null) := by decide +kernel
theorem x_258_1598 : Tr sc d 258 (1598, [l0, l1, l2, some (.int x)], [.ref k2, .ref k1, .int i0], h) Q = Tr sc d 258 (1599, [l0, l1, l2, some (.int x)], [.int x, .ref k2, .ref k1, .int i0], h) Q := t_iload_n k_258_1598 rfl
theorem k_258_1599 : lk 258 1599 = some (.iconst 1, 1600, 0, 0, .int 1) := by decide +kernel
theorem x_258_1599 : Tr sc d 258 (1599, [l0, l1, l2, l3], [.int i3, .ref k2, .ref k1, .int i0], h) Q = Tr sc d 258 (1600, [l0, l1, l2, l3], [.int 1, .int i3, .ref k2, .ref k1, .int i0], h) Q := t_go k_258_1599 rfl
theorem k_258_1600 : lk 258 1600 = some (.iadd, 1601, 0, 0, .null) := by decide +kernel
theorem x_258_1600 : Tr sc d 258 (1600, [l0, l1, l2, l3], [.int i4, .int i3, .ref k2, .ref k1, .int i0], h) Q = Tr sc d 258 (1601, [l0, l1, l2, l3], [.int (i3 + i4), .ref k2, .ref k1, .int i0], h) Q := t_go k_258_1600 rfl
theorem k_258_1601 : lk 258 1601 = some (.iaload, 1602, 0, 0, .null) := by decide +kernel
theorem x_258_1601 : Tr sc d 258 (1601, [l0, l1, l2, l3], [.int i3, .ref k2, .ref k1, .int i0], h) Q = (iOk sc h k2 i3 ∧ Tr sc d 258 (1602, [l0, l1, l2, l3], [.int (iRd sc h k2 i3), .ref k1, .int i0], h) Q) := t_iald k_258_1601
theorem k_258_1602 : lk 258 1602 = some (.aload_n 0, 1603, 0, 0, .null) := by decide +kernel
theorem x_258_1602 : Tr sc d 258 (1602, [some (.ref xk), l1, l2, l3], [.int i2, .ref k1, .int i0], h) Q = Tr sc d 258 (1603, [some (.ref xk), l1, l2, l3], [.ref xk, .int i2, .ref k1, .int i0], h) Q := t_aload_n k_258_1602 rfl
theorem k_258_1603 : lk 258 1603 = some (.iload_n 3, 1604, 3, 0, .null) := by decide +kernel
theorem x_258_1603 : Tr sc d 258 (1603, [l0, l1, l2, some (.int x)], [.ref k3, .int i2, .ref k1, .int i0], h) Q = Tr sc d 258 (1604, [l0, l1, l2, some (.int x)], [.int x, .ref k3, .int i2, .ref k1, .int i0], h) Q := t_iload_n k_258_1603 rfl
theorem k_258_1604 : lk 258 1604 = some (.iconst 2, 1605, 0, 0, .int 2) := by decide +kernel
theorem x_258_1604 : Tr sc d 258 (1604, [l0, l1, l2, l3], [.int i4, .ref k3, .int i2, .ref k1, .int i0], h) Q = Tr sc d 258 (1605, [l0, l1, l2, l3], [.int 2, .int i4, .ref k3, .int i2, .ref k1, .int i0], h) Q := t_go k_258_1604 rfl
theorem k_258_1605 : lk 258 1605 = some (.iadd, 1606, 0, 0, .null) := by decide +kernel
theorem x_258_1605 : Tr sc d 258 (1605, [l0, l1, l2, l3], [.int i5, .int i4, .ref k3, .int i2, .ref k1, .int i0], h) Q = Tr sc d 258 (1606, [l0, l1, l2, l3], [.int (i4 + i5), .ref k3, .int i2, .ref k1, .int i0], h) Q := t_go k_258_1605 rfl
theorem k_258_1606 : lk 258 1606 = some (.iaload, 1607, 0, 0, .null) := by decide +kernel
theorem x_258_1606 : Tr sc d 258 (1606, [l0, l1, l2, l3], [.int i4, .ref k3, .int i2, .ref k1, .int i0], h) Q = (iOk sc h k3 i4 ∧ Tr sc d 258 (1607, [l0, l1, l2, l3], [.int (iRd sc h k3 i4), .int i2, .ref k1, .int i0], h) Q) := t_iald k_258_1606
theorem k_258_1607 : lk 258 1607 = some (.aload_n 0, 1608, 0, 0, .null) := by decide +kernel
theorem x_258_1607 : Tr sc d 258 (1607, [some (.ref xk), l1, l2, l3], [.int i3, .int i2, .ref k1, .int i0], h) Q = Tr sc d 258 (1608, [some (.ref xk), l1, l2, l3], [.ref xk, .int i3, .int i2, .ref k1, .int i0], h) Q := t_aload_n k_258_1607 rfl
theorem k_258_1608 : lk 258 1608 = some (.iload_n 3, 1609, 3, 0, .null) := by decide +kernel
theorem x_258_1608 : Tr sc d 258 (1608, [l0, l1, l2, some (.int x)], [.ref k4, .int i3, .int i2, .ref k1, .int i0], h) Q = Tr sc d 258 (1609, [l0, l1, l2, some (.int x)], [.int x, .ref k4, .int i3, .int i2, .ref k1, .int i0], h) Q := t_iload_n k_258_1608 rfl
theorem k_258_1609 : lk 258 1609 = some (.iconst 3, 1610, 0, 0, .int 3) := by decide +kernel
theorem x_258_1609 : Tr sc d 258 (1609, [l0, l1, l2, l3], [.int i5, .ref k4, .int i3, .int i2, .ref k1, .int i0], h) Q = Tr sc d 258 (1610, [l0, l1, l2, l3], [.int 3, .int i5, .ref k4, .int i3, .int i2, .ref k1, .int i0], h) Q := t_go k_258_1609 rfl
theorem k_258_1610 : lk 258 1610 = some (.iadd, 1611, 0, 0, .null) := by decide +kernel
theorem x_258_1610 : Tr sc d 258 (1610, [l0, l1, l2, l3], [.int i6, .int i5, .ref k4, .int i3, .int i2, .ref k1, .int i0], h) Q = Tr sc d 258 (1611, [l0, l1, l2, l3], [.int (i5 + i6), .ref k4, .int i3, .int i2, .ref k1, .int i0], h) Q := t_go k_258_1610 rfl
theorem k_258_1611 : lk 258 1611 = some (.iaload, 1612, 0, 0, .null) := by decide +kernel
theorem x_258_1611 : Tr sc d 258 (1611, [l0, l1, l2, l3], [.int i5, .ref k4, .int i3, .int i2, .ref k1, .int i0], h) Q = (iOk sc h k4 i5 ∧ Tr sc d 258 (1612, [l0, l1, l2, l3], [.int (iRd sc h k4 i5), .int i3, .int i2, .ref k1, .int i0], h) Q) := t_iald k_258_1611
theorem k_258_1612 : lk 258 1612 = some (.invokevirtual 164, 1615, 240, 3, .null) := by decide +kernel
theorem x_258_1612 : Tr sc (d + 1) 258 (1612, [l0, l1, l2, l3], [.int i4, .int i3, .int i2, .ref k1, .int i0], h) Q = (okp h k1 10 = true ∧ Tr sc d 240 (ent0 240 [.ref k1, .int i2, .int i3, .int i4] h) (fun z => Tr sc (d + 1) 258 (1615, [l0, l1, l2, l3], z.1.toList ++ [.int i0], z.2) Q)) := t_cv (as := [.int i2, .int i3, .int i4]) (r := [.int i0]) k_258_1612 rfl rfl (Nat.le_of_ble_eq_true rfl) (Nat.le_of_ble_eq_true rfl) (Nat.le_of_ble_eq_true rfl)
theorem k_258_1615 : lk 258 1615 = some (.if_icmp .eq 133, 1618, 1748, 0, .null) := by decide +kernel
theorem x_258_1615 : Tr sc d 258 (1615, [l0, l1, l2, l3], [.int i1, .int i0], h) Q = if i0 = i1 then Tr sc d 258 (1748, [l0, l1, l2, l3], [], h) Q else Tr sc d 258 (1618, [l0, l1, l2, l3], [], h) Q := t_if k_258_1615 rfl
theorem k_258_1618 : lk 258 1618 = some (.iconst 0, 1619, 0, 0, .int 0) := by decide +kernel
theorem x_258_1618 : Tr sc d 258 (1618, [l0, l1, l2, l3], [], h) Q = Tr sc d 258 (1619, [l0, l1, l2, l3], [.int 0], h) Q := t_go k_258_1618 rfl
theorem k_258_1619 : lk 258 1619 = some (.ireturn, 1620, 0, 0, .null) := by decide +kernel
theorem x_258_1619 : Tr sc d 258 (1619, [l0, l1, l2, l3], [.int i0], h) Q = (vp_nar .boolean i0 = i0 ∧ Q (some (.int i0), h)) := t_zret k_258_1619 r_258
theorem k_258_1620 : lk 258 1620 = some (.aload_n 1, 1621, 1, 0, .null) := by decide +kernel
theorem x_258_1620 : Tr sc d 258 (1620, [l0, some (.ref xk), l2, l3], [], h) Q = Tr sc d 258 (1621, [l0, some (.ref xk), l2, l3], [.ref xk], h) Q := t_aload_n k_258_1620 rfl
theorem k_258_1621 : lk 258 1621 = some (.invokevirtual 165, 1624, 132, 0, .null) := by decide +kernel
theorem x_258_1621 : Tr sc (d + 1) 258 (1621, [l0, l1, l2, l3], [.ref k0], h) Q = (okp h k0 9 = true ∧ Tr sc d 132 (ent0 132 [.ref k0] h) (fun z => Tr sc (d + 1) 258 (1624, [l0, l1, l2, l3], z.1.toList ++ [], z.2) Q)) := t_cv (as := []) (r := []) k_258_1621 rfl rfl (Nat.le_of_ble_eq_true rfl) (Nat.le_of_ble_eq_true rfl) (Nat.le_of_ble_eq_true rfl)
theorem k_258_1624 : lk 258 1624 = some (.aload_n 2, 1625, 2, 0, .null) := by decide +kernel
theorem x_258_1624 : Tr sc d 258 (1624, [l0, l1, some (.ref xk), l3], [.long j0], h) Q = Tr sc d 258 (1625, [l0, l1, some (.ref xk), l3], [.ref xk, .long j0], h) Q := t_aload_n k_258_1624 rfl
theorem k_258_1625 : lk 258 1625 = some (.invokevirtual 169, 1628, 241, 0, .null) := by decide +kernel
theorem x_258_1625 : Tr sc (d + 1) 258 (1625, [l0, l1, l2, l3], [.ref k1, .long j0], h) Q = (okp h k1 10 = true ∧ Tr sc d 241 (ent0 241 [.ref k1] h) (fun z => Tr sc (d + 1) 258 (1628, [l0, l1, l2, l3], z.1.toList ++ [.long j0], z.2) Q)) := t_cv (as := []) (r := [.long j0]) k_258_1625 rfl rfl (Nat.le_of_ble_eq_true rfl) (Nat.le_of_ble_eq_true rfl) (Nat.le_of_ble_eq_true rfl)
theorem k_258_1628 : lk 258 1628 = some (.lcmp, 1629, 0, 0, .null) := by decide +kernel
theorem x_258_1628 : Tr sc d 258 (1628, [l0, l1, l2, l3], [.long j1, .long j0], h) Q = Tr sc d 258 (1629, [l0, l1, l2, l3], [.int (lg_cmp j0 j1)], h) Q := t_go k_258_1628 rfl
theorem k_258_1629 : lk 258 1629 = some (.ifCond .eq 119, 1632, 1748, 0, .null) := by decide +kernel
theorem x_258_1629 : Tr sc d 258 (1629, [l0, l1, l2, l3], [.int i0], h) Q = if i0 = 0 then Tr sc d 258 (1748, [l0, l1, l2, l3], [], h) Q else Tr sc d 258 (1632, [l0, l1, l2, l3], [], h) Q := t_if k_258_1629 rfl
theorem k_258_1632 : lk 258 1632 = some (.iconst 0, 1633, 0, 0, .int 0) := by decide +kernel
theorem x_258_1632 : Tr sc d 258 (1632, [l0, l1, l2, l3], [], h) Q = Tr sc d 258 (1633, [l0, l1, l2, l3], [.int 0], h) Q := t_go k_258_1632 rfl
theorem k_258_1633 : lk 258 1633 = some (.ireturn, 1634, 0, 0, .null) := by decide +kernel
theorem x_258_1633 : Tr sc d 258 (1633, [l0, l1, l2, l3], [.int i0], h) Q = (vp_nar .boolean i0 = i0 ∧ Q (some (.int i0), h)) := t_zret k_258_1633 r_258
theorem k_258_1634 : lk 258 1634 = some (.aload_n 1, 1635, 1, 0, .null) := by decide +kernel
theorem x_258_1634 : Tr sc d 258 (1634, [l0, some (.ref xk), l2, l3], [], h) Q = Tr sc d 258 (1635, [l0, some (.ref xk), l2, l3], [.ref xk], h) Q := t_aload_n k_258_1634 rfl
theorem k_258_1635 : lk 258 1635 = some (.invokevirtual 170, 1638, 133, 0, .null) := by decide +kernel
theorem x_258_1635 : Tr sc (d + 1) 258 (1635, [l0, l1, l2, l3], [.ref k0], h) Q = (okp h k0 9 = true ∧ Tr sc d 133 (ent0 133 [.ref k0] h) (fun z => Tr sc (d + 1) 258 (1638, [l0, l1, l2, l3], z.1.toList ++ [], z.2) Q)) := t_cv (as := []) (r := []) k_258_1635 rfl rfl (Nat.le_of_ble_eq_true rfl) (Nat.le_of_ble_eq_true rfl) (Nat.le_of_ble_eq_true rfl)
theorem k_258_1638 : lk 258 1638 = some (.aload_n 2, 1639, 2, 0, .null) := by decide +kernel
theorem x_258_1638 : Tr sc d 258 (1638, [l0, l1, some (.ref xk), l3], [.int i0], h) Q = Tr sc d 258 (1639, [l0, l1, some (.ref xk), l3], [.ref xk, .int i0], h) Q := t_aload_n k_258_1638 rfl
theorem k_258_1639 : lk 258 1639 = some (.invokevirtual 174, 1642, 242, 0, .null) := by decide +kernel
theorem x_258_1639 : Tr sc (d + 1) 258 (1639, [l0, l1, l2, l3], [.ref k1, .int i0], h) Q = (okp h k1 10 = true ∧ Tr sc d 242 (ent0 242 [.ref k1] h) (fun z => Tr sc (d + 1) 258 (1642, [l0, l1, l2, l3], z.1.toList ++ [.int i0], z.2) Q)) := t_cv (as := []) (r := [.int i0]) k_258_1639 rfl rfl (Nat.le_of_ble_eq_true rfl) (Nat.le_of_ble_eq_true rfl) (Nat.le_of_ble_eq_true rfl)
theorem k_258_1642 : lk 258 1642 = some (.if_icmp .eq 106, 1645, 1748, 0, .null) := by decide +kernel
theorem x_258_1642 : Tr sc d 258 (1642, [l0, l1, l2, l3], [.int i1, .int i0], h) Q = if i0 = i1 then Tr sc d 258 (1748, [l0, l1, l2, l3], [], h) Q else Tr sc d 258 (1645, [l0, l1, l2, l3], [], h) Q := t_if k_258_1642 rfl
theorem k_258_1645 : lk 258 1645 = some (.iconst 0, 1646, 0, 0, .int 0) := by decide +kernel
theorem x_258_1645 : Tr sc d 258 (1645, [l0, l1, l2, l3], [], h) Q = Tr sc d 258 (1646, [l0, l1, l2, l3], [.int 0], h) Q := t_go k_258_1645 rfl
theorem k_258_1646 : lk 258 1646 = some (.ireturn, 1647, 0, 0, .null) := by decide +kernel
theorem x_258_1646 : Tr sc d 258 (1646, [l0, l1, l2, l3], [.int i0], h) Q = (vp_nar .boolean i0 = i0 ∧ Q (some (.int i0), h)) := t_zret k_258_1646 r_258
theorem k_258_1647 : lk 258 1647 = some (.aload_n 1, 1648, 1, 0, .null) := by decide +kernel
theorem x_258_1647 : Tr sc d 258 (1647, [l0, some (.ref xk), l2, l3], [], h) Q = Tr sc d 258 (1648, [l0, some (.ref xk), l2, l3], [.ref xk], h) Q := t_aload_n k_258_1647 rfl
theorem k_258_1648 : lk 258 1648 = some (.invokevirtual 175, 1651, 134, 0, .null) := by decide +kernel
theorem x_258_1648 : Tr sc (d + 1) 258 (1648, [l0, l1, l2, l3], [.ref k0], h) Q = (okp h k0 9 = true ∧ Tr sc d 134 (ent0 134 [.ref k0] h) (fun z => Tr sc (d + 1) 258 (1651, [l0, l1, l2, l3], z.1.toList ++ [], z.2) Q)) := t_cv (as := []) (r := []) k_258_1648 rfl rfl (Nat.le_of_ble_eq_true rfl) (Nat.le_of_ble_eq_true rfl) (Nat.le_of_ble_eq_true rfl)
theorem k_258_1651 : lk 258 1651 = some (.aload_n 2, 1652, 2, 0, .null) := by decide +kernel
theorem x_258_1651 : Tr sc d 258 (1651, [l0, l1, some (.ref xk), l3], [.long j0], h) Q = Tr sc d 258 (1652, [l0, l1, some (.ref xk), l3], [.ref xk, .long j0], h) Q := t_aload_n k_258_1651 rfl
theorem k_258_1652 : lk 258 1652 = some (.invokevirtual 178, 1655, 243, 0, .null) := by decide +kernel
theorem x_258_1652 : Tr sc (d + 1) 258 (1652, [l0, l1, l2, l3], [.ref k1, .long j0], h) Q = (okp h k1 10 = true ∧ Tr sc d 243 (ent0 243 [.ref k1] h) (fun z => Tr sc (d + 1) 258 (1655, [l0, l1, l2, l3], z.1.toList ++ [.long j0], z.2) Q)) := t_cv (as := []) (r := [.long j0]) k_258_1652 rfl rfl (Nat.le_of_ble_eq_true rfl) (Nat.le_of_ble_eq_true rfl) (Nat.le_of_ble_eq_true rfl)
theorem k_258_1655 : lk 258 1655 = some (.lcmp, 1656, 0, 0, .null) := by decide +kernel
theorem x_258_1655 : Tr sc d 258 (1655, [l0, l1, l2, l3], [.long j1, .long j0], h) Q = Tr sc d 258 (1656, [l0, l1, l2, l3], [.int (lg_cmp j0 j1)], h) Q := t_go k_258_1655 rfl
theorem k_258_1656 : lk 258 1656 = some (.ifCond .eq 92, 1659, 1748, 0, .null) := by decide +kernel
theorem x_258_1656 : Tr sc d 258 (1656, [l0, l1, l2, l3], [.int i0], h) Q = if i0 = 0 then Tr sc d 258 (1748, [l0, l1, l2, l3], [], h) Q else Tr sc d 258 (1659, [l0, l1, l2, l3], [], h) Q := t_if k_258_1656 rfl
theorem k_258_1659 : lk 258 1659 = some (.iconst 0, 1660, 0, 0, .int 0) := by decide +kernel
theorem x_258_1659 : Tr sc d 258 (1659, [l0, l1, l2, l3], [], h) Q = Tr sc d 258 (1660, [l0, l1, l2, l3], [.int 0], h) Q := t_go k_258_1659 rfl
theorem k_258_1660 : lk 258 1660 = some (.ireturn, 1661, 0, 0, .null) := by decide +kernel
theorem x_258_1660 : Tr sc d 258 (1660, [l0, l1, l2, l3], [.int i0], h) Q = (vp_nar .boolean i0 = i0 ∧ Q (some (.int i0), h)) := t_zret k_258_1660 r_258
theorem k_258_1661 : lk 258 1661 = some (.aload_n 1, 1662, 1, 0, .null) := by decide +kernel
theorem x_258_1661 : Tr sc d 258 (1661, [l0, some (.ref xk), l2, l3], [], h) Q = Tr sc d 258 (1662, [l0, some (.ref xk), l2, l3], [.ref xk], h) Q := t_aload_n k_258_1661 rfl
theorem k_258_1662 : lk 258 1662 = some (.invokevirtual 179, 1665, 135, 0, .null) := by decide +kernel
theorem x_258_1662 : Tr sc (d + 1) 258 (1662, [l0, l1, l2, l3], [.ref k0], h) Q = (okp h k0 9 = true ∧ Tr sc d 135 (ent0 135 [.ref k0] h) (fun z => Tr sc (d + 1) 258 (1665, [l0, l1, l2, l3], z.1.toList ++ [], z.2) Q)) := t_cv (as := []) (r := []) k_258_1662 rfl rfl (Nat.le_of_ble_eq_true rfl) (Nat.le_of_ble_eq_true rfl) (Nat.le_of_ble_eq_true rfl)
theorem k_258_1665 : lk 258 1665 = some (.aload_n 2, 1666, 2, 0, .null) := by decide +kernel
theorem x_258_1665 : Tr sc d 258 (1665, [l0, l1, some (.ref xk), l3], [.long j0], h) Q = Tr sc d 258 (1666, [l0, l1, some (.ref xk), l3], [.ref xk, .long j0], h) Q := t_aload_n k_258_1665 rfl
theorem k_258_1666 : lk 258 1666 = some (.invokevirtual 182, 1669, 244, 0, .null) := by decide +kernel
theorem x_258_1666 : Tr sc (d + 1) 258 (1666, [l0, l1, l2, l3], [.ref k1, .long j0], h) Q = (okp h k1 10 = true ∧ Tr sc d 244 (ent0 244 [.ref k1] h) (fun z => Tr sc (d + 1) 258 (1669, [l0, l1, l2, l3], z.1.toList ++ [.long j0], z.2) Q)) := t_cv (as := []) (r := [.long j0]) k_258_1666 rfl rfl (Nat.le_of_ble_eq_true rfl) (Nat.le_of_ble_eq_true rfl) (Nat.le_of_ble_eq_true rfl)
theorem k_258_1669 : lk 258 1669 = some (.lcmp, 1670, 0, 0, .null) := by decide +kernel
theorem x_258_1669 : Tr sc d 258 (1669, [l0, l1, l2, l3], [.long j1, .long j0], h) Q = Tr sc d 258 (1670, [l0, l1, l2, l3], [.int (lg_cmp j0 j1)], h) Q := t_go k_258_1669 rfl
theorem k_258_1670 : lk 258 1670 = some (.ifCond .eq 78, 1673, 1748, 0, .null) := by decide +kernel
theorem x_258_1670 : Tr sc d 258 (1670, [l0, l1, l2, l3], [.int i0], h) Q = if i0 = 0 then Tr sc d 258 (1748, [l0, l1, l2, l3], [], h) Q else Tr sc d 258 (1673, [l0, l1, l2, l3], [], h) Q := t_if k_258_1670 rfl
theorem k_258_1673 : lk 258 1673 = some (.iconst 0, 1674, 0, 0, .int 0) := by decide +kernel
theorem x_258_1673 : Tr sc d 258 (1673, [l0, l1, l2, l3], [], h) Q = Tr sc d 258 (1674, [l0, l1, l2, l3], [.int 0], h) Q := t_go k_258_1673 rfl
theorem k_258_1674 : lk 258 1674 = some (.ireturn, 1675, 0, 0, .null) := by decide +kernel
theorem x_258_1674 : Tr sc d 258 (1674, [l0, l1, l2, l3], [.int i0], h) Q = (vp_nar .boolean i0 = i0 ∧ Q (some (.int i0), h)) := t_zret k_258_1674 r_258
theorem k_258_1675 : lk 258 1675 = some (.aload_n 1, 1676, 1, 0, .null) := by decide +kernel
theorem x_258_1675 : Tr sc d 258 (1675, [l0, some (.ref xk), l2, l3], [], h) Q = Tr sc d 258 (1676, [l0, some (.ref xk), l2, l3], [.ref xk], h) Q := t_aload_n k_258_1675 rfl
theorem k_258_1676 : lk 258 1676 = some (.aload_n 0, 1677, 0, 0, .null) := by decide +kernel
theorem x_258_1676 : Tr sc d 258 (1676, [some (.ref xk), l1, l2, l3], [.ref k0], h) Q = Tr sc d 258 (1677, [some (.ref xk), l1, l2, l3], [.ref xk, .ref k0], h) Q := t_aload_n k_258_1676 rfl
theorem k_258_1677 : lk 258 1677 = some (.iload_n 3, 1678, 3, 0, .null) := by decide +kernel
theorem x_258_1677 : Tr sc d 258 (1677, [l0, l1, l2, some (.int x)], [.ref k1, .ref k0], h) Q = Tr sc d 258 (1678, [l0, l1, l2, some (.int x)], [.int x, .ref k1, .ref k0], h) Q := t_iload_n k_258_1677 rfl
theorem k_258_1678 : lk 258 1678 = some (.iconst 1, 1679, 0, 0, .int 1) := by decide +kernel
theorem x_258_1678 : Tr sc d 258 (1678, [l0, l1, l2, l3], [.int i2, .ref k1, .ref k0], h) Q = Tr sc d 258 (1679, [l0, l1, l2, l3], [.int 1, .int i2, .ref k1, .ref k0], h) Q := t_go k_258_1678 rfl
theorem k_258_1679 : lk 258 1679 = some (.iadd, 1680, 0, 0, .null) := by decide +kernel
theorem x_258_1679 : Tr sc d 258 (1679, [l0, l1, l2, l3], [.int i3, .int i2, .ref k1, .ref k0], h) Q = Tr sc d 258 (1680, [l0, l1, l2, l3], [.int (i2 + i3), .ref k1, .ref k0], h) Q := t_go k_258_1679 rfl
theorem k_258_1680 : lk 258 1680 = some (.iaload, 1681, 0, 0, .null) := by decide +kernel
theorem x_258_1680 : Tr sc d 258 (1680, [l0, l1, l2, l3], [.int i2, .ref k1, .ref k0], h) Q = (iOk sc h k1 i2 ∧ Tr sc d 258 (1681, [l0, l1, l2, l3], [.int (iRd sc h k1 i2), .ref k0], h) Q) := t_iald k_258_1680
theorem k_258_1681 : lk 258 1681 = some (.invokevirtual 183, 1684, 136, 1, .null) := by decide +kernel
theorem x_258_1681 : Tr sc (d + 1) 258 (1681, [l0, l1, l2, l3], [.int i1, .ref k0], h) Q = (okp h k0 9 = true ∧ Tr sc d 136 (ent0 136 [.ref k0, .int i1] h) (fun z => Tr sc (d + 1) 258 (1684, [l0, l1, l2, l3], z.1.toList ++ [], z.2) Q)) := t_cv (as := [.int i1]) (r := []) k_258_1681 rfl rfl (Nat.le_of_ble_eq_true rfl) (Nat.le_of_ble_eq_true rfl) (Nat.le_of_ble_eq_true rfl)
theorem k_258_1684 : lk 258 1684 = some (.aload_n 2, 1685, 2, 0, .null) := by decide +kernel
theorem x_258_1684 : Tr sc d 258 (1684, [l0, l1, some (.ref xk), l3], [.int i0], h) Q = Tr sc d 258 (1685, [l0, l1, some (.ref xk), l3], [.ref xk, .int i0], h) Q := t_aload_n k_258_1684 rfl
theorem k_258_1685 : lk 258 1685 = some (.aload_n 0, 1686, 0, 0, .null) := by decide +kernel
theorem x_258_1685 : Tr sc d 258 (1685, [some (.ref xk), l1, l2, l3], [.ref k1, .int i0], h) Q = Tr sc d 258 (1686, [some (.ref xk), l1, l2, l3], [.ref xk, .ref k1, .int i0], h) Q := t_aload_n k_258_1685 rfl
theorem k_258_1686 : lk 258 1686 = some (.iload_n 3, 1687, 3, 0, .null) := by decide +kernel
theorem x_258_1686 : Tr sc d 258 (1686, [l0, l1, l2, some (.int x)], [.ref k2, .ref k1, .int i0], h) Q = Tr sc d 258 (1687, [l0, l1, l2, some (.int x)], [.int x, .ref k2, .ref k1, .int i0], h) Q := t_iload_n k_258_1686 rfl
theorem k_258_1687 : lk 258 1687 = some (.iconst 1, 1688, 0, 0, .int 1) := by decide +kernel
theorem x_258_1687 : Tr sc d 258 (1687, [l0, l1, l2, l3], [.int i3, .ref k2, .ref k1, .int i0], h) Q = Tr sc d 258 (1688, [l0, l1, l2, l3], [.int 1, .int i3, .ref k2, .ref k1, .int i0], h) Q := t_go k_258_1687 rfl
theorem k_258_1688 : lk 258 1688 = some (.iadd, 1689, 0, 0, .null) := by decide +kernel
theorem x_258_1688 : Tr sc d 258 (1688, [l0, l1, l2, l3], [.int i4, .int i3, .ref k2, .ref k1, .int i0], h) Q = Tr sc d 258 (1689, [l0, l1, l2, l3], [.int (i3 + i4), .ref k2, .ref k1, .int i0], h) Q := t_go k_258_1688 rfl
theorem k_258_1689 : lk 258 1689 = some (.iaload, 1690, 0, 0, .null) := by decide +kernel
theorem x_258_1689 : Tr sc d 258 (1689, [l0, l1, l2, l3], [.int i3, .ref k2, .ref k1, .int i0], h) Q = (iOk sc h k2 i3 ∧ Tr sc d 258 (1690, [l0, l1, l2, l3], [.int (iRd sc h k2 i3), .ref k1, .int i0], h) Q) := t_iald k_258_1689
theorem k_258_1690 : lk 258 1690 = some (.invokevirtual 186, 1693, 245, 1, .null) := by decide +kernel
theorem x_258_1690 : Tr sc (d + 1) 258 (1690, [l0, l1, l2, l3], [.int i2, .ref k1, .int i0], h) Q = (okp h k1 10 = true ∧ Tr sc d 245 (ent0 245 [.ref k1, .int i2] h) (fun z => Tr sc (d + 1) 258 (1693, [l0, l1, l2, l3], z.1.toList ++ [.int i0], z.2) Q)) := t_cv (as := [.int i2]) (r := [.int i0]) k_258_1690 rfl rfl (Nat.le_of_ble_eq_true rfl) (Nat.le_of_ble_eq_true rfl) (Nat.le_of_ble_eq_true rfl)
theorem k_258_1693 : lk 258 1693 = some (.if_icmp .eq 55, 1696, 1748, 0, .null) := by decide +kernel
theorem x_258_1693 : Tr sc d 258 (1693, [l0, l1, l2, l3], [.int i1, .int i0], h) Q = if i0 = i1 then Tr sc d 258 (1748, [l0, l1, l2, l3], [], h) Q else Tr sc d 258 (1696, [l0, l1, l2, l3], [], h) Q := t_if k_258_1693 rfl
theorem k_258_1696 : lk 258 1696 = some (.iconst 0, 1697, 0, 0, .int 0) := by decide +kernel
theorem x_258_1696 : Tr sc d 258 (1696, [l0, l1, l2, l3], [], h) Q = Tr sc d 258 (1697, [l0, l1, l2, l3], [.int 0], h) Q := t_go k_258_1696 rfl
theorem k_258_1697 : lk 258 1697 = some (.ireturn, 1698, 0, 0, .null) := by decide +kernel
theorem x_258_1697 : Tr sc d 258 (1697, [l0, l1, l2, l3], [.int i0], h) Q = (vp_nar .boolean i0 = i0 ∧ Q (some (.int i0), h)) := t_zret k_258_1697 r_258
theorem k_258_1698 : lk 258 1698 = some (.aload_n 1, 1699, 1, 0, .null) := by decide +kernel
theorem x_258_1698 : Tr sc d 258 (1698, [l0, some (.ref xk), l2, l3], [], h) Q = Tr sc d 258 (1699, [l0, some (.ref xk), l2, l3], [.ref xk], h) Q := t_aload_n k_258_1698 rfl
theorem k_258_1699 : lk 258 1699 = some (.invokevirtual 187, 1702, 137, 0, .null) := by decide +kernel
theorem x_258_1699 : Tr sc (d + 1) 258 (1699, [l0, l1, l2, l3], [.ref k0], h) Q = (okp h k0 9 = true ∧ Tr sc d 137 (ent0 137 [.ref k0] h) (fun z => Tr sc (d + 1) 258 (1702, [l0, l1, l2, l3], z.1.toList ++ [], z.2) Q)) := t_cv (as := []) (r := []) k_258_1699 rfl rfl (Nat.le_of_ble_eq_true rfl) (Nat.le_of_ble_eq_true rfl) (Nat.le_of_ble_eq_true rfl)
theorem k_258_1702 : lk 258 1702 = some (.aload_n 2, 1703, 2, 0, .null) := by decide +kernel
theorem x_258_1702 : Tr sc d 258 (1702, [l0, l1, some (.ref xk), l3], [.int i0], h) Q = Tr sc d 258 (1703, [l0, l1, some (.ref xk), l3], [.ref xk, .int i0], h) Q := t_aload_n k_258_1702 rfl
theorem k_258_1703 : lk 258 1703 = some (.invokevirtual 190, 1706, 246, 0, .null) := by decide +kernel
theorem x_258_1703 : Tr sc (d + 1) 258 (1703, [l0, l1, l2, l3], [.ref k1, .int i0], h) Q = (okp h k1 10 = true ∧ Tr sc d 246 (ent0 246 [.ref k1] h) (fun z => Tr sc (d + 1) 258 (1706, [l0, l1, l2, l3], z.1.toList ++ [.int i0], z.2) Q)) := t_cv (as := []) (r := [.int i0]) k_258_1703 rfl rfl (Nat.le_of_ble_eq_true rfl) (Nat.le_of_ble_eq_true rfl) (Nat.le_of_ble_eq_true rfl)
theorem k_258_1706 : lk 258 1706 = some (.if_icmp .eq 42, 1709, 1748, 0, .null) := by decide +kernel
theorem x_258_1706 : Tr sc d 258 (1706, [l0, l1, l2, l3], [.int i1, .int i0], h) Q = if i0 = i1 then Tr sc d 258 (1748, [l0, l1, l2, l3], [], h) Q else Tr sc d 258 (1709, [l0, l1, l2, l3], [], h) Q := t_if k_258_1706 rfl
theorem k_258_1709 : lk 258 1709 = some (.iconst 0, 1710, 0, 0, .int 0) := by decide +kernel
theorem x_258_1709 : Tr sc d 258 (1709, [l0, l1, l2, l3], [], h) Q = Tr sc d 258 (1710, [l0, l1, l2, l3], [.int 0], h) Q := t_go k_258_1709 rfl
theorem k_258_1710 : lk 258 1710 = some (.ireturn, 1711, 0, 0, .null) := by decide +kernel
theorem x_258_1710 : Tr sc d 258 (1710, [l0, l1, l2, l3], [.int i0], h) Q = (vp_nar .boolean i0 = i0 ∧ Q (some (.int i0), h)) := t_zret k_258_1710 r_258
theorem k_258_1711 : lk 258 1711 = some (.aload_n 1, 1712, 1, 0, .null) := by decide +kernel
theorem x_258_1711 : Tr sc d 258 (1711, [l0, some (.ref xk), l2, l3], [], h) Q = Tr sc d 258 (1712, [l0, some (.ref xk), l2, l3], [.ref xk], h) Q := t_aload_n k_258_1711 rfl
theorem k_258_1712 : lk 258 1712 = some (.aload_n 0, 1713, 0, 0, .null) := by decide +kernel
theorem x_258_1712 : Tr sc d 258 (1712, [some (.ref xk), l1, l2, l3], [.ref k0], h) Q = Tr sc d 258 (1713, [some (.ref xk), l1, l2, l3], [.ref xk, .ref k0], h) Q := t_aload_n k_258_1712 rfl
theorem k_258_1713 : lk 258 1713 = some (.iload_n 3, 1714, 3, 0, .null) := by decide +kernel
theorem x_258_1713 : Tr sc d 258 (1713, [l0, l1, l2, some (.int x)], [.ref k1, .ref k0], h) Q = Tr sc d 258 (1714, [l0, l1, l2, some (.int x)], [.int x, .ref k1, .ref k0], h) Q := t_iload_n k_258_1713 rfl
theorem k_258_1714 : lk 258 1714 = some (.iconst 1, 1715, 0, 0, .int 1) := by decide +kernel
theorem x_258_1714 : Tr sc d 258 (1714, [l0, l1, l2, l3], [.int i2, .ref k1, .ref k0], h) Q = Tr sc d 258 (1715, [l0, l1, l2, l3], [.int 1, .int i2, .ref k1, .ref k0], h) Q := t_go k_258_1714 rfl
theorem k_258_1715 : lk 258 1715 = some (.iadd, 1716, 0, 0, .null) := by decide +kernel
theorem x_258_1715 : Tr sc d 258 (1715, [l0, l1, l2, l3], [.int i3, .int i2, .ref k1, .ref k0], h) Q = Tr sc d 258 (1716, [l0, l1, l2, l3], [.int (i2 + i3), .ref k1, .ref k0], h) Q := t_go k_258_1715 rfl
theorem k_258_1716 : lk 258 1716 = some (.iaload, 1717, 0, 0, .null) := by decide +kernel
theorem x_258_1716 : Tr sc d 258 (1716, [l0, l1, l2, l3], [.int i2, .ref k1, .ref k0], h) Q = (iOk sc h k1 i2 ∧ Tr sc d 258 (1717, [l0, l1, l2, l3], [.int (iRd sc h k1 i2), .ref k0], h) Q) := t_iald k_258_1716
theorem k_258_1717 : lk 258 1717 = some (.invokevirtual 191, 1720, 138, 1, .null) := by decide +kernel
theorem x_258_1717 : Tr sc (d + 1) 258 (1717, [l0, l1, l2, l3], [.int i1, .ref k0], h) Q = (okp h k0 9 = true ∧ Tr sc d 138 (ent0 138 [.ref k0, .int i1] h) (fun z => Tr sc (d + 1) 258 (1720, [l0, l1, l2, l3], z.1.toList ++ [], z.2) Q)) := t_cv (as := [.int i1]) (r := []) k_258_1717 rfl rfl (Nat.le_of_ble_eq_true rfl) (Nat.le_of_ble_eq_true rfl) (Nat.le_of_ble_eq_true rfl)
theorem k_258_1720 : lk 258 1720 = some (.aload_n 2, 1721, 2, 0, .null) := by decide +kernel
theorem x_258_1720 : Tr sc d 258 (1720, [l0, l1, some (.ref xk), l3], [.int i0], h) Q = Tr sc d 258 (1721, [l0, l1, some (.ref xk), l3], [.ref xk, .int i0], h) Q := t_aload_n k_258_1720 rfl
theorem k_258_1721 : lk 258 1721 = some (.aload_n 0, 1722, 0, 0, .null) := by decide +kernel
theorem x_258_1721 : Tr sc d 258 (1721, [some (.ref xk), l1, l2, l3], [.ref k1, .int i0], h) Q = Tr sc d 258 (1722, [some (.ref xk), l1, l2, l3], [.ref xk, .ref k1, .int i0], h) Q := t_aload_n k_258_1721 rfl
theorem k_258_1722 : lk 258 1722 = some (.iload_n 3, 1723, 3, 0, .null) := by decide +kernel
theorem x_258_1722 : Tr sc d 258 (1722, [l0, l1, l2, some (.int x)], [.ref k2, .ref k1, .int i0], h) Q = Tr sc d 258 (1723, [l0, l1, l2, some (.int x)], [.int x, .ref k2, .ref k1, .int i0], h) Q := t_iload_n k_258_1722 rfl
theorem k_258_1723 : lk 258 1723 = some (.iconst 1, 1724, 0, 0, .int 1) := by decide +kernel
theorem x_258_1723 : Tr sc d 258 (1723, [l0, l1, l2, l3], [.int i3, .ref k2, .ref k1, .int i0], h) Q = Tr sc d 258 (1724, [l0, l1, l2, l3], [.int 1, .int i3, .ref k2, .ref k1, .int i0], h) Q := t_go k_258_1723 rfl
theorem k_258_1724 : lk 258 1724 = some (.iadd, 1725, 0, 0, .null) := by decide +kernel
theorem x_258_1724 : Tr sc d 258 (1724, [l0, l1, l2, l3], [.int i4, .int i3, .ref k2, .ref k1, .int i0], h) Q = Tr sc d 258 (1725, [l0, l1, l2, l3], [.int (i3 + i4), .ref k2, .ref k1, .int i0], h) Q := t_go k_258_1724 rfl
theorem k_258_1725 : lk 258 1725 = some (.iaload, 1726, 0, 0, .null) := by decide +kernel
theorem x_258_1725 : Tr sc d 258 (1725, [l0, l1, l2, l3], [.int i3, .ref k2, .ref k1, .int i0], h) Q = (iOk sc h k2 i3 ∧ Tr sc d 258 (1726, [l0, l1, l2, l3], [.int (iRd sc h k2 i3), .ref k1, .int i0], h) Q) := t_iald k_258_1725
theorem k_258_1726 : lk 258 1726 = some (.invokevirtual 194, 1729, 247, 1, .null) := by decide +kernel
theorem x_258_1726 : Tr sc (d + 1) 258 (1726, [l0, l1, l2, l3], [.int i2, .ref k1, .int i0], h) Q = (okp h k1 10 = true ∧ Tr sc d 247 (ent0 247 [.ref k1, .int i2] h) (fun z => Tr sc (d + 1) 258 (1729, [l0, l1, l2, l3], z.1.toList ++ [.int i0], z.2) Q)) := t_cv (as := [.int i2]) (r := [.int i0]) k_258_1726 rfl rfl (Nat.le_of_ble_eq_true rfl) (Nat.le_of_ble_eq_true rfl) (Nat.le_of_ble_eq_true rfl)
theorem k_258_1729 : lk 258 1729 = some (.if_icmp .eq 19, 1732, 1748, 0, .null) := by decide +kernel
theorem x_258_1729 : Tr sc d 258 (1729, [l0, l1, l2, l3], [.int i1, .int i0], h) Q = if i0 = i1 then Tr sc d 258 (1748, [l0, l1, l2, l3], [], h) Q else Tr sc d 258 (1732, [l0, l1, l2, l3], [], h) Q := t_if k_258_1729 rfl
theorem k_258_1732 : lk 258 1732 = some (.iconst 0, 1733, 0, 0, .int 0) := by decide +kernel
theorem x_258_1732 : Tr sc d 258 (1732, [l0, l1, l2, l3], [], h) Q = Tr sc d 258 (1733, [l0, l1, l2, l3], [.int 0], h) Q := t_go k_258_1732 rfl
theorem k_258_1733 : lk 258 1733 = some (.ireturn, 1734, 0, 0, .null) := by decide +kernel
theorem x_258_1733 : Tr sc d 258 (1733, [l0, l1, l2, l3], [.int i0], h) Q = (vp_nar .boolean i0 = i0 ∧ Q (some (.int i0), h)) := t_zret k_258_1733 r_258
theorem k_258_1734 : lk 258 1734 = some (.aload_n 1, 1735, 1, 0, .null) := by decide +kernel
theorem x_258_1734 : Tr sc d 258 (1734, [l0, some (.ref xk), l2, l3], [], h) Q = Tr sc d 258 (1735, [l0, some (.ref xk), l2, l3], [.ref xk], h) Q := t_aload_n k_258_1734 rfl
theorem k_258_1735 : lk 258 1735 = some (.invokevirtual 195, 1738, 139, 0, .null) := by decide +kernel
theorem x_258_1735 : Tr sc (d + 1) 258 (1735, [l0, l1, l2, l3], [.ref k0], h) Q = (okp h k0 9 = true ∧ Tr sc d 139 (ent0 139 [.ref k0] h) (fun z => Tr sc (d + 1) 258 (1738, [l0, l1, l2, l3], z.1.toList ++ [], z.2) Q)) := t_cv (as := []) (r := []) k_258_1735 rfl rfl (Nat.le_of_ble_eq_true rfl) (Nat.le_of_ble_eq_true rfl) (Nat.le_of_ble_eq_true rfl)
theorem k_258_1738 : lk 258 1738 = some (.aload_n 2, 1739, 2, 0, .null) := by decide +kernel
theorem x_258_1738 : Tr sc d 258 (1738, [l0, l1, some (.ref xk), l3], [.long j0], h) Q = Tr sc d 258 (1739, [l0, l1, some (.ref xk), l3], [.ref xk, .long j0], h) Q := t_aload_n k_258_1738 rfl
theorem k_258_1739 : lk 258 1739 = some (.invokevirtual 198, 1742, 250, 0, .null) := by decide +kernel
theorem x_258_1739 : Tr sc (d + 1) 258 (1739, [l0, l1, l2, l3], [.ref k1, .long j0], h) Q = (okp h k1 10 = true ∧ Tr sc d 250 (ent0 250 [.ref k1] h) (fun z => Tr sc (d + 1) 258 (1742, [l0, l1, l2, l3], z.1.toList ++ [.long j0], z.2) Q)) := t_cv (as := []) (r := [.long j0]) k_258_1739 rfl rfl (Nat.le_of_ble_eq_true rfl) (Nat.le_of_ble_eq_true rfl) (Nat.le_of_ble_eq_true rfl)
theorem k_258_1742 : lk 258 1742 = some (.lcmp, 1743, 0, 0, .null) := by decide +kernel
theorem x_258_1742 : Tr sc d 258 (1742, [l0, l1, l2, l3], [.long j1, .long j0], h) Q = Tr sc d 258 (1743, [l0, l1, l2, l3], [.int (lg_cmp j0 j1)], h) Q := t_go k_258_1742 rfl
theorem k_258_1743 : lk 258 1743 = some (.ifCond .eq 5, 1746, 1748, 0, .null) := by decide +kernel
theorem x_258_1743 : Tr sc d 258 (1743, [l0, l1, l2, l3], [.int i0], h) Q = if i0 = 0 then Tr sc d 258 (1748, [l0, l1, l2, l3], [], h) Q else Tr sc d 258 (1746, [l0, l1, l2, l3], [], h) Q := t_if k_258_1743 rfl
theorem k_258_1746 : lk 258 1746 = some (.iconst 0, 1747, 0, 0, .int 0) := by decide +kernel
theorem x_258_1746 : Tr sc d 258 (1746, [l0, l1, l2, l3], [], h) Q = Tr sc d 258 (1747, [l0, l1, l2, l3], [.int 0], h) Q := t_go k_258_1746 rfl
theorem k_258_1747 : lk 258 1747 = some (.ireturn, 1748, 0, 0, .null) := by decide +kernel
theorem x_258_1747 : Tr sc d 258 (1747, [l0, l1, l2, l3], [.int i0], h) Q = (vp_nar .boolean i0 = i0 ∧ Q (some (.int i0), h)) := t_zret k_258_1747 r_258
theorem k_258_1748 : lk 258 1748 = some (.iinc 3 6, 1751, 3, 0, .int 6) := by decide +kernel
theorem x_258_1748 : Tr sc d 258 (1748, [l0, l1, l2, some (.int x)], [], h) Q = Tr sc d 258 (1751, [l0, l1, cl2 l2, some (.int (x + 6))], [], h) Q := t_inc k_258_1748 rfl (Nat.le_of_ble_eq_true rfl)
theorem k_258_1751 : lk 258 1751 = some (.goto (-1733), 1754, 18, 0, .null) := by decide +kernel
theorem x_258_1751 : Tr sc d 258 (1751, [l0, l1, l2, l3], [], h) Q = Tr sc d 258 (18, [l0, l1, l2, l3], [], h) Q := t_go k_258_1751 rfl
theorem k_258_1754 : lk 258 1754 = some (.iconst 1, 1755, 0, 0, .int 1) := by decide +kernel
theorem x_258_1754 : Tr sc d 258 (1754, [l0, l1, l2, l3], [], h) Q = Tr sc d 258 (1755, [l0, l1, l2, l3], [.int 1], h) Q := t_go k_258_1754 rfl
theorem k_258_1755 : lk 258 1755 = some (.ireturn, 1756, 0, 0, .null) := by decide +kernel
theorem x_258_1755 : Tr sc d 258 (1755, [l0, l1, l2, l3], [.int i0], h) Q = (vp_nar .boolean i0 = i0 ∧ Q (some (.int i0), h)) := t_zret k_258_1755 r_258
theorem e_258 : Tr sc d 258 (ent0 258 [.ref k0] h) Q = Tr sc d 258 (0, [some (.ref k0), none, none, none], [], h) Q := by
  have e : mL 258 = 4 := by decide +kernel
  unfold ent0
  rw [e]
  rfl
end XX
