section XX
variable {sc : Nat × (Nat → Int32)} {d : Nat} {Q : PRes → Prop} {h : PH} {l0 l1 l2 l3 l4 l5 l6 l7 l8 l9 l10 l11 l12 l13 l14 l15 l16 l17 l18 l19 l20 l21 l22 l23 l24 l25 l26 l27 : Option Value} {x i0 i1 i2 i3 i4 i5 i6 i7 i8 i9 i10 i11 : Int32} {xl j0 j1 j2 j3 j4 j5 j6 j7 j8 j9 j10 j11 : Int64} {xk k0 k1 k2 k3 k4 k5 k6 k7 k8 k9 k10 k11 : Nat}
theorem r_259 : mR 259 = some .boolean := by decide +kernel
theorem k_259_0 : lk 259 0 = some (.new 7, 3, 9, 99, .null) := by decide +kernel
theorem x_259_0 : Tr sc d 259 (0, [l0, l1, l2, l3], [], h) Q = ((hN h < 1000 ∧ TG (hN h) = 9 ∧ 9 < 11) ∧ Tr sc d 259 (3, [l0, l1, l2, l3], [.ref (hN h)], nH h) Q) := t_gd k_259_0 rfl
theorem k_259_3 : lk 259 3 = some (.dup, 4, 0, 0, .null) := by decide +kernel
theorem x_259_3 : Tr sc d 259 (3, [l0, l1, l2, l3], [.ref k0], h) Q = Tr sc d 259 (4, [l0, l1, l2, l3], [.ref k0, .ref k0], h) Q := t_go k_259_3 rfl
theorem k_259_4 : lk 259 4 = some (.invokespecial 9, 7, 96, 0, .null) := by decide +kernel
theorem x_259_4 : Tr sc (d + 1) 259 (4, [l0, l1, l2, l3], [.ref k1, .ref k0], h) Q = (okp h k1 9 = true ∧ Tr sc d 96 (ent0 96 [.ref k1] h) (fun z => Tr sc (d + 1) 259 (7, [l0, l1, l2, l3], z.1.toList ++ [.ref k0], z.2) Q)) := t_cp (as := []) (r := [.ref k0]) k_259_4 (by decide) rfl rfl (Nat.le_of_ble_eq_true rfl) (Nat.le_of_ble_eq_true rfl) (Nat.le_of_ble_eq_true rfl)
theorem k_259_7 : lk 259 7 = some (.astore_n 1, 8, 1, 0, .null) := by decide +kernel
theorem x_259_7 : Tr sc d 259 (7, [l0, l1, l2, l3], [.ref k0], h) Q = Tr sc d 259 (8, [cl2 l0, some (.ref k0), l2, l3], [], h) Q := t_astore_n k_259_7 (Nat.le_of_ble_eq_true rfl)
theorem k_259_8 : lk 259 8 = some (.new 10, 11, 10, 1173, .null) := by decide +kernel
theorem x_259_8 : Tr sc d 259 (8, [l0, l1, l2, l3], [], h) Q = ((hN h < 1000 ∧ TG (hN h) = 10 ∧ 10 < 11) ∧ Tr sc d 259 (11, [l0, l1, l2, l3], [.ref (hN h)], nH h) Q) := t_gd k_259_8 rfl
theorem k_259_11 : lk 259 11 = some (.dup, 12, 0, 0, .null) := by decide +kernel
theorem x_259_11 : Tr sc d 259 (11, [l0, l1, l2, l3], [.ref k0], h) Q = Tr sc d 259 (12, [l0, l1, l2, l3], [.ref k0, .ref k0], h) Q := t_go k_259_11 rfl
theorem k_259_12 : lk 259 12 = some (.invokespecial 12, 15, 156, 0, .null) := by decide +kernel
theorem x_259_12 : Tr sc (d + 1) 259 (12, [l0, l1, l2, l3], [.ref k1, .ref k0], h) Q = (okp h k1 10 = true ∧ Tr sc d 156 (ent0 156 [.ref k1] h) (fun z => Tr sc (d + 1) 259 (15, [l0, l1, l2, l3], z.1.toList ++ [.ref k0], z.2) Q)) := t_cp (as := []) (r := [.ref k0]) k_259_12 (by decide) rfl rfl (Nat.le_of_ble_eq_true rfl) (Nat.le_of_ble_eq_true rfl) (Nat.le_of_ble_eq_true rfl)
theorem k_259_15 : lk 259 15 = some (.astore_n 2, 16, 2, 0, .null) := by decide +kernel
theorem x_259_15 : Tr sc d 259 (15, [l0, l1, l2, l3], [.ref k0], h) Q = Tr sc d 259 (16, [l0, cl2 l1, some (.ref k0), l3], [], h) Q := t_astore_n k_259_15 (Nat.le_of_ble_eq_true rfl)
theorem k_259_16 : lk 259 16 = some (.iconst 0, 17, 0, 0, .int 0) := by decide +kernel
theorem x_259_16 : Tr sc d 259 (16, [l0, l1, l2, l3], [], h) Q = Tr sc d 259 (17, [l0, l1, l2, l3], [.int 0], h) Q := t_go k_259_16 rfl
theorem k_259_17 : lk 259 17 = some (.istore_n 3, 18, 3, 0, .null) := by decide +kernel
theorem x_259_17 : Tr sc d 259 (17, [l0, l1, l2, l3], [.int i0], h) Q = Tr sc d 259 (18, [l0, l1, cl2 l2, some (.int i0)], [], h) Q := t_istore_n k_259_17 (Nat.le_of_ble_eq_true rfl)
theorem k_259_18 : lk 259 18 = some (.iload_n 3, 19, 3, 0, .null) := by decide +kernel
theorem x_259_18 : Tr sc d 259 (18, [l0, l1, l2, some (.int x)], [], h) Q = Tr sc d 259 (19, [l0, l1, l2, some (.int x)], [.int x], h) Q := t_iload_n k_259_18 rfl
theorem k_259_19 : lk 259 19 = some (.aload_n 0, 20, 0, 0, .null) := by decide +kernel
theorem x_259_19 : Tr sc d 259 (19, [some (.ref xk), l1, l2, l3], [.int i0], h) Q = Tr sc d 259 (20, [some (.ref xk), l1, l2, l3], [.ref xk, .int i0], h) Q := t_aload_n k_259_19 rfl
theorem k_259_20 : lk 259 20 = some (.arraylength, 21, 0, 0, .null) := by decide +kernel
theorem x_259_20 (hk : k1 < 1000) : Tr sc d 259 (20, [l0, l1, l2, l3], [.ref k1, .int i0], h) Q = ((okp h k1 11 || (okp h k1 12 || (okp h k1 13 || (okp h k1 14 || okp h k1 15)))) = true ∧ Tr sc d 259 (21, [l0, l1, l2, l3], [.int (Int32.ofNat (LN k1)), .int i0], h) Q) := t_gd k_259_20 (if_pos hk)
theorem k_259_21 : lk 259 21 = some (.bipush 6, 23, 0, 0, .int 6) := by decide +kernel
theorem x_259_21 : Tr sc d 259 (21, [l0, l1, l2, l3], [.int i1, .int i0], h) Q = Tr sc d 259 (23, [l0, l1, l2, l3], [.int 6, .int i1, .int i0], h) Q := t_go k_259_21 rfl
theorem k_259_23 : lk 259 23 = some (.isub, 24, 0, 0, .null) := by decide +kernel
theorem x_259_23 : Tr sc d 259 (23, [l0, l1, l2, l3], [.int i2, .int i1, .int i0], h) Q = Tr sc d 259 (24, [l0, l1, l2, l3], [.int (i1 - i2), .int i0], h) Q := t_go k_259_23 rfl
theorem k_259_24 : lk 259 24 = some (.if_icmp .gt 1730, 27, 1754, 0, .null) := by decide +kernel
theorem x_259_24 : Tr sc d 259 (24, [l0, l1, l2, l3], [.int i1, .int i0], h) Q = if i1 < i0 then Tr sc d 259 (1754, [l0, l1, l2, l3], [], h) Q else Tr sc d 259 (27, [l0, l1, l2, l3], [], h) Q := t_if k_259_24 rfl
theorem k_259_27 : lk 259 27 = some (.aload_n 0, 28, 0, 0, .null) := by decide +kernel
theorem x_259_27 : Tr sc d 259 (27, [some (.ref xk), l1, l2, l3], [], h) Q = Tr sc d 259 (28, [some (.ref xk), l1, l2, l3], [.ref xk], h) Q := t_aload_n k_259_27 rfl
theorem k_259_28 : lk 259 28 = some (.iload_n 3, 29, 3, 0, .null) := by decide +kernel
theorem x_259_28 : Tr sc d 259 (28, [l0, l1, l2, some (.int x)], [.ref k0], h) Q = Tr sc d 259 (29, [l0, l1, l2, some (.int x)], [.int x, .ref k0], h) Q := t_iload_n k_259_28 rfl
theorem k_259_29 : lk 259 29 = some (.iaload, 30, 0, 0, .null) := by decide +kernel
theorem x_259_29 : Tr sc d 259 (29, [l0, l1, l2, l3], [.int i1, .ref k0], h) Q = (iOk sc h k0 i1 ∧ Tr sc d 259 (30, [l0, l1, l2, l3], [.int (iRd sc h k0 i1)], h) Q) := t_iald k_259_29
theorem k_259_30 : lk 259 30 = some (.bipush 63, 32, 0, 0, .int 63) := by decide +kernel
theorem x_259_30 : Tr sc d 259 (30, [l0, l1, l2, l3], [.int i0], h) Q = Tr sc d 259 (32, [l0, l1, l2, l3], [.int 63, .int i0], h) Q := t_go k_259_30 rfl
theorem k_259_32 : lk 259 32 = some (.iand, 33, 0, 0, .null) := by decide +kernel
theorem x_259_32 : Tr sc d 259 (32, [l0, l1, l2, l3], [.int i1, .int i0], h) Q = Tr sc d 259 (33, [l0, l1, l2, l3], [.int (i0 &&& i1)], h) Q := t_go k_259_32 rfl
theorem k_259_224 : lk 259 224 = some (.aload_n 1, 225, 1, 0, .null) := by decide +kernel
theorem x_259_224 : Tr sc d 259 (224, [l0, some (.ref xk), l2, l3], [], h) Q = Tr sc d 259 (225, [l0, some (.ref xk), l2, l3], [.ref xk], h) Q := t_aload_n k_259_224 rfl
theorem k_259_225 : lk 259 225 = some (.aload_n 0, 226, 0, 0, .null) := by decide +kernel
theorem x_259_225 : Tr sc d 259 (225, [some (.ref xk), l1, l2, l3], [.ref k0], h) Q = Tr sc d 259 (226, [some (.ref xk), l1, l2, l3], [.ref xk, .ref k0], h) Q := t_aload_n k_259_225 rfl
theorem k_259_226 : lk 259 226 = some (.iload_n 3, 227, 3, 0, .null) := by decide +kernel
theorem x_259_226 : Tr sc d 259 (226, [l0, l1, l2, some (.int x)], [.ref k1, .ref k0], h) Q = Tr sc d 259 (227, [l0, l1, l2, some (.int x)], [.int x, .ref k1, .ref k0], h) Q := t_iload_n k_259_226 rfl
theorem k_259_227 : lk 259 227 = some (.iconst 1, 228, 0, 0, .int 1) := by decide +kernel
theorem x_259_227 : Tr sc d 259 (227, [l0, l1, l2, l3], [.int i2, .ref k1, .ref k0], h) Q = Tr sc d 259 (228, [l0, l1, l2, l3], [.int 1, .int i2, .ref k1, .ref k0], h) Q := t_go k_259_227 rfl
theorem k_259_228 : lk 259 228 = some (.iadd, 229, 0, 0, .null) := by decide +kernel
theorem x_259_228 : Tr sc d 259 (228, [l0, l1, l2, l3], [.int i3, .int i2, .ref k1, .ref k0], h) Q = Tr sc d 259 (229, [l0, l1, l2, l3], [.int (i2 + i3), .ref k1, .ref k0], h) Q := t_go k_259_228 rfl
theorem k_259_229 : lk 259 229 = some (.iaload, 230, 0, 0, .null) := by decide +kernel
theorem x_259_229 : Tr sc d 259 (229, [l0, l1, l2, l3], [.int i2, .ref k1, .ref k0], h) Q = (iOk sc h k1 i2 ∧ Tr sc d 259 (230, [l0, l1, l2, l3], [.int (iRd sc h k1 i2), .ref k0], h) Q) := t_iald k_259_229
theorem k_259_230 : lk 259 230 = some (.aload_n 0, 231, 0, 0, .null) := by decide +kernel
theorem x_259_230 : Tr sc d 259 (230, [some (.ref xk), l1, l2, l3], [.int i1, .ref k0], h) Q = Tr sc d 259 (231, [some (.ref xk), l1, l2, l3], [.ref xk, .int i1, .ref k0], h) Q := t_aload_n k_259_230 rfl
theorem k_259_231 : lk 259 231 = some (.iload_n 3, 232, 3, 0, .null) := by decide +kernel
theorem x_259_231 : Tr sc d 259 (231, [l0, l1, l2, some (.int x)], [.ref k2, .int i1, .ref k0], h) Q = Tr sc d 259 (232, [l0, l1, l2, some (.int x)], [.int x, .ref k2, .int i1, .ref k0], h) Q := t_iload_n k_259_231 rfl
theorem k_259_232 : lk 259 232 = some (.iconst 2, 233, 0, 0, .int 2) := by decide +kernel
theorem x_259_232 : Tr sc d 259 (232, [l0, l1, l2, l3], [.int i3, .ref k2, .int i1, .ref k0], h) Q = Tr sc d 259 (233, [l0, l1, l2, l3], [.int 2, .int i3, .ref k2, .int i1, .ref k0], h) Q := t_go k_259_232 rfl
theorem k_259_233 : lk 259 233 = some (.iadd, 234, 0, 0, .null) := by decide +kernel
theorem x_259_233 : Tr sc d 259 (233, [l0, l1, l2, l3], [.int i4, .int i3, .ref k2, .int i1, .ref k0], h) Q = Tr sc d 259 (234, [l0, l1, l2, l3], [.int (i3 + i4), .ref k2, .int i1, .ref k0], h) Q := t_go k_259_233 rfl
theorem k_259_234 : lk 259 234 = some (.iaload, 235, 0, 0, .null) := by decide +kernel
theorem x_259_234 : Tr sc d 259 (234, [l0, l1, l2, l3], [.int i3, .ref k2, .int i1, .ref k0], h) Q = (iOk sc h k2 i3 ∧ Tr sc d 259 (235, [l0, l1, l2, l3], [.int (iRd sc h k2 i3), .int i1, .ref k0], h) Q) := t_iald k_259_234
theorem k_259_235 : lk 259 235 = some (.invokevirtual 13, 238, 97, 2, .null) := by decide +kernel
theorem x_259_235 : Tr sc (d + 1) 259 (235, [l0, l1, l2, l3], [.int i2, .int i1, .ref k0], h) Q = (okp h k0 9 = true ∧ Tr sc d 97 (ent0 97 [.ref k0, .int i1, .int i2] h) (fun z => Tr sc (d + 1) 259 (238, [l0, l1, l2, l3], z.1.toList ++ [], z.2) Q)) := t_cv (as := [.int i1, .int i2]) (r := []) k_259_235 rfl rfl (Nat.le_of_ble_eq_true rfl) (Nat.le_of_ble_eq_true rfl) (Nat.le_of_ble_eq_true rfl)
theorem k_259_238 : lk 259 238 = some (.aload_n 2, 239, 2, 0, .null) := by decide +kernel
theorem x_259_238 : Tr sc d 259 (238, [l0, l1, some (.ref xk), l3], [.int i0], h) Q = Tr sc d 259 (239, [l0, l1, some (.ref xk), l3], [.ref xk, .int i0], h) Q := t_aload_n k_259_238 rfl
theorem k_259_239 : lk 259 239 = some (.aload_n 0, 240, 0, 0, .null) := by decide +kernel
theorem x_259_239 : Tr sc d 259 (239, [some (.ref xk), l1, l2, l3], [.ref k1, .int i0], h) Q = Tr sc d 259 (240, [some (.ref xk), l1, l2, l3], [.ref xk, .ref k1, .int i0], h) Q := t_aload_n k_259_239 rfl
theorem k_259_240 : lk 259 240 = some (.iload_n 3, 241, 3, 0, .null) := by decide +kernel
theorem x_259_240 : Tr sc d 259 (240, [l0, l1, l2, some (.int x)], [.ref k2, .ref k1, .int i0], h) Q = Tr sc d 259 (241, [l0, l1, l2, some (.int x)], [.int x, .ref k2, .ref k1, .int i0], h) Q := t_iload_n k_259_240 rfl
theorem k_259_241 : lk 259 241 = some (.iconst 1, 242, 0, 0, .int 1) := by decide +kernel
theorem x_259_241 : Tr sc d 259 (241, [l0, l1, l2, l3], [.int i3, .ref k2, .ref k1, .int i0], h) Q = Tr sc d 259 (242, [l0, l1, l2, l3], [.int 1, .int i3, .ref k2, .ref k1, .int i0], h) Q := t_go k_259_241 rfl
theorem k_259_242 : lk 259 242 = some (.iadd, 243, 0, 0, .null) := by decide +kernel
theorem x_259_242 : Tr sc d 259 (242, [l0, l1, l2, l3], [.int i4, .int i3, .ref k2, .ref k1, .int i0], h) Q = Tr sc d 259 (243, [l0, l1, l2, l3], [.int (i3 + i4), .ref k2, .ref k1, .int i0], h) Q := t_go k_259_242 rfl
theorem k_259_243 : lk 259 243 = some (.iaload, 244, 0, 0, .null) := by decide +kernel
theorem x_259_243 : Tr sc d 259 (243, [l0, l1, l2, l3], [.int i3, .ref k2, .ref k1, .int i0], h) Q = (iOk sc h k2 i3 ∧ Tr sc d 259 (244, [l0, l1, l2, l3], [.int (iRd sc h k2 i3), .ref k1, .int i0], h) Q) := t_iald k_259_243
theorem k_259_244 : lk 259 244 = some (.aload_n 0, 245, 0, 0, .null) := by decide +kernel
theorem x_259_244 : Tr sc d 259 (244, [some (.ref xk), l1, l2, l3], [.int i2, .ref k1, .int i0], h) Q = Tr sc d 259 (245, [some (.ref xk), l1, l2, l3], [.ref xk, .int i2, .ref k1, .int i0], h) Q := t_aload_n k_259_244 rfl
theorem k_259_245 : lk 259 245 = some (.iload_n 3, 246, 3, 0, .null) := by decide +kernel
theorem x_259_245 : Tr sc d 259 (245, [l0, l1, l2, some (.int x)], [.ref k3, .int i2, .ref k1, .int i0], h) Q = Tr sc d 259 (246, [l0, l1, l2, some (.int x)], [.int x, .ref k3, .int i2, .ref k1, .int i0], h) Q := t_iload_n k_259_245 rfl
theorem k_259_246 : lk 259 246 = some (.iconst 2, 247, 0, 0, .int 2) := by decide +kernel
theorem x_259_246 : Tr sc d 259 (246, [l0, l1, l2, l3], [.int i4, .ref k3, .int i2, .ref k1, .int i0], h) Q = Tr sc d 259 (247, [l0, l1, l2, l3], [.int 2, .int i4, .ref k3, .int i2, .ref k1, .int i0], h) Q := t_go k_259_246 rfl
theorem k_259_247 : lk 259 247 = some (.iadd, 248, 0, 0, .null) := by decide +kernel
theorem x_259_247 : Tr sc d 259 (247, [l0, l1, l2, l3], [.int i5, .int i4, .ref k3, .int i2, .ref k1, .int i0], h) Q = Tr sc d 259 (248, [l0, l1, l2, l3], [.int (i4 + i5), .ref k3, .int i2, .ref k1, .int i0], h) Q := t_go k_259_247 rfl
theorem k_259_248 : lk 259 248 = some (.iaload, 249, 0, 0, .null) := by decide +kernel
theorem x_259_248 : Tr sc d 259 (248, [l0, l1, l2, l3], [.int i4, .ref k3, .int i2, .ref k1, .int i0], h) Q = (iOk sc h k3 i4 ∧ Tr sc d 259 (249, [l0, l1, l2, l3], [.int (iRd sc h k3 i4), .int i2, .ref k1, .int i0], h) Q) := t_iald k_259_248
theorem k_259_249 : lk 259 249 = some (.invokevirtual 17, 252, 165, 2, .null) := by decide +kernel
theorem x_259_249 : Tr sc (d + 1) 259 (249, [l0, l1, l2, l3], [.int i3, .int i2, .ref k1, .int i0], h) Q = (okp h k1 10 = true ∧ Tr sc d 165 (ent0 165 [.ref k1, .int i2, .int i3] h) (fun z => Tr sc (d + 1) 259 (252, [l0, l1, l2, l3], z.1.toList ++ [.int i0], z.2) Q)) := t_cv (as := [.int i2, .int i3]) (r := [.int i0]) k_259_249 rfl rfl (Nat.le_of_ble_eq_true rfl) (Nat.le_of_ble_eq_true rfl) (Nat.le_of_ble_eq_true rfl)
theorem k_259_252 : lk 259 252 = some (.if_icmp .eq 1496, 255, 1748, 0, .null) := by decide +kernel
theorem x_259_252 : Tr sc d 259 (252, [l0, l1, l2, l3], [.int i1, .int i0], h) Q = if i0 = i1 then Tr sc d 259 (1748, [l0, l1, l2, l3], [], h) Q else Tr sc d 259 (255, [l0, l1, l2, l3], [], h) Q := t_if k_259_252 rfl
theorem k_259_255 : lk 259 255 = some (.iconst 0, 256, 0, 0, .int 0) := by decide +kernel
theorem x_259_255 : Tr sc d 259 (255, [l0, l1, l2, l3], [], h) Q = Tr sc d 259 (256, [l0, l1, l2, l3], [.int 0], h) Q := t_go k_259_255 rfl
theorem k_259_256 : lk 259 256 = some (.ireturn, 257, 0, 0, .null) := by decide +kernel
theorem x_259_256 : Tr sc d 259 (256, [l0, l1, l2, l3], [.int i0], h) Q = (vp_nar .boolean i0 = i0 ∧ Q (some (.int i0), h)) := t_zret k_259_256 r_259
theorem k_259_257 : lk 259 257 = some (.aload_n 1, 258, 1, 0, .null) := by decide +kernel
theorem x_259_257 : Tr sc d 259 (257, [l0, some (.ref xk), l2, l3], [], h) Q = Tr sc d 259 (258, [l0, some (.ref xk), l2, l3], [.ref xk], h) Q := t_aload_n k_259_257 rfl
theorem k_259_258 : lk 259 258 = some (.aload_n 0, 259, 0, 0, .null) := by decide +kernel
theorem x_259_258 : Tr sc d 259 (258, [some (.ref xk), l1, l2, l3], [.ref k0], h) Q = Tr sc d 259 (259, [some (.ref xk), l1, l2, l3], [.ref xk, .ref k0], h) Q := t_aload_n k_259_258 rfl
theorem k_259_259 : lk 259 259 = some (.iload_n 3, 260, 3, 0, .null) := by decide +kernel
theorem x_259_259 : Tr sc d 259 (259, [l0, l1, l2, some (.int x)], [.ref k1, .ref k0], h) Q = Tr sc d 259 (260, [l0, l1, l2, some (.int x)], [.int x, .ref k1, .ref k0], h) Q := t_iload_n k_259_259 rfl
theorem k_259_260 : lk 259 260 = some (.iconst 1, 261, 0, 0, .int 1) := by decide +kernel
theorem x_259_260 : Tr sc d 259 (260, [l0, l1, l2, l3], [.int i2, .ref k1, .ref k0], h) Q = Tr sc d 259 (261, [l0, l1, l2, l3], [.int 1, .int i2, .ref k1, .ref k0], h) Q := t_go k_259_260 rfl
theorem k_259_261 : lk 259 261 = some (.iadd, 262, 0, 0, .null) := by decide +kernel
theorem x_259_261 : Tr sc d 259 (261, [l0, l1, l2, l3], [.int i3, .int i2, .ref k1, .ref k0], h) Q = Tr sc d 259 (262, [l0, l1, l2, l3], [.int (i2 + i3), .ref k1, .ref k0], h) Q := t_go k_259_261 rfl
theorem k_259_262 : lk 259 262 = some (.iaload, 263, 0, 0, .null) := by decide +kernel
theorem x_259_262 : Tr sc d 259 (262, [l0, l1, l2, l3], [.int i2, .ref k1, .ref k0], h) Q = (iOk sc h k1 i2 ∧ Tr sc d 259 (263, [l0, l1, l2, l3], [.int (iRd sc h k1 i2), .ref k0], h) Q) := t_iald k_259_262
theorem k_259_263 : lk 259 263 = some (.aload_n 0, 264, 0, 0, .null) := by decide +kernel
theorem x_259_263 : Tr sc d 259 (263, [some (.ref xk), l1, l2, l3], [.int i1, .ref k0], h) Q = Tr sc d 259 (264, [some (.ref xk), l1, l2, l3], [.ref xk, .int i1, .ref k0], h) Q := t_aload_n k_259_263 rfl
theorem k_259_264 : lk 259 264 = some (.iload_n 3, 265, 3, 0, .null) := by decide +kernel
theorem x_259_264 : Tr sc d 259 (264, [l0, l1, l2, some (.int x)], [.ref k2, .int i1, .ref k0], h) Q = Tr sc d 259 (265, [l0, l1, l2, some (.int x)], [.int x, .ref k2, .int i1, .ref k0], h) Q := t_iload_n k_259_264 rfl
theorem k_259_265 : lk 259 265 = some (.iconst 2, 266, 0, 0, .int 2) := by decide +kernel
theorem x_259_265 : Tr sc d 259 (265, [l0, l1, l2, l3], [.int i3, .ref k2, .int i1, .ref k0], h) Q = Tr sc d 259 (266, [l0, l1, l2, l3], [.int 2, .int i3, .ref k2, .int i1, .ref k0], h) Q := t_go k_259_265 rfl
theorem k_259_266 : lk 259 266 = some (.iadd, 267, 0, 0, .null) := by decide +kernel
theorem x_259_266 : Tr sc d 259 (266, [l0, l1, l2, l3], [.int i4, .int i3, .ref k2, .int i1, .ref k0], h) Q = Tr sc d 259 (267, [l0, l1, l2, l3], [.int (i3 + i4), .ref k2, .int i1, .ref k0], h) Q := t_go k_259_266 rfl
theorem k_259_267 : lk 259 267 = some (.iaload, 268, 0, 0, .null) := by decide +kernel
theorem x_259_267 : Tr sc d 259 (267, [l0, l1, l2, l3], [.int i3, .ref k2, .int i1, .ref k0], h) Q = (iOk sc h k2 i3 ∧ Tr sc d 259 (268, [l0, l1, l2, l3], [.int (iRd sc h k2 i3), .int i1, .ref k0], h) Q) := t_iald k_259_267
theorem k_259_268 : lk 259 268 = some (.aload_n 0, 269, 0, 0, .null) := by decide +kernel
theorem x_259_268 : Tr sc d 259 (268, [some (.ref xk), l1, l2, l3], [.int i2, .int i1, .ref k0], h) Q = Tr sc d 259 (269, [some (.ref xk), l1, l2, l3], [.ref xk, .int i2, .int i1, .ref k0], h) Q := t_aload_n k_259_268 rfl
theorem k_259_269 : lk 259 269 = some (.iload_n 3, 270, 3, 0, .null) := by decide +kernel
theorem x_259_269 : Tr sc d 259 (269, [l0, l1, l2, some (.int x)], [.ref k3, .int i2, .int i1, .ref k0], h) Q = Tr sc d 259 (270, [l0, l1, l2, some (.int x)], [.int x, .ref k3, .int i2, .int i1, .ref k0], h) Q := t_iload_n k_259_269 rfl
theorem k_259_270 : lk 259 270 = some (.iconst 3, 271, 0, 0, .int 3) := by decide +kernel
theorem x_259_270 : Tr sc d 259 (270, [l0, l1, l2, l3], [.int i4, .ref k3, .int i2, .int i1, .ref k0], h) Q = Tr sc d 259 (271, [l0, l1, l2, l3], [.int 3, .int i4, .ref k3, .int i2, .int i1, .ref k0], h) Q := t_go k_259_270 rfl
theorem k_259_271 : lk 259 271 = some (.iadd, 272, 0, 0, .null) := by decide +kernel
theorem x_259_271 : Tr sc d 259 (271, [l0, l1, l2, l3], [.int i5, .int i4, .ref k3, .int i2, .int i1, .ref k0], h) Q = Tr sc d 259 (272, [l0, l1, l2, l3], [.int (i4 + i5), .ref k3, .int i2, .int i1, .ref k0], h) Q := t_go k_259_271 rfl
theorem k_259_272 : lk 259 272 = some (.iaload, 273, 0, 0, .null) := by decide +kernel
theorem x_259_272 : Tr sc d 259 (272, [l0, l1, l2, l3], [.int i4, .ref k3, .int i2, .int i1, .ref k0], h) Q = (iOk sc h k3 i4 ∧ Tr sc d 259 (273, [l0, l1, l2, l3], [.int (iRd sc h k3 i4), .int i2, .int i1, .ref k0], h) Q) := t_iald k_259_272
theorem k_259_273 : lk 259 273 = some (.invokevirtual 18, 276, 98, 3, .null) := by decide +kernel
theorem x_259_273 : Tr sc (d + 1) 259 (273, [l0, l1, l2, l3], [.int i3, .int i2, .int i1, .ref k0], h) Q = (okp h k0 9 = true ∧ Tr sc d 98 (ent0 98 [.ref k0, .int i1, .int i2, .int i3] h) (fun z => Tr sc (d + 1) 259 (276, [l0, l1, l2, l3], z.1.toList ++ [], z.2) Q)) := t_cv (as := [.int i1, .int i2, .int i3]) (r := []) k_259_273 rfl rfl (Nat.le_of_ble_eq_true rfl) (Nat.le_of_ble_eq_true rfl) (Nat.le_of_ble_eq_true rfl)
theorem k_259_276 : lk 259 276 = some (.aload_n 2, 277, 2, 0, .null) := by decide +kernel
theorem x_259_276 : Tr sc d 259 (276, [l0, l1, some (.ref xk), l3], [.int i0], h) Q = Tr sc d 259 (277, [l0, l1, some (.ref xk), l3], [.ref xk, .int i0], h) Q := t_aload_n k_259_276 rfl
theorem k_259_277 : lk 259 277 = some (.aload_n 0, 278, 0, 0, .null) := by decide +kernel
theorem x_259_277 : Tr sc d 259 (277, [some (.ref xk), l1, l2, l3], [.ref k1, .int i0], h) Q = Tr sc d 259 (278, [some (.ref xk), l1, l2, l3], [.ref xk, .ref k1, .int i0], h) Q := t_aload_n k_259_277 rfl
theorem k_259_278 : lk 259 278 = some (.iload_n 3, 279, 3, 0, .null) := by decide +kernel
theorem x_259_278 : Tr sc d 259 (278, [l0, l1, l2, some (.int x)], [.ref k2, .ref k1, .int i0], h) Q = Tr sc d 259 (279, [l0, l1, l2, some (.int x)], [.int x, .ref k2, .ref k1, .int i0], h) Q := t_iload_n k_259_278 rfl
theorem k_259_279 : lk 259 279 = some (.iconst 1, 280, 0, 0, .int 1) := by decide +kernel
theorem x_259_279 : Tr sc d 259 (279, [l0, l1, l2, l3], [.int i3, .ref k2, .ref k1, .int i0], h) Q = Tr sc d 259 (280, [l0, l1, l2, l3], [.int 1, .int i3, .ref k2, .ref k1, .int i0], h) Q := t_go k_259_279 rfl
theorem k_259_280 : lk 259 280 = some (.iadd, 281, 0, 0, .null) := by decide +kernel
theorem x_259_280 : Tr sc d 259 (280, [l0, l1, l2, l3], [.int i4, .int i3, .ref k2, .ref k1, .int i0], h) Q = Tr sc d 259 (281, [l0, l1, l2, l3], [.int (i3 + i4), .ref k2, .ref k1, .int i0], h) Q := t_go k_259_280 rfl
theorem k_259_281 : lk 259 281 = some (.iaload, 282, 0, 0, .null) := by decide +kernel
theorem x_259_281 : Tr sc d 259 (281, [l0, l1, l2, l3], [.int i3, .ref k2, .ref k1, .int i0], h) Q = (iOk sc h k2 i3 ∧ Tr sc d 259 (282, [l0, l1, l2, l3], [.int (iRd sc h k2 i3), .ref k1, .int i0], h) Q) := t_iald k_259_281
theorem k_259_282 : lk 259 282 = some (.aload_n 0, 283, 0, 0, .null) := by decide +kernel
theorem x_259_282 : Tr sc d 259 (282, [some (.ref xk), l1, l2, l3], [.int i2, .ref k1, .int i0], h) Q = Tr sc d 259 (283, [some (.ref xk), l1, l2, l3], [.ref xk, .int i2, .ref k1, .int i0], h) Q := t_aload_n k_259_282 rfl
theorem k_259_283 : lk 259 283 = some (.iload_n 3, 284, 3, 0, .null) := by decide +kernel
theorem x_259_283 : Tr sc d 259 (283, [l0, l1, l2, some (.int x)], [.ref k3, .int i2, .ref k1, .int i0], h) Q = Tr sc d 259 (284, [l0, l1, l2, some (.int x)], [.int x, .ref k3, .int i2, .ref k1, .int i0], h) Q := t_iload_n k_259_283 rfl
theorem k_259_284 : lk 259 284 = some (.iconst 2, 285, 0, 0, .int 2) := by decide +kernel
theorem x_259_284 : Tr sc d 259 (284, [l0, l1, l2, l3], [.int i4, .ref k3, .int i2, .ref k1, .int i0], h) Q = Tr sc d 259 (285, [l0, l1, l2, l3], [.int 2, .int i4, .ref k3, .int i2, .ref k1, .int i0], h) Q := t_go k_259_284 rfl
theorem k_259_285 : lk 259 285 = some (.iadd, 286, 0, 0, .null) := by decide +kernel
theorem x_259_285 : Tr sc d 259 (285, [l0, l1, l2, l3], [.int i5, .int i4, .ref k3, .int i2, .ref k1, .int i0], h) Q = Tr sc d 259 (286, [l0, l1, l2, l3], [.int (i4 + i5), .ref k3, .int i2, .ref k1, .int i0], h) Q := t_go k_259_285 rfl
theorem k_259_286 : lk 259 286 = some (.iaload, 287, 0, 0, .null) := by decide +kernel
theorem x_259_286 : Tr sc d 259 (286, [l0, l1, l2, l3], [.int i4, .ref k3, .int i2, .ref k1, .int i0], h) Q = (iOk sc h k3 i4 ∧ Tr sc d 259 (287, [l0, l1, l2, l3], [.int (iRd sc h k3 i4), .int i2, .ref k1, .int i0], h) Q) := t_iald k_259_286
theorem k_259_287 : lk 259 287 = some (.aload_n 0, 288, 0, 0, .null) := by decide +kernel
theorem x_259_287 : Tr sc d 259 (287, [some (.ref xk), l1, l2, l3], [.int i3, .int i2, .ref k1, .int i0], h) Q = Tr sc d 259 (288, [some (.ref xk), l1, l2, l3], [.ref xk, .int i3, .int i2, .ref k1, .int i0], h) Q := t_aload_n k_259_287 rfl
theorem k_259_288 : lk 259 288 = some (.iload_n 3, 289, 3, 0, .null) := by decide +kernel
theorem x_259_288 : Tr sc d 259 (288, [l0, l1, l2, some (.int x)], [.ref k4, .int i3, .int i2, .ref k1, .int i0], h) Q = Tr sc d 259 (289, [l0, l1, l2, some (.int x)], [.int x, .ref k4, .int i3, .int i2, .ref k1, .int i0], h) Q := t_iload_n k_259_288 rfl
theorem k_259_289 : lk 259 289 = some (.iconst 3, 290, 0, 0, .int 3) := by decide +kernel
theorem x_259_289 : Tr sc d 259 (289, [l0, l1, l2, l3], [.int i5, .ref k4, .int i3, .int i2, .ref k1, .int i0], h) Q = Tr sc d 259 (290, [l0, l1, l2, l3], [.int 3, .int i5, .ref k4, .int i3, .int i2, .ref k1, .int i0], h) Q := t_go k_259_289 rfl
theorem k_259_290 : lk 259 290 = some (.iadd, 291, 0, 0, .null) := by decide +kernel
theorem x_259_290 : Tr sc d 259 (290, [l0, l1, l2, l3], [.int i6, .int i5, .ref k4, .int i3, .int i2, .ref k1, .int i0], h) Q = Tr sc d 259 (291, [l0, l1, l2, l3], [.int (i5 + i6), .ref k4, .int i3, .int i2, .ref k1, .int i0], h) Q := t_go k_259_290 rfl
theorem k_259_291 : lk 259 291 = some (.iaload, 292, 0, 0, .null) := by decide +kernel
theorem x_259_291 : Tr sc d 259 (291, [l0, l1, l2, l3], [.int i5, .ref k4, .int i3, .int i2, .ref k1, .int i0], h) Q = (iOk sc h k4 i5 ∧ Tr sc d 259 (292, [l0, l1, l2, l3], [.int (iRd sc h k4 i5), .int i3, .int i2, .ref k1, .int i0], h) Q) := t_iald k_259_291
theorem k_259_292 : lk 259 292 = some (.invokevirtual 22, 295, 166, 3, .null) := by decide +kernel
theorem x_259_292 : Tr sc (d + 1) 259 (292, [l0, l1, l2, l3], [.int i4, .int i3, .int i2, .ref k1, .int i0], h) Q = (okp h k1 10 = true ∧ Tr sc d 166 (ent0 166 [.ref k1, .int i2, .int i3, .int i4] h) (fun z => Tr sc (d + 1) 259 (295, [l0, l1, l2, l3], z.1.toList ++ [.int i0], z.2) Q)) := t_cv (as := [.int i2, .int i3, .int i4]) (r := [.int i0]) k_259_292 rfl rfl (Nat.le_of_ble_eq_true rfl) (Nat.le_of_ble_eq_true rfl) (Nat.le_of_ble_eq_true rfl)
theorem k_259_295 : lk 259 295 = some (.if_icmp .eq 1453, 298, 1748, 0, .null) := by decide +kernel
theorem x_259_295 : Tr sc d 259 (295, [l0, l1, l2, l3], [.int i1, .int i0], h) Q = if i0 = i1 then Tr sc d 259 (1748, [l0, l1, l2, l3], [], h) Q else Tr sc d 259 (298, [l0, l1, l2, l3], [], h) Q := t_if k_259_295 rfl
theorem k_259_298 : lk 259 298 = some (.iconst 0, 299, 0, 0, .int 0) := by decide +kernel
theorem x_259_298 : Tr sc d 259 (298, [l0, l1, l2, l3], [], h) Q = Tr sc d 259 (299, [l0, l1, l2, l3], [.int 0], h) Q := t_go k_259_298 rfl
theorem k_259_299 : lk 259 299 = some (.ireturn, 300, 0, 0, .null) := by decide +kernel
theorem x_259_299 : Tr sc d 259 (299, [l0, l1, l2, l3], [.int i0], h) Q = (vp_nar .boolean i0 = i0 ∧ Q (some (.int i0), h)) := t_zret k_259_299 r_259
theorem k_259_300 : lk 259 300 = some (.aload_n 1, 301, 1, 0, .null) := by decide +kernel
theorem x_259_300 : Tr sc d 259 (300, [l0, some (.ref xk), l2, l3], [], h) Q = Tr sc d 259 (301, [l0, some (.ref xk), l2, l3], [.ref xk], h) Q := t_aload_n k_259_300 rfl
theorem k_259_301 : lk 259 301 = some (.aload_n 0, 302, 0, 0, .null) := by decide +kernel
theorem x_259_301 : Tr sc d 259 (301, [some (.ref xk), l1, l2, l3], [.ref k0], h) Q = Tr sc d 259 (302, [some (.ref xk), l1, l2, l3], [.ref xk, .ref k0], h) Q := t_aload_n k_259_301 rfl
theorem k_259_302 : lk 259 302 = some (.iload_n 3, 303, 3, 0, .null) := by decide +kernel
theorem x_259_302 : Tr sc d 259 (302, [l0, l1, l2, some (.int x)], [.ref k1, .ref k0], h) Q = Tr sc d 259 (303, [l0, l1, l2, some (.int x)], [.int x, .ref k1, .ref k0], h) Q := t_iload_n k_259_302 rfl
theorem k_259_303 : lk 259 303 = some (.iconst 1, 304, 0, 0, .int 1) := by decide +kernel
theorem x_259_303 : Tr sc d 259 (303, [l0, l1, l2, l3], [.int i2, .ref k1, .ref k0], h) Q = Tr sc d 259 (304, [l0, l1, l2, l3], [.int 1, .int i2, .ref k1, .ref k0], h) Q := t_go k_259_303 rfl
theorem k_259_304 : lk 259 304 = some (.iadd, 305, 0, 0, .null) := by decide +kernel
theorem x_259_304 : Tr sc d 259 (304, [l0, l1, l2, l3], [.int i3, .int i2, .ref k1, .ref k0], h) Q = Tr sc d 259 (305, [l0, l1, l2, l3], [.int (i2 + i3), .ref k1, .ref k0], h) Q := t_go k_259_304 rfl
theorem k_259_305 : lk 259 305 = some (.iaload, 306, 0, 0, .null) := by decide +kernel
theorem x_259_305 : Tr sc d 259 (305, [l0, l1, l2, l3], [.int i2, .ref k1, .ref k0], h) Q = (iOk sc h k1 i2 ∧ Tr sc d 259 (306, [l0, l1, l2, l3], [.int (iRd sc h k1 i2), .ref k0], h) Q) := t_iald k_259_305
theorem k_259_306 : lk 259 306 = some (.invokevirtual 23, 309, 99, 1, .null) := by decide +kernel
theorem x_259_306 : Tr sc (d + 1) 259 (306, [l0, l1, l2, l3], [.int i1, .ref k0], h) Q = (okp h k0 9 = true ∧ Tr sc d 99 (ent0 99 [.ref k0, .int i1] h) (fun z => Tr sc (d + 1) 259 (309, [l0, l1, l2, l3], z.1.toList ++ [], z.2) Q)) := t_cv (as := [.int i1]) (r := []) k_259_306 rfl rfl (Nat.le_of_ble_eq_true rfl) (Nat.le_of_ble_eq_true rfl) (Nat.le_of_ble_eq_true rfl)
theorem k_259_309 : lk 259 309 = some (.aload_n 2, 310, 2, 0, .null) := by decide +kernel
theorem x_259_309 : Tr sc d 259 (309, [l0, l1, some (.ref xk), l3], [.int i0], h) Q = Tr sc d 259 (310, [l0, l1, some (.ref xk), l3], [.ref xk, .int i0], h) Q := t_aload_n k_259_309 rfl
theorem k_259_310 : lk 259 310 = some (.aload_n 0, 311, 0, 0, .null) := by decide +kernel
theorem x_259_310 : Tr sc d 259 (310, [some (.ref xk), l1, l2, l3], [.ref k1, .int i0], h) Q = Tr sc d 259 (311, [some (.ref xk), l1, l2, l3], [.ref xk, .ref k1, .int i0], h) Q := t_aload_n k_259_310 rfl
theorem k_259_311 : lk 259 311 = some (.iload_n 3, 312, 3, 0, .null) := by decide +kernel
theorem x_259_311 : Tr sc d 259 (311, [l0, l1, l2, some (.int x)], [.ref k2, .ref k1, .int i0], h) Q = Tr sc d 259 (312, [l0, l1, l2, some (.int x)], [.int x, .ref k2, .ref k1, .int i0], h) Q := t_iload_n k_259_311 rfl
theorem k_259_312 : lk 259 312 = some (.iconst 1, 313, 0, 0, .int 1) := by decide +kernel
theorem x_259_312 : Tr sc d 259 (312, [l0, l1, l2, l3], [.int i3, .ref k2, .ref k1, .int i0], h) Q = Tr sc d 259 (313, [l0, l1, l2, l3], [.int 1, .int i3, .ref k2, .ref k1, .int i0], h) Q := t_go k_259_312 rfl
theorem k_259_313 : lk 259 313 = some (.iadd, 314, 0, 0, .null) := by decide +kernel
theorem x_259_313 : Tr sc d 259 (313, [l0, l1, l2, l3], [.int i4, .int i3, .ref k2, .ref k1, .int i0], h) Q = Tr sc d 259 (314, [l0, l1, l2, l3], [.int (i3 + i4), .ref k2, .ref k1, .int i0], h) Q := t_go k_259_313 rfl
theorem k_259_314 : lk 259 314 = some (.iaload, 315, 0, 0, .null) := by decide +kernel
theorem x_259_314 : Tr sc d 259 (314, [l0, l1, l2, l3], [.int i3, .ref k2, .ref k1, .int i0], h) Q = (iOk sc h k2 i3 ∧ Tr sc d 259 (315, [l0, l1, l2, l3], [.int (iRd sc h k2 i3), .ref k1, .int i0], h) Q) := t_iald k_259_314
theorem k_259_315 : lk 259 315 = some (.invokevirtual 27, 318, 167, 1, .null) := by decide +kernel
theorem x_259_315 : Tr sc (d + 1) 259 (315, [l0, l1, l2, l3], [.int i2, .ref k1, .int i0], h) Q = (okp h k1 10 = true ∧ Tr sc d 167 (ent0 167 [.ref k1, .int i2] h) (fun z => Tr sc (d + 1) 259 (318, [l0, l1, l2, l3], z.1.toList ++ [.int i0], z.2) Q)) := t_cv (as := [.int i2]) (r := [.int i0]) k_259_315 rfl rfl (Nat.le_of_ble_eq_true rfl) (Nat.le_of_ble_eq_true rfl) (Nat.le_of_ble_eq_true rfl)
theorem k_259_318 : lk 259 318 = some (.if_icmp .eq 1430, 321, 1748, 0, .null) := by decide +kernel
theorem x_259_318 : Tr sc d 259 (318, [l0, l1, l2, l3], [.int i1, .int i0], h) Q = if i0 = i1 then Tr sc d 259 (1748, [l0, l1, l2, l3], [], h) Q else Tr sc d 259 (321, [l0, l1, l2, l3], [], h) Q := t_if k_259_318 rfl
theorem k_259_321 : lk 259 321 = some (.iconst 0, 322, 0, 0, .int 0) := by decide +kernel
theorem x_259_321 : Tr sc d 259 (321, [l0, l1, l2, l3], [], h) Q = Tr sc d 259 (322, [l0, l1, l2, l3], [.int 0], h) Q := t_go k_259_321 rfl
theorem k_259_322 : lk 259 322 = some (.ireturn, 323, 0, 0, .null) := by decide +kernel
theorem x_259_322 : Tr sc d 259 (322, [l0, l1, l2, l3], [.int i0], h) Q = (vp_nar .boolean i0 = i0 ∧ Q (some (.int i0), h)) := t_zret k_259_322 r_259
theorem k_259_323 : lk 259 323 = some (.aload_n 1, 324, 1, 0, .null) := by decide +kernel
theorem x_259_323 : Tr sc d 259 (323, [l0, some (.ref xk), l2, l3], [], h) Q = Tr sc d 259 (324, [l0, some (.ref xk), l2, l3], [.ref xk], h) Q := t_aload_n k_259_323 rfl
theorem k_259_324 : lk 259 324 = some (.aload_n 0, 325, 0, 0, .null) := by decide +kernel
theorem x_259_324 : Tr sc d 259 (324, [some (.ref xk), l1, l2, l3], [.ref k0], h) Q = Tr sc d 259 (325, [some (.ref xk), l1, l2, l3], [.ref xk, .ref k0], h) Q := t_aload_n k_259_324 rfl
theorem k_259_325 : lk 259 325 = some (.iload_n 3, 326, 3, 0, .null) := by decide +kernel
theorem x_259_325 : Tr sc d 259 (325, [l0, l1, l2, some (.int x)], [.ref k1, .ref k0], h) Q = Tr sc d 259 (326, [l0, l1, l2, some (.int x)], [.int x, .ref k1, .ref k0], h) Q := t_iload_n k_259_325 rfl
theorem k_259_326 : lk 259 326 = some (.iconst 1, 327, 0, 0, .int 1) := by decide +kernel
theorem x_259_326 : Tr sc d 259 (326, [l0, l1, l2, l3], [.int i2, .ref k1, .ref k0], h) Q = Tr sc d 259 (327, [l0, l1, l2, l3], [.int 1, .int i2, .ref k1, .ref k0], h) Q := t_go k_259_326 rfl
theorem k_259_327 : lk 259 327 = some (.iadd, 328, 0, 0, .null) := by decide +kernel
theorem x_259_327 : Tr sc d 259 (327, [l0, l1, l2, l3], [.int i3, .int i2, .ref k1, .ref k0], h) Q = Tr sc d 259 (328, [l0, l1, l2, l3], [.int (i2 + i3), .ref k1, .ref k0], h) Q := t_go k_259_327 rfl
theorem k_259_328 : lk 259 328 = some (.iaload, 329, 0, 0, .null) := by decide +kernel
theorem x_259_328 : Tr sc d 259 (328, [l0, l1, l2, l3], [.int i2, .ref k1, .ref k0], h) Q = (iOk sc h k1 i2 ∧ Tr sc d 259 (329, [l0, l1, l2, l3], [.int (iRd sc h k1 i2), .ref k0], h) Q) := t_iald k_259_328
theorem k_259_329 : lk 259 329 = some (.aload_n 0, 330, 0, 0, .null) := by decide +kernel
theorem x_259_329 : Tr sc d 259 (329, [some (.ref xk), l1, l2, l3], [.int i1, .ref k0], h) Q = Tr sc d 259 (330, [some (.ref xk), l1, l2, l3], [.ref xk, .int i1, .ref k0], h) Q := t_aload_n k_259_329 rfl
theorem k_259_330 : lk 259 330 = some (.iload_n 3, 331, 3, 0, .null) := by decide +kernel
theorem x_259_330 : Tr sc d 259 (330, [l0, l1, l2, some (.int x)], [.ref k2, .int i1, .ref k0], h) Q = Tr sc d 259 (331, [l0, l1, l2, some (.int x)], [.int x, .ref k2, .int i1, .ref k0], h) Q := t_iload_n k_259_330 rfl
theorem k_259_331 : lk 259 331 = some (.iconst 2, 332, 0, 0, .int 2) := by decide +kernel
theorem x_259_331 : Tr sc d 259 (331, [l0, l1, l2, l3], [.int i3, .ref k2, .int i1, .ref k0], h) Q = Tr sc d 259 (332, [l0, l1, l2, l3], [.int 2, .int i3, .ref k2, .int i1, .ref k0], h) Q := t_go k_259_331 rfl
theorem k_259_332 : lk 259 332 = some (.iadd, 333, 0, 0, .null) := by decide +kernel
theorem x_259_332 : Tr sc d 259 (332, [l0, l1, l2, l3], [.int i4, .int i3, .ref k2, .int i1, .ref k0], h) Q = Tr sc d 259 (333, [l0, l1, l2, l3], [.int (i3 + i4), .ref k2, .int i1, .ref k0], h) Q := t_go k_259_332 rfl
theorem k_259_333 : lk 259 333 = some (.iaload, 334, 0, 0, .null) := by decide +kernel
theorem x_259_333 : Tr sc d 259 (333, [l0, l1, l2, l3], [.int i3, .ref k2, .int i1, .ref k0], h) Q = (iOk sc h k2 i3 ∧ Tr sc d 259 (334, [l0, l1, l2, l3], [.int (iRd sc h k2 i3), .int i1, .ref k0], h) Q) := t_iald k_259_333
theorem k_259_334 : lk 259 334 = some (.aload_n 0, 335, 0, 0, .null) := by decide +kernel
theorem x_259_334 : Tr sc d 259 (334, [some (.ref xk), l1, l2, l3], [.int i2, .int i1, .ref k0], h) Q = Tr sc d 259 (335, [some (.ref xk), l1, l2, l3], [.ref xk, .int i2, .int i1, .ref k0], h) Q := t_aload_n k_259_334 rfl
theorem k_259_335 : lk 259 335 = some (.iload_n 3, 336, 3, 0, .null) := by decide +kernel
theorem x_259_335 : Tr sc d 259 (335, [l0, l1, l2, some (.int x)], [.ref k3, .int i2, .int i1, .ref k0], h) Q = Tr sc d 259 (336, [l0, l1, l2, some (.int x)], [.int x, .ref k3, .int i2, .int i1, .ref k0], h) Q := t_iload_n k_259_335 rfl
theorem k_259_336 : lk 259 336 = some (.iconst 3, 337, 0, 0, .int 3) := by decide +kernel
theorem x_259_336 : Tr sc d 259 (336, [l0, l1, l2, l3], [.int i4, .ref k3, .int i2, .int i1, .ref k0], h) Q = Tr sc d 259 (337, [l0, l1, l2, l3], [.int 3, .int i4, .ref k3, .int i2, .int i1, .ref k0], h) Q := t_go k_259_336 rfl
theorem k_259_337 : lk 259 337 = some (.iadd, 338, 0, 0, .null) := by decide +kernel
theorem x_259_337 : Tr sc d 259 (337, [l0, l1, l2, l3], [.int i5, .int i4, .ref k3, .int i2, .int i1, .ref k0], h) Q = Tr sc d 259 (338, [l0, l1, l2, l3], [.int (i4 + i5), .ref k3, .int i2, .int i1, .ref k0], h) Q := t_go k_259_337 rfl
theorem k_259_338 : lk 259 338 = some (.iaload, 339, 0, 0, .null) := by decide +kernel
theorem x_259_338 : Tr sc d 259 (338, [l0, l1, l2, l3], [.int i4, .ref k3, .int i2, .int i1, .ref k0], h) Q = (iOk sc h k3 i4 ∧ Tr sc d 259 (339, [l0, l1, l2, l3], [.int (iRd sc h k3 i4), .int i2, .int i1, .ref k0], h) Q) := t_iald k_259_338
theorem k_259_339 : lk 259 339 = some (.aload_n 0, 340, 0, 0, .null) := by decide +kernel
theorem x_259_339 : Tr sc d 259 (339, [some (.ref xk), l1, l2, l3], [.int i3, .int i2, .int i1, .ref k0], h) Q = Tr sc d 259 (340, [some (.ref xk), l1, l2, l3], [.ref xk, .int i3, .int i2, .int i1, .ref k0], h) Q := t_aload_n k_259_339 rfl
theorem k_259_340 : lk 259 340 = some (.iload_n 3, 341, 3, 0, .null) := by decide +kernel
theorem x_259_340 : Tr sc d 259 (340, [l0, l1, l2, some (.int x)], [.ref k4, .int i3, .int i2, .int i1, .ref k0], h) Q = Tr sc d 259 (341, [l0, l1, l2, some (.int x)], [.int x, .ref k4, .int i3, .int i2, .int i1, .ref k0], h) Q := t_iload_n k_259_340 rfl
theorem k_259_341 : lk 259 341 = some (.iconst 4, 342, 0, 0, .int 4) := by decide +kernel
theorem x_259_341 : Tr sc d 259 (341, [l0, l1, l2, l3], [.int i5, .ref k4, .int i3, .int i2, .int i1, .ref k0], h) Q = Tr sc d 259 (342, [l0, l1, l2, l3], [.int 4, .int i5, .ref k4, .int i3, .int i2, .int i1, .ref k0], h) Q := t_go k_259_341 rfl
theorem k_259_342 : lk 259 342 = some (.iadd, 343, 0, 0, .null) := by decide +kernel
theorem x_259_342 : Tr sc d 259 (342, [l0, l1, l2, l3], [.int i6, .int i5, .ref k4, .int i3, .int i2, .int i1, .ref k0], h) Q = Tr sc d 259 (343, [l0, l1, l2, l3], [.int (i5 + i6), .ref k4, .int i3, .int i2, .int i1, .ref k0], h) Q := t_go k_259_342 rfl
theorem k_259_343 : lk 259 343 = some (.iaload, 344, 0, 0, .null) := by decide +kernel
theorem x_259_343 : Tr sc d 259 (343, [l0, l1, l2, l3], [.int i5, .ref k4, .int i3, .int i2, .int i1, .ref k0], h) Q = (iOk sc h k4 i5 ∧ Tr sc d 259 (344, [l0, l1, l2, l3], [.int (iRd sc h k4 i5), .int i3, .int i2, .int i1, .ref k0], h) Q) := t_iald k_259_343
theorem k_259_344 : lk 259 344 = some (.aload_n 0, 345, 0, 0, .null) := by decide +kernel
theorem x_259_344 : Tr sc d 259 (344, [some (.ref xk), l1, l2, l3], [.int i4, .int i3, .int i2, .int i1, .ref k0], h) Q = Tr sc d 259 (345, [some (.ref xk), l1, l2, l3], [.ref xk, .int i4, .int i3, .int i2, .int i1, .ref k0], h) Q := t_aload_n k_259_344 rfl
theorem k_259_345 : lk 259 345 = some (.iload_n 3, 346, 3, 0, .null) := by decide +kernel
theorem x_259_345 : Tr sc d 259 (345, [l0, l1, l2, some (.int x)], [.ref k5, .int i4, .int i3, .int i2, .int i1, .ref k0], h) Q = Tr sc d 259 (346, [l0, l1, l2, some (.int x)], [.int x, .ref k5, .int i4, .int i3, .int i2, .int i1, .ref k0], h) Q := t_iload_n k_259_345 rfl
theorem k_259_346 : lk 259 346 = some (.iconst 5, 347, 0, 0, .int 5) := by decide +kernel
theorem x_259_346 : Tr sc d 259 (346, [l0, l1, l2, l3], [.int i6, .ref k5, .int i4, .int i3, .int i2, .int i1, .ref k0], h) Q = Tr sc d 259 (347, [l0, l1, l2, l3], [.int 5, .int i6, .ref k5, .int i4, .int i3, .int i2, .int i1, .ref k0], h) Q := t_go k_259_346 rfl
theorem k_259_347 : lk 259 347 = some (.iadd, 348, 0, 0, .null) := by decide +kernel
theorem x_259_347 : Tr sc d 259 (347, [l0, l1, l2, l3], [.int i7, .int i6, .ref k5, .int i4, .int i3, .int i2, .int i1, .ref k0], h) Q = Tr sc d 259 (348, [l0, l1, l2, l3], [.int (i6 + i7), .ref k5, .int i4, .int i3, .int i2, .int i1, .ref k0], h) Q := t_go k_259_347 rfl
theorem k_259_348 : lk 259 348 = some (.iaload, 349, 0, 0, .null) := by decide +kernel
theorem x_259_348 : Tr sc d 259 (348, [l0, l1, l2, l3], [.int i6, .ref k5, .int i4, .int i3, .int i2, .int i1, .ref k0], h) Q = (iOk sc h k5 i6 ∧ Tr sc d 259 (349, [l0, l1, l2, l3], [.int (iRd sc h k5 i6), .int i4, .int i3, .int i2, .int i1, .ref k0], h) Q) := t_iald k_259_348
theorem k_259_349 : lk 259 349 = some (.invokevirtual 28, 352, 100, 5, .null) := by decide +kernel
theorem x_259_349 : Tr sc (d + 1) 259 (349, [l0, l1, l2, l3], [.int i5, .int i4, .int i3, .int i2, .int i1, .ref k0], h) Q = (okp h k0 9 = true ∧ Tr sc d 100 (ent0 100 [.ref k0, .int i1, .int i2, .int i3, .int i4, .int i5] h) (fun z => Tr sc (d + 1) 259 (352, [l0, l1, l2, l3], z.1.toList ++ [], z.2) Q)) := t_cv (as := [.int i1, .int i2, .int i3, .int i4, .int i5]) (r := []) k_259_349 rfl rfl (Nat.le_of_ble_eq_true rfl) (Nat.le_of_ble_eq_true rfl) (Nat.le_of_ble_eq_true rfl)
theorem k_259_352 : lk 259 352 = some (.aload_n 2, 353, 2, 0, .null) := by decide +kernel
theorem x_259_352 : Tr sc d 259 (352, [l0, l1, some (.ref xk), l3], [.int i0], h) Q = Tr sc d 259 (353, [l0, l1, some (.ref xk), l3], [.ref xk, .int i0], h) Q := t_aload_n k_259_352 rfl
theorem k_259_353 : lk 259 353 = some (.aload_n 0, 354, 0, 0, .null) := by decide +kernel
theorem x_259_353 : Tr sc d 259 (353, [some (.ref xk), l1, l2, l3], [.ref k1, .int i0], h) Q = Tr sc d 259 (354, [some (.ref xk), l1, l2, l3], [.ref xk, .ref k1, .int i0], h) Q := t_aload_n k_259_353 rfl
theorem k_259_354 : lk 259 354 = some (.iload_n 3, 355, 3, 0, .null) := by decide +kernel
theorem x_259_354 : Tr sc d 259 (354, [l0, l1, l2, some (.int x)], [.ref k2, .ref k1, .int i0], h) Q = Tr sc d 259 (355, [l0, l1, l2, some (.int x)], [.int x, .ref k2, .ref k1, .int i0], h) Q := t_iload_n k_259_354 rfl
theorem k_259_355 : lk 259 355 = some (.iconst 1, 356, 0, 0, .int 1) := by decide +kernel
theorem x_259_355 : Tr sc d 259 (355, [l0, l1, l2, l3], [.int i3, .ref k2, .ref k1, .int i0], h) Q = Tr sc d 259 (356, [l0, l1, l2, l3], [.int 1, .int i3, .ref k2, .ref k1, .int i0], h) Q := t_go k_259_355 rfl
theorem k_259_356 : lk 259 356 = some (.iadd, 357, 0, 0, .null) := by decide +kernel
theorem x_259_356 : Tr sc d 259 (356, [l0, l1, l2, l3], [.int i4, .int i3, .ref k2, .ref k1, .int i0], h) Q = Tr sc d 259 (357, [l0, l1, l2, l3], [.int (i3 + i4), .ref k2, .ref k1, .int i0], h) Q := t_go k_259_356 rfl
theorem k_259_357 : lk 259 357 = some (.iaload, 358, 0, 0, .null) := by decide +kernel
theorem x_259_357 : Tr sc d 259 (357, [l0, l1, l2, l3], [.int i3, .ref k2, .ref k1, .int i0], h) Q = (iOk sc h k2 i3 ∧ Tr sc d 259 (358, [l0, l1, l2, l3], [.int (iRd sc h k2 i3), .ref k1, .int i0], h) Q) := t_iald k_259_357
theorem k_259_358 : lk 259 358 = some (.aload_n 0, 359, 0, 0, .null) := by decide +kernel
theorem x_259_358 : Tr sc d 259 (358, [some (.ref xk), l1, l2, l3], [.int i2, .ref k1, .int i0], h) Q = Tr sc d 259 (359, [some (.ref xk), l1, l2, l3], [.ref xk, .int i2, .ref k1, .int i0], h) Q := t_aload_n k_259_358 rfl
theorem k_259_359 : lk 259 359 = some (.iload_n 3, 360, 3, 0, .null) := by decide +kernel
theorem x_259_359 : Tr sc d 259 (359, [l0, l1, l2, some (.int x)], [.ref k3, .int i2, .ref k1, .int i0], h) Q = Tr sc d 259 (360, [l0, l1, l2, some (.int x)], [.int x, .ref k3, .int i2, .ref k1, .int i0], h) Q := t_iload_n k_259_359 rfl
theorem k_259_360 : lk 259 360 = some (.iconst 2, 361, 0, 0, .int 2) := by decide +kernel
theorem x_259_360 : Tr sc d 259 (360, [l0, l1, l2, l3], [.int i4, .ref k3, .int i2, .ref k1, .int i0], h) Q = Tr sc d 259 (361, [l0, l1, l2, l3], [.int 2, .int i4, .ref k3, .int i2, .ref k1, .int i0], h) Q := t_go k_259_360 rfl
theorem k_259_361 : lk 259 361 = some (.iadd, 362, 0, 0, .null) := by decide +kernel
theorem x_259_361 : Tr sc d 259 (361, [l0, l1, l2, l3], [.int i5, .int i4, .ref k3, .int i2, .ref k1, .int i0], h) Q = Tr sc d 259 (362, [l0, l1, l2, l3], [.int (i4 + i5), .ref k3, .int i2, .ref k1, .int i0], h) Q := t_go k_259_361 rfl
theorem k_259_362 : lk 259 362 = some (.iaload, 363, 0, 0, .null) := by decide +kernel
theorem x_259_362 : Tr sc d 259 (362, [l0, l1, l2, l3], [.int i4, .ref k3, .int i2, .ref k1, .int i0], h) Q = (iOk sc h k3 i4 ∧ Tr sc d 259 (363, [l0, l1, l2, l3], [.int (iRd sc h k3 i4), .int i2, .ref k1, .int i0], h) Q) := t_iald k_259_362
theorem k_259_363 : lk 259 363 = some (.aload_n 0, 364, 0, 0, .null) := by decide +kernel
theorem x_259_363 : Tr sc d 259 (363, [some (.ref xk), l1, l2, l3], [.int i3, .int i2, .ref k1, .int i0], h) Q = Tr sc d 259 (364, [some (.ref xk), l1, l2, l3], [.ref xk, .int i3, .int i2, .ref k1, .int i0], h) Q := t_aload_n k_259_363 rfl
theorem k_259_364 : lk 259 364 = some (.iload_n 3, 365, 3, 0, .null) := by decide +kernel
theorem x_259_364 : Tr sc d 259 (364, [l0, l1, l2, some (.int x)], [.ref k4, .int i3, .int i2, .ref k1, .int i0], h) Q = Tr sc d 259 (365, [l0, l1, l2, some (.int x)], [.int x, .ref k4, .int i3, .int i2, .ref k1, .int i0], h) Q := t_iload_n k_259_364 rfl
theorem k_259_365 : lk 259 365 = some (.iconst 3, 366, 0, 0, .int 3) := by decide +kernel
theorem x_259_365 : Tr sc d 259 (365, [l0, l1, l2, l3], [.int i5, .ref k4, .int i3, .int i2, .ref k1, .int i0], h) Q = Tr sc d 259 (366, [l0, l1, l2, l3], [.int 3, .int i5, .ref k4, .int i3, .int i2, .ref k1, .int i0], h) Q := t_go k_259_365 rfl
theorem k_259_366 : lk 259 366 = some (.iadd, 367, 0, 0, .null) := by decide +kernel
theorem x_259_366 : Tr sc d 259 (366, [l0, l1, l2, l3], [.int i6, .int i5, .ref k4, .int i3, .int i2, .ref k1, .int i0], h) Q = Tr sc d 259 (367, [l0, l1, l2, l3], [.int (i5 + i6), .ref k4, .int i3, .int i2, .ref k1, .int i0], h) Q := t_go k_259_366 rfl
theorem k_259_367 : lk 259 367 = some (.iaload, 368, 0, 0, .null) := by decide +kernel
theorem x_259_367 : Tr sc d 259 (367, [l0, l1, l2, l3], [.int i5, .ref k4, .int i3, .int i2, .ref k1, .int i0], h) Q = (iOk sc h k4 i5 ∧ Tr sc d 259 (368, [l0, l1, l2, l3], [.int (iRd sc h k4 i5), .int i3, .int i2, .ref k1, .int i0], h) Q) := t_iald k_259_367
theorem k_259_368 : lk 259 368 = some (.aload_n 0, 369, 0, 0, .null) := by decide +kernel
theorem x_259_368 : Tr sc d 259 (368, [some (.ref xk), l1, l2, l3], [.int i4, .int i3, .int i2, .ref k1, .int i0], h) Q = Tr sc d 259 (369, [some (.ref xk), l1, l2, l3], [.ref xk, .int i4, .int i3, .int i2, .ref k1, .int i0], h) Q := t_aload_n k_259_368 rfl
theorem k_259_369 : lk 259 369 = some (.iload_n 3, 370, 3, 0, .null) := by decide +kernel
theorem x_259_369 : Tr sc d 259 (369, [l0, l1, l2, some (.int x)], [.ref k5, .int i4, .int i3, .int i2, .ref k1, .int i0], h) Q = Tr sc d 259 (370, [l0, l1, l2, some (.int x)], [.int x, .ref k5, .int i4, .int i3, .int i2, .ref k1, .int i0], h) Q := t_iload_n k_259_369 rfl
theorem k_259_370 : lk 259 370 = some (.iconst 4, 371, 0, 0, .int 4) := by decide +kernel
theorem x_259_370 : Tr sc d 259 (370, [l0, l1, l2, l3], [.int i6, .ref k5, .int i4, .int i3, .int i2, .ref k1, .int i0], h) Q = Tr sc d 259 (371, [l0, l1, l2, l3], [.int 4, .int i6, .ref k5, .int i4, .int i3, .int i2, .ref k1, .int i0], h) Q := t_go k_259_370 rfl
theorem k_259_371 : lk 259 371 = some (.iadd, 372, 0, 0, .null) := by decide +kernel
theorem x_259_371 : Tr sc d 259 (371, [l0, l1, l2, l3], [.int i7, .int i6, .ref k5, .int i4, .int i3, .int i2, .ref k1, .int i0], h) Q = Tr sc d 259 (372, [l0, l1, l2, l3], [.int (i6 + i7), .ref k5, .int i4, .int i3, .int i2, .ref k1, .int i0], h) Q := t_go k_259_371 rfl
theorem k_259_372 : lk 259 372 = some (.iaload, 373, 0, 0, .null) := by decide +kernel
theorem x_259_372 : Tr sc d 259 (372, [l0, l1, l2, l3], [.int i6, .ref k5, .int i4, .int i3, .int i2, .ref k1, .int i0], h) Q = (iOk sc h k5 i6 ∧ Tr sc d 259 (373, [l0, l1, l2, l3], [.int (iRd sc h k5 i6), .int i4, .int i3, .int i2, .ref k1, .int i0], h) Q) := t_iald k_259_372
theorem k_259_373 : lk 259 373 = some (.aload_n 0, 374, 0, 0, .null) := by decide +kernel
theorem x_259_373 : Tr sc d 259 (373, [some (.ref xk), l1, l2, l3], [.int i5, .int i4, .int i3, .int i2, .ref k1, .int i0], h) Q = Tr sc d 259 (374, [some (.ref xk), l1, l2, l3], [.ref xk, .int i5, .int i4, .int i3, .int i2, .ref k1, .int i0], h) Q := t_aload_n k_259_373 rfl
theorem k_259_374 : lk 259 374 = some (.iload_n 3, 375, 3, 0, .null) := by decide +kernel
theorem x_259_374 : Tr sc d 259 (374, [l0, l1, l2, some (.int x)], [.ref k6, .int i5, .int i4, .int i3, .int i2, .ref k1, .int i0], h) Q = Tr sc d 259 (375, [l0, l1, l2, some (.int x)], [.int x, .ref k6, .int i5, .int i4, .int i3, .int i2, .ref k1, .int i0], h) Q := t_iload_n k_259_374 rfl
theorem k_259_375 : lk 259 375 = some (.iconst 5, 376, 0, 0, .int 5) := by decide +kernel
theorem x_259_375 : Tr sc d 259 (375, [l0, l1, l2, l3], [.int i7, .ref k6, .int i5, .int i4, .int i3, .int i2, .ref k1, .int i0], h) Q = Tr sc d 259 (376, [l0, l1, l2, l3], [.int 5, .int i7, .ref k6, .int i5, .int i4, .int i3, .int i2, .ref k1, .int i0], h) Q := t_go k_259_375 rfl
theorem k_259_376 : lk 259 376 = some (.iadd, 377, 0, 0, .null) := by decide +kernel
theorem x_259_376 : Tr sc d 259 (376, [l0, l1, l2, l3], [.int i8, .int i7, .ref k6, .int i5, .int i4, .int i3, .int i2, .ref k1, .int i0], h) Q = Tr sc d 259 (377, [l0, l1, l2, l3], [.int (i7 + i8), .ref k6, .int i5, .int i4, .int i3, .int i2, .ref k1, .int i0], h) Q := t_go k_259_376 rfl
theorem k_259_377 : lk 259 377 = some (.iaload, 378, 0, 0, .null) := by decide +kernel
theorem x_259_377 : Tr sc d 259 (377, [l0, l1, l2, l3], [.int i7, .ref k6, .int i5, .int i4, .int i3, .int i2, .ref k1, .int i0], h) Q = (iOk sc h k6 i7 ∧ Tr sc d 259 (378, [l0, l1, l2, l3], [.int (iRd sc h k6 i7), .int i5, .int i4, .int i3, .int i2, .ref k1, .int i0], h) Q) := t_iald k_259_377
theorem k_259_378 : lk 259 378 = some (.invokevirtual 32, 381, 168, 5, .null) := by decide +kernel
theorem x_259_378 : Tr sc (d + 1) 259 (378, [l0, l1, l2, l3], [.int i6, .int i5, .int i4, .int i3, .int i2, .ref k1, .int i0], h) Q = (okp h k1 10 = true ∧ Tr sc d 168 (ent0 168 [.ref k1, .int i2, .int i3, .int i4, .int i5, .int i6] h) (fun z => Tr sc (d + 1) 259 (381, [l0, l1, l2, l3], z.1.toList ++ [.int i0], z.2) Q)) := t_cv (as := [.int i2, .int i3, .int i4, .int i5, .int i6]) (r := [.int i0]) k_259_378 rfl rfl (Nat.le_of_ble_eq_true rfl) (Nat.le_of_ble_eq_true rfl) (Nat.le_of_ble_eq_true rfl)
theorem k_259_381 : lk 259 381 = some (.if_icmp .eq 1367, 384, 1748, 0, .null) := by decide +kernel
theorem x_259_381 : Tr sc d 259 (381, [l0, l1, l2, l3], [.int i1, .int i0], h) Q = if i0 = i1 then Tr sc d 259 (1748, [l0, l1, l2, l3], [], h) Q else Tr sc d 259 (384, [l0, l1, l2, l3], [], h) Q := t_if k_259_381 rfl
theorem k_259_384 : lk 259 384 = some (.iconst 0, 385, 0, 0, .int 0) := by decide +kernel
theorem x_259_384 : Tr sc d 259 (384, [l0, l1, l2, l3], [], h) Q = Tr sc d 259 (385, [l0, l1, l2, l3], [.int 0], h) Q := t_go k_259_384 rfl
theorem k_259_385 : lk 259 385 = some (.ireturn, 386, 0, 0, .null) := by decide +kernel
theorem x_259_385 : Tr sc d 259 (385, [l0, l1, l2, l3], [.int i0], h) Q = (vp_nar .boolean i0 = i0 ∧ Q (some (.int i0), h)) := t_zret k_259_385 r_259
theorem k_259_386 : lk 259 386 = some (.aload_n 1, 387, 1, 0, .null) := by decide +kernel
theorem x_259_386 : Tr sc d 259 (386, [l0, some (.ref xk), l2, l3], [], h) Q = Tr sc d 259 (387, [l0, some (.ref xk), l2, l3], [.ref xk], h) Q := t_aload_n k_259_386 rfl
theorem k_259_387 : lk 259 387 = some (.aload_n 0, 388, 0, 0, .null) := by decide +kernel
theorem x_259_387 : Tr sc d 259 (387, [some (.ref xk), l1, l2, l3], [.ref k0], h) Q = Tr sc d 259 (388, [some (.ref xk), l1, l2, l3], [.ref xk, .ref k0], h) Q := t_aload_n k_259_387 rfl
theorem k_259_388 : lk 259 388 = some (.iload_n 3, 389, 3, 0, .null) := by decide +kernel
theorem x_259_388 : Tr sc d 259 (388, [l0, l1, l2, some (.int x)], [.ref k1, .ref k0], h) Q = Tr sc d 259 (389, [l0, l1, l2, some (.int x)], [.int x, .ref k1, .ref k0], h) Q := t_iload_n k_259_388 rfl
theorem k_259_389 : lk 259 389 = some (.iconst 1, 390, 0, 0, .int 1) := by decide +kernel
theorem x_259_389 : Tr sc d 259 (389, [l0, l1, l2, l3], [.int i2, .ref k1, .ref k0], h) Q = Tr sc d 259 (390, [l0, l1, l2, l3], [.int 1, .int i2, .ref k1, .ref k0], h) Q := t_go k_259_389 rfl
theorem k_259_390 : lk 259 390 = some (.iadd, 391, 0, 0, .null) := by decide +kernel
theorem x_259_390 : Tr sc d 259 (390, [l0, l1, l2, l3], [.int i3, .int i2, .ref k1, .ref k0], h) Q = Tr sc d 259 (391, [l0, l1, l2, l3], [.int (i2 + i3), .ref k1, .ref k0], h) Q := t_go k_259_390 rfl
theorem k_259_391 : lk 259 391 = some (.iaload, 392, 0, 0, .null) := by decide +kernel
theorem x_259_391 : Tr sc d 259 (391, [l0, l1, l2, l3], [.int i2, .ref k1, .ref k0], h) Q = (iOk sc h k1 i2 ∧ Tr sc d 259 (392, [l0, l1, l2, l3], [.int (iRd sc h k1 i2), .ref k0], h) Q) := t_iald k_259_391
theorem k_259_392 : lk 259 392 = some (.invokevirtual 33, 395, 101, 1, .null) := by decide +kernel
theorem x_259_392 : Tr sc (d + 1) 259 (392, [l0, l1, l2, l3], [.int i1, .ref k0], h) Q = (okp h k0 9 = true ∧ Tr sc d 101 (ent0 101 [.ref k0, .int i1] h) (fun z => Tr sc (d + 1) 259 (395, [l0, l1, l2, l3], z.1.toList ++ [], z.2) Q)) := t_cv (as := [.int i1]) (r := []) k_259_392 rfl rfl (Nat.le_of_ble_eq_true rfl) (Nat.le_of_ble_eq_true rfl) (Nat.le_of_ble_eq_true rfl)
theorem k_259_395 : lk 259 395 = some (.aload_n 2, 396, 2, 0, .null) := by decide +kernel
theorem x_259_395 : Tr sc d 259 (395, [l0, l1, some (.ref xk), l3], [.int i0], h) Q = Tr sc d 259 (396, [l0, l1, some (.ref xk), l3], [.ref xk, .int i0], h) Q := t_aload_n k_259_395 rfl
theorem k_259_396 : lk 259 396 = some (.aload_n 0, 397, 0, 0, .null) := by decide +kernel
theorem x_259_396 : Tr sc d 259 (396, [some (.ref xk), l1, l2, l3], [.ref k1, .int i0], h) Q = Tr sc d 259 (397, [some (.ref xk), l1, l2, l3], [.ref xk, .ref k1, .int i0], h) Q := t_aload_n k_259_396 rfl
theorem k_259_397 : lk 259 397 = some (.iload_n 3, 398, 3, 0, .null) := by decide +kernel
theorem x_259_397 : Tr sc d 259 (397, [l0, l1, l2, some (.int x)], [.ref k2, .ref k1, .int i0], h) Q = Tr sc d 259 (398, [l0, l1, l2, some (.int x)], [.int x, .ref k2, .ref k1, .int i0], h) Q := t_iload_n k_259_397 rfl
theorem k_259_398 : lk 259 398 = some (.iconst 1, 399, 0, 0, .int 1) := by decide +kernel
theorem x_259_398 : Tr sc d 259 (398, [l0, l1, l2, l3], [.int i3, .ref k2, .ref k1, .int i0], h) Q = Tr sc d 259 (399, [l0, l1, l2, l3], [.int 1, .int i3, .ref k2, .ref k1, .int i0], h) Q := t_go k_259_398 rfl
theorem k_259_399 : lk 259 399 = some (.iadd, 400, 0, 0, .null) := by decide +kernel
theorem x_259_399 : Tr sc d 259 (399, [l0, l1, l2, l3], [.int i4, .int i3, .ref k2, .ref k1, .int i0], h) Q = Tr sc d 259 (400, [l0, l1, l2, l3], [.int (i3 + i4), .ref k2, .ref k1, .int i0], h) Q := t_go k_259_399 rfl
theorem k_259_400 : lk 259 400 = some (.iaload, 401, 0, 0, .null) := by decide +kernel
theorem x_259_400 : Tr sc d 259 (400, [l0, l1, l2, l3], [.int i3, .ref k2, .ref k1, .int i0], h) Q = (iOk sc h k2 i3 ∧ Tr sc d 259 (401, [l0, l1, l2, l3], [.int (iRd sc h k2 i3), .ref k1, .int i0], h) Q) := t_iald k_259_400
theorem k_259_401 : lk 259 401 = some (.invokevirtual 36, 404, 169, 1, .null) := by decide +kernel
theorem x_259_401 : Tr sc (d + 1) 259 (401, [l0, l1, l2, l3], [.int i2, .ref k1, .int i0], h) Q = (okp h k1 10 = true ∧ Tr sc d 169 (ent0 169 [.ref k1, .int i2] h) (fun z => Tr sc (d + 1) 259 (404, [l0, l1, l2, l3], z.1.toList ++ [.int i0], z.2) Q)) := t_cv (as := [.int i2]) (r := [.int i0]) k_259_401 rfl rfl (Nat.le_of_ble_eq_true rfl) (Nat.le_of_ble_eq_true rfl) (Nat.le_of_ble_eq_true rfl)
theorem k_259_404 : lk 259 404 = some (.if_icmp .eq 1344, 407, 1748, 0, .null) := by decide +kernel
theorem x_259_404 : Tr sc d 259 (404, [l0, l1, l2, l3], [.int i1, .int i0], h) Q = if i0 = i1 then Tr sc d 259 (1748, [l0, l1, l2, l3], [], h) Q else Tr sc d 259 (407, [l0, l1, l2, l3], [], h) Q := t_if k_259_404 rfl
theorem k_259_407 : lk 259 407 = some (.iconst 0, 408, 0, 0, .int 0) := by decide +kernel
theorem x_259_407 : Tr sc d 259 (407, [l0, l1, l2, l3], [], h) Q = Tr sc d 259 (408, [l0, l1, l2, l3], [.int 0], h) Q := t_go k_259_407 rfl
theorem k_259_408 : lk 259 408 = some (.ireturn, 409, 0, 0, .null) := by decide +kernel
theorem x_259_408 : Tr sc d 259 (408, [l0, l1, l2, l3], [.int i0], h) Q = (vp_nar .boolean i0 = i0 ∧ Q (some (.int i0), h)) := t_zret k_259_408 r_259
theorem k_259_409 : lk 259 409 = some (.aload_n 1, 410, 1, 0, .null) := by decide +kernel
theorem x_259_409 : Tr sc d 259 (409, [l0, some (.ref xk), l2, l3], [], h) Q = Tr sc d 259 (410, [l0, some (.ref xk), l2, l3], [.ref xk], h) Q := t_aload_n k_259_409 rfl
theorem k_259_410 : lk 259 410 = some (.aload_n 0, 411, 0, 0, .null) := by decide +kernel
theorem x_259_410 : Tr sc d 259 (410, [some (.ref xk), l1, l2, l3], [.ref k0], h) Q = Tr sc d 259 (411, [some (.ref xk), l1, l2, l3], [.ref xk, .ref k0], h) Q := t_aload_n k_259_410 rfl
theorem k_259_411 : lk 259 411 = some (.iload_n 3, 412, 3, 0, .null) := by decide +kernel
theorem x_259_411 : Tr sc d 259 (411, [l0, l1, l2, some (.int x)], [.ref k1, .ref k0], h) Q = Tr sc d 259 (412, [l0, l1, l2, some (.int x)], [.int x, .ref k1, .ref k0], h) Q := t_iload_n k_259_411 rfl
theorem k_259_412 : lk 259 412 = some (.iconst 1, 413, 0, 0, .int 1) := by decide +kernel
theorem x_259_412 : Tr sc d 259 (412, [l0, l1, l2, l3], [.int i2, .ref k1, .ref k0], h) Q = Tr sc d 259 (413, [l0, l1, l2, l3], [.int 1, .int i2, .ref k1, .ref k0], h) Q := t_go k_259_412 rfl
theorem k_259_413 : lk 259 413 = some (.iadd, 414, 0, 0, .null) := by decide +kernel
theorem x_259_413 : Tr sc d 259 (413, [l0, l1, l2, l3], [.int i3, .int i2, .ref k1, .ref k0], h) Q = Tr sc d 259 (414, [l0, l1, l2, l3], [.int (i2 + i3), .ref k1, .ref k0], h) Q := t_go k_259_413 rfl
theorem k_259_414 : lk 259 414 = some (.iaload, 415, 0, 0, .null) := by decide +kernel
theorem x_259_414 : Tr sc d 259 (414, [l0, l1, l2, l3], [.int i2, .ref k1, .ref k0], h) Q = (iOk sc h k1 i2 ∧ Tr sc d 259 (415, [l0, l1, l2, l3], [.int (iRd sc h k1 i2), .ref k0], h) Q) := t_iald k_259_414
theorem k_259_415 : lk 259 415 = some (.aload_n 0, 416, 0, 0, .null) := by decide +kernel
theorem x_259_415 : Tr sc d 259 (415, [some (.ref xk), l1, l2, l3], [.int i1, .ref k0], h) Q = Tr sc d 259 (416, [some (.ref xk), l1, l2, l3], [.ref xk, .int i1, .ref k0], h) Q := t_aload_n k_259_415 rfl
theorem k_259_416 : lk 259 416 = some (.iload_n 3, 417, 3, 0, .null) := by decide +kernel
theorem x_259_416 : Tr sc d 259 (416, [l0, l1, l2, some (.int x)], [.ref k2, .int i1, .ref k0], h) Q = Tr sc d 259 (417, [l0, l1, l2, some (.int x)], [.int x, .ref k2, .int i1, .ref k0], h) Q := t_iload_n k_259_416 rfl
theorem k_259_417 : lk 259 417 = some (.iconst 2, 418, 0, 0, .int 2) := by decide +kernel
theorem x_259_417 : Tr sc d 259 (417, [l0, l1, l2, l3], [.int i3, .ref k2, .int i1, .ref k0], h) Q = Tr sc d 259 (418, [l0, l1, l2, l3], [.int 2, .int i3, .ref k2, .int i1, .ref k0], h) Q := t_go k_259_417 rfl
theorem k_259_418 : lk 259 418 = some (.iadd, 419, 0, 0, .null) := by decide +kernel
theorem x_259_418 : Tr sc d 259 (418, [l0, l1, l2, l3], [.int i4, .int i3, .ref k2, .int i1, .ref k0], h) Q = Tr sc d 259 (419, [l0, l1, l2, l3], [.int (i3 + i4), .ref k2, .int i1, .ref k0], h) Q := t_go k_259_418 rfl
theorem k_259_419 : lk 259 419 = some (.iaload, 420, 0, 0, .null) := by decide +kernel
theorem x_259_419 : Tr sc d 259 (419, [l0, l1, l2, l3], [.int i3, .ref k2, .int i1, .ref k0], h) Q = (iOk sc h k2 i3 ∧ Tr sc d 259 (420, [l0, l1, l2, l3], [.int (iRd sc h k2 i3), .int i1, .ref k0], h) Q) := t_iald k_259_419
theorem k_259_420 : lk 259 420 = some (.invokevirtual 37, 423, 102, 2, .null) := by decide +kernel
theorem x_259_420 : Tr sc (d + 1) 259 (420, [l0, l1, l2, l3], [.int i2, .int i1, .ref k0], h) Q = (okp h k0 9 = true ∧ Tr sc d 102 (ent0 102 [.ref k0, .int i1, .int i2] h) (fun z => Tr sc (d + 1) 259 (423, [l0, l1, l2, l3], z.1.toList ++ [], z.2) Q)) := t_cv (as := [.int i1, .int i2]) (r := []) k_259_420 rfl rfl (Nat.le_of_ble_eq_true rfl) (Nat.le_of_ble_eq_true rfl) (Nat.le_of_ble_eq_true rfl)
theorem k_259_423 : lk 259 423 = some (.aload_n 2, 424, 2, 0, .null) := by decide +kernel
theorem x_259_423 : Tr sc d 259 (423, [l0, l1, some (.ref xk), l3], [.int i0], h) Q = Tr sc d 259 (424, [l0, l1, some (.ref xk), l3], [.ref xk, .int i0], h) Q := t_aload_n k_259_423 rfl
theorem k_259_424 : lk 259 424 = some (.aload_n 0, 425, 0, 0, .null) := by decide +kernel
theorem x_259_424 : Tr sc d 259 (424, [some (.ref xk), l1, l2, l3], [.ref k1, .int i0], h) Q = Tr sc d 259 (425, [some (.ref xk), l1, l2, l3], [.ref xk, .ref k1, .int i0], h) Q := t_aload_n k_259_424 rfl
theorem k_259_425 : lk 259 425 = some (.iload_n 3, 426, 3, 0, .null) := by decide +kernel
theorem x_259_425 : Tr sc d 259 (425, [l0, l1, l2, some (.int x)], [.ref k2, .ref k1, .int i0], h) Q = Tr sc d 259 (426, [l0, l1, l2, some (.int x)], [.int x, .ref k2, .ref k1, .int i0], h) Q := t_iload_n k_259_425 rfl
theorem k_259_426 : lk 259 426 = some (.iconst 1, 427, 0, 0, .int 1) := by decide +kernel
theorem x_259_426 : Tr sc d 259 (426, [l0, l1, l2, l3], [.int i3, .ref k2, .ref k1, .int i0], h) Q = Tr sc d 259 (427, [l0, l1, l2, l3], [.int 1, .int i3, .ref k2, .ref k1, .int i0], h) Q := t_go k_259_426 rfl
theorem k_259_427 : lk 259 427 = some (.iadd, 428, 0, 0, .null) := by decide +kernel
theorem x_259_427 : Tr sc d 259 (427, [l0, l1, l2, l3], [.int i4, .int i3, .ref k2, .ref k1, .int i0], h) Q = Tr sc d 259 (428, [l0, l1, l2, l3], [.int (i3 + i4), .ref k2, .ref k1, .int i0], h) Q := t_go k_259_427 rfl
theorem k_259_428 : lk 259 428 = some (.iaload, 429, 0, 0, .null) := by decide +kernel
theorem x_259_428 : Tr sc d 259 (428, [l0, l1, l2, l3], [.int i3, .ref k2, .ref k1, .int i0], h) Q = (iOk sc h k2 i3 ∧ Tr sc d 259 (429, [l0, l1, l2, l3], [.int (iRd sc h k2 i3), .ref k1, .int i0], h) Q) := t_iald k_259_428
theorem k_259_429 : lk 259 429 = some (.aload_n 0, 430, 0, 0, .null) := by decide +kernel
theorem x_259_429 : Tr sc d 259 (429, [some (.ref xk), l1, l2, l3], [.int i2, .ref k1, .int i0], h) Q = Tr sc d 259 (430, [some (.ref xk), l1, l2, l3], [.ref xk, .int i2, .ref k1, .int i0], h) Q := t_aload_n k_259_429 rfl
theorem k_259_430 : lk 259 430 = some (.iload_n 3, 431, 3, 0, .null) := by decide +kernel
theorem x_259_430 : Tr sc d 259 (430, [l0, l1, l2, some (.int x)], [.ref k3, .int i2, .ref k1, .int i0], h) Q = Tr sc d 259 (431, [l0, l1, l2, some (.int x)], [.int x, .ref k3, .int i2, .ref k1, .int i0], h) Q := t_iload_n k_259_430 rfl
theorem k_259_431 : lk 259 431 = some (.iconst 2, 432, 0, 0, .int 2) := by decide +kernel
theorem x_259_431 : Tr sc d 259 (431, [l0, l1, l2, l3], [.int i4, .ref k3, .int i2, .ref k1, .int i0], h) Q = Tr sc d 259 (432, [l0, l1, l2, l3], [.int 2, .int i4, .ref k3, .int i2, .ref k1, .int i0], h) Q := t_go k_259_431 rfl
theorem k_259_432 : lk 259 432 = some (.iadd, 433, 0, 0, .null) := by decide +kernel
theorem x_259_432 : Tr sc d 259 (432, [l0, l1, l2, l3], [.int i5, .int i4, .ref k3, .int i2, .ref k1, .int i0], h) Q = Tr sc d 259 (433, [l0, l1, l2, l3], [.int (i4 + i5), .ref k3, .int i2, .ref k1, .int i0], h) Q := t_go k_259_432 rfl
theorem k_259_433 : lk 259 433 = some (.iaload, 434, 0, 0, .null) := by decide +kernel
theorem x_259_433 : Tr sc d 259 (433, [l0, l1, l2, l3], [.int i4, .ref k3, .int i2, .ref k1, .int i0], h) Q = (iOk sc h k3 i4 ∧ Tr sc d 259 (434, [l0, l1, l2, l3], [.int (iRd sc h k3 i4), .int i2, .ref k1, .int i0], h) Q) := t_iald k_259_433
theorem k_259_434 : lk 259 434 = some (.invokevirtual 40, 437, 170, 2, .null) := by decide +kernel
theorem x_259_434 : Tr sc (d + 1) 259 (434, [l0, l1, l2, l3], [.int i3, .int i2, .ref k1, .int i0], h) Q = (okp h k1 10 = true ∧ Tr sc d 170 (ent0 170 [.ref k1, .int i2, .int i3] h) (fun z => Tr sc (d + 1) 259 (437, [l0, l1, l2, l3], z.1.toList ++ [.int i0], z.2) Q)) := t_cv (as := [.int i2, .int i3]) (r := [.int i0]) k_259_434 rfl rfl (Nat.le_of_ble_eq_true rfl) (Nat.le_of_ble_eq_true rfl) (Nat.le_of_ble_eq_true rfl)
theorem k_259_437 : lk 259 437 = some (.if_icmp .eq 1311, 440, 1748, 0, .null) := by decide +kernel
theorem x_259_437 : Tr sc d 259 (437, [l0, l1, l2, l3], [.int i1, .int i0], h) Q = if i0 = i1 then Tr sc d 259 (1748, [l0, l1, l2, l3], [], h) Q else Tr sc d 259 (440, [l0, l1, l2, l3], [], h) Q := t_if k_259_437 rfl
theorem k_259_440 : lk 259 440 = some (.iconst 0, 441, 0, 0, .int 0) := by decide +kernel
theorem x_259_440 : Tr sc d 259 (440, [l0, l1, l2, l3], [], h) Q = Tr sc d 259 (441, [l0, l1, l2, l3], [.int 0], h) Q := t_go k_259_440 rfl
theorem k_259_441 : lk 259 441 = some (.ireturn, 442, 0, 0, .null) := by decide +kernel
theorem x_259_441 : Tr sc d 259 (441, [l0, l1, l2, l3], [.int i0], h) Q = (vp_nar .boolean i0 = i0 ∧ Q (some (.int i0), h)) := t_zret k_259_441 r_259
theorem k_259_442 : lk 259 442 = some (.aload_n 1, 443, 1, 0, .null) := by decide +kernel
theorem x_259_442 : Tr sc d 259 (442, [l0, some (.ref xk), l2, l3], [], h) Q = Tr sc d 259 (443, [l0, some (.ref xk), l2, l3], [.ref xk], h) Q := t_aload_n k_259_442 rfl
theorem k_259_443 : lk 259 443 = some (.aload_n 0, 444, 0, 0, .null) := by decide +kernel
theorem x_259_443 : Tr sc d 259 (443, [some (.ref xk), l1, l2, l3], [.ref k0], h) Q = Tr sc d 259 (444, [some (.ref xk), l1, l2, l3], [.ref xk, .ref k0], h) Q := t_aload_n k_259_443 rfl
theorem k_259_444 : lk 259 444 = some (.iload_n 3, 445, 3, 0, .null) := by decide +kernel
theorem x_259_444 : Tr sc d 259 (444, [l0, l1, l2, some (.int x)], [.ref k1, .ref k0], h) Q = Tr sc d 259 (445, [l0, l1, l2, some (.int x)], [.int x, .ref k1, .ref k0], h) Q := t_iload_n k_259_444 rfl
theorem k_259_445 : lk 259 445 = some (.iconst 1, 446, 0, 0, .int 1) := by decide +kernel
theorem x_259_445 : Tr sc d 259 (445, [l0, l1, l2, l3], [.int i2, .ref k1, .ref k0], h) Q = Tr sc d 259 (446, [l0, l1, l2, l3], [.int 1, .int i2, .ref k1, .ref k0], h) Q := t_go k_259_445 rfl
theorem k_259_446 : lk 259 446 = some (.iadd, 447, 0, 0, .null) := by decide +kernel
theorem x_259_446 : Tr sc d 259 (446, [l0, l1, l2, l3], [.int i3, .int i2, .ref k1, .ref k0], h) Q = Tr sc d 259 (447, [l0, l1, l2, l3], [.int (i2 + i3), .ref k1, .ref k0], h) Q := t_go k_259_446 rfl
theorem k_259_447 : lk 259 447 = some (.iaload, 448, 0, 0, .null) := by decide +kernel
theorem x_259_447 : Tr sc d 259 (447, [l0, l1, l2, l3], [.int i2, .ref k1, .ref k0], h) Q = (iOk sc h k1 i2 ∧ Tr sc d 259 (448, [l0, l1, l2, l3], [.int (iRd sc h k1 i2), .ref k0], h) Q) := t_iald k_259_447
theorem k_259_448 : lk 259 448 = some (.aload_n 0, 449, 0, 0, .null) := by decide +kernel
theorem x_259_448 : Tr sc d 259 (448, [some (.ref xk), l1, l2, l3], [.int i1, .ref k0], h) Q = Tr sc d 259 (449, [some (.ref xk), l1, l2, l3], [.ref xk, .int i1, .ref k0], h) Q := t_aload_n k_259_448 rfl
theorem k_259_449 : lk 259 449 = some (.iload_n 3, 450, 3, 0, .null) := by decide +kernel
theorem x_259_449 : Tr sc d 259 (449, [l0, l1, l2, some (.int x)], [.ref k2, .int i1, .ref k0], h) Q = Tr sc d 259 (450, [l0, l1, l2, some (.int x)], [.int x, .ref k2, .int i1, .ref k0], h) Q := t_iload_n k_259_449 rfl
theorem k_259_450 : lk 259 450 = some (.iconst 2, 451, 0, 0, .int 2) := by decide +kernel
theorem x_259_450 : Tr sc d 259 (450, [l0, l1, l2, l3], [.int i3, .ref k2, .int i1, .ref k0], h) Q = Tr sc d 259 (451, [l0, l1, l2, l3], [.int 2, .int i3, .ref k2, .int i1, .ref k0], h) Q := t_go k_259_450 rfl
theorem k_259_451 : lk 259 451 = some (.iadd, 452, 0, 0, .null) := by decide +kernel
theorem x_259_451 : Tr sc d 259 (451, [l0, l1, l2, l3], [.int i4, .int i3, .ref k2, .int i1, .ref k0], h) Q = Tr sc d 259 (452, [l0, l1, l2, l3], [.int (i3 + i4), .ref k2, .int i1, .ref k0], h) Q := t_go k_259_451 rfl
theorem k_259_452 : lk 259 452 = some (.iaload, 453, 0, 0, .null) := by decide +kernel
theorem x_259_452 : Tr sc d 259 (452, [l0, l1, l2, l3], [.int i3, .ref k2, .int i1, .ref k0], h) Q = (iOk sc h k2 i3 ∧ Tr sc d 259 (453, [l0, l1, l2, l3], [.int (iRd sc h k2 i3), .int i1, .ref k0], h) Q) := t_iald k_259_452
theorem k_259_453 : lk 259 453 = some (.aload_n 0, 454, 0, 0, .null) := by decide +kernel
theorem x_259_453 : Tr sc d 259 (453, [some (.ref xk), l1, l2, l3], [.int i2, .int i1, .ref k0], h) Q = Tr sc d 259 (454, [some (.ref xk), l1, l2, l3], [.ref xk, .int i2, .int i1, .ref k0], h) Q := t_aload_n k_259_453 rfl
theorem k_259_454 : lk 259 454 = some (.iload_n 3, 455, 3, 0, .null) := by decide +kernel
theorem x_259_454 : Tr sc d 259 (454, [l0, l1, l2, some (.int x)], [.ref k3, .int i2, .int i1, .ref k0], h) Q = Tr sc d 259 (455, [l0, l1, l2, some (.int x)], [.int x, .ref k3, .int i2, .int i1, .ref k0], h) Q := t_iload_n k_259_454 rfl
theorem k_259_455 : lk 259 455 = some (.iconst 3, 456, 0, 0, .int 3) := by decide +kernel
theorem x_259_455 : Tr sc d 259 (455, [l0, l1, l2, l3], [.int i4, .ref k3, .int i2, .int i1, .ref k0], h) Q = Tr sc d 259 (456, [l0, l1, l2, l3], [.int 3, .int i4, .ref k3, .int i2, .int i1, .ref k0], h) Q := t_go k_259_455 rfl
theorem k_259_456 : lk 259 456 = some (.iadd, 457, 0, 0, .null) := by decide +kernel
theorem x_259_456 : Tr sc d 259 (456, [l0, l1, l2, l3], [.int i5, .int i4, .ref k3, .int i2, .int i1, .ref k0], h) Q = Tr sc d 259 (457, [l0, l1, l2, l3], [.int (i4 + i5), .ref k3, .int i2, .int i1, .ref k0], h) Q := t_go k_259_456 rfl
theorem k_259_457 : lk 259 457 = some (.iaload, 458, 0, 0, .null) := by decide +kernel
theorem x_259_457 : Tr sc d 259 (457, [l0, l1, l2, l3], [.int i4, .ref k3, .int i2, .int i1, .ref k0], h) Q = (iOk sc h k3 i4 ∧ Tr sc d 259 (458, [l0, l1, l2, l3], [.int (iRd sc h k3 i4), .int i2, .int i1, .ref k0], h) Q) := t_iald k_259_457
theorem k_259_458 : lk 259 458 = some (.invokevirtual 41, 461, 103, 3, .null) := by decide +kernel
theorem x_259_458 : Tr sc (d + 1) 259 (458, [l0, l1, l2, l3], [.int i3, .int i2, .int i1, .ref k0], h) Q = (okp h k0 9 = true ∧ Tr sc d 103 (ent0 103 [.ref k0, .int i1, .int i2, .int i3] h) (fun z => Tr sc (d + 1) 259 (461, [l0, l1, l2, l3], z.1.toList ++ [], z.2) Q)) := t_cv (as := [.int i1, .int i2, .int i3]) (r := []) k_259_458 rfl rfl (Nat.le_of_ble_eq_true rfl) (Nat.le_of_ble_eq_true rfl) (Nat.le_of_ble_eq_true rfl)
theorem k_259_461 : lk 259 461 = some (.aload_n 2, 462, 2, 0, .null) := by decide +kernel
theorem x_259_461 : Tr sc d 259 (461, [l0, l1, some (.ref xk), l3], [.int i0], h) Q = Tr sc d 259 (462, [l0, l1, some (.ref xk), l3], [.ref xk, .int i0], h) Q := t_aload_n k_259_461 rfl
theorem k_259_462 : lk 259 462 = some (.aload_n 0, 463, 0, 0, .null) := by decide +kernel
theorem x_259_462 : Tr sc d 259 (462, [some (.ref xk), l1, l2, l3], [.ref k1, .int i0], h) Q = Tr sc d 259 (463, [some (.ref xk), l1, l2, l3], [.ref xk, .ref k1, .int i0], h) Q := t_aload_n k_259_462 rfl
theorem k_259_463 : lk 259 463 = some (.iload_n 3, 464, 3, 0, .null) := by decide +kernel
theorem x_259_463 : Tr sc d 259 (463, [l0, l1, l2, some (.int x)], [.ref k2, .ref k1, .int i0], h) Q = Tr sc d 259 (464, [l0, l1, l2, some (.int x)], [.int x, .ref k2, .ref k1, .int i0], h) Q := t_iload_n k_259_463 rfl
theorem k_259_464 : lk 259 464 = some (.iconst 1, 465, 0, 0, .int 1) := by decide +kernel
theorem x_259_464 : Tr sc d 259 (464, [l0, l1, l2, l3], [.int i3, .ref k2, .ref k1, .int i0], h) Q = Tr sc d 259 (465, [l0, l1, l2, l3], [.int 1, .int i3, .ref k2, .ref k1, .int i0], h) Q := t_go k_259_464 rfl
theorem k_259_465 : lk 259 465 = some (.iadd, 466, 0, 0, .null) := by decide +kernel
theorem x_259_465 : Tr sc d 259 (465, [l0, l1, l2, l3], [.int i4, .int i3, .ref k2, .ref k1, .int i0], h) Q = Tr sc d 259 (466, [l0, l1, l2, l3], [.int (i3 + i4), .ref k2, .ref k1, .int i0], h) Q := t_go k_259_465 rfl
theorem k_259_466 : lk 259 466 = some (.iaload, 467, 0, 0, .null) := by decide +kernel
theorem x_259_466 : Tr sc d 259 (466, [l0, l1, l2, l3], [.int i3, .ref k2, .ref k1, .int i0], h) Q = (iOk sc h k2 i3 ∧ Tr sc d 259 (467, [l0, l1, l2, l3], [.int (iRd sc h k2 i3), .ref k1, .int i0], h) Q) := t_iald k_259_466
theorem k_259_467 : lk 259 467 = some (.aload_n 0, 468, 0, 0, .null) := by decide +kernel
theorem x_259_467 : Tr sc d 259 (467, [some (.ref xk), l1, l2, l3], [.int i2, .ref k1, .int i0], h) Q = Tr sc d 259 (468, [some (.ref xk), l1, l2, l3], [.ref xk, .int i2, .ref k1, .int i0], h) Q := t_aload_n k_259_467 rfl
theorem k_259_468 : lk 259 468 = some (.iload_n 3, 469, 3, 0, .null) := by decide +kernel
theorem x_259_468 : Tr sc d 259 (468, [l0, l1, l2, some (.int x)], [.ref k3, .int i2, .ref k1, .int i0], h) Q = Tr sc d 259 (469, [l0, l1, l2, some (.int x)], [.int x, .ref k3, .int i2, .ref k1, .int i0], h) Q := t_iload_n k_259_468 rfl
theorem k_259_469 : lk 259 469 = some (.iconst 2, 470, 0, 0, .int 2) := by decide +kernel
theorem x_259_469 : Tr sc d 259 (469, [l0, l1, l2, l3], [.int i4, .ref k3, .int i2, .ref k1, .int i0], h) Q = Tr sc d 259 (470, [l0, l1, l2, l3], [.int 2, .int i4, .ref k3, .int i2, .ref k1, .int i0], h) Q := t_go k_259_469 rfl
theorem k_259_470 : lk 259 470 = some (.iadd, 471, 0, 0, .null) := by decide +kernel
theorem x_259_470 : Tr sc d 259 (470, [l0, l1, l2, l3], [.int i5, .int i4, .ref k3, .int i2, .ref k1, .int i0], h) Q = Tr sc d 259 (471, [l0, l1, l2, l3], [.int (i4 + i5), .ref k3, .int i2, .ref k1, .int i0], h) Q := t_go k_259_470 rfl
theorem k_259_471 : lk 259 471 = some (.iaload, 472, 0, 0, .null) := by decide +kernel
theorem x_259_471 : Tr sc d 259 (471, [l0, l1, l2, l3], [.int i4, .ref k3, .int i2, .ref k1, .int i0], h) Q = (iOk sc h k3 i4 ∧ Tr sc d 259 (472, [l0, l1, l2, l3], [.int (iRd sc h k3 i4), .int i2, .ref k1, .int i0], h) Q) := t_iald k_259_471
theorem k_259_472 : lk 259 472 = some (.aload_n 0, 473, 0, 0, .null) := by decide +kernel
theorem x_259_472 : Tr sc d 259 (472, [some (.ref xk), l1, l2, l3], [.int i3, .int i2, .ref k1, .int i0], h) Q = Tr sc d 259 (473, [some (.ref xk), l1, l2, l3], [.ref xk, .int i3, .int i2, .ref k1, .int i0], h) Q := t_aload_n k_259_472 rfl
theorem k_259_473 : lk 259 473 = some (.iload_n 3, 474, 3, 0, .null) := by decide +kernel
theorem x_259_473 : Tr sc d 259 (473, [l0, l1, l2, some (.int x)], [.ref k4, .int i3, .int i2, .ref k1, .int i0], h) Q = Tr sc d 259 (474, [l0, l1, l2, some (.int x)], [.int x, .ref k4, .int i3, .int i2, .ref k1, .int i0], h) Q := t_iload_n k_259_473 rfl
theorem k_259_474 : lk 259 474 = some (.iconst 3, 475, 0, 0, .int 3) := by decide +kernel
theorem x_259_474 : Tr sc d 259 (474, [l0, l1, l2, l3], [.int i5, .ref k4, .int i3, .int i2, .ref k1, .int i0], h) Q = Tr sc d 259 (475, [l0, l1, l2, l3], [.int 3, .int i5, .ref k4, .int i3, .int i2, .ref k1, .int i0], h) Q := t_go k_259_474 rfl
theorem k_259_475 : lk 259 475 = some (.iadd, 476, 0, 0, .null) := by decide +kernel
theorem x_259_475 : Tr sc d 259 (475, [l0, l1, l2, l3], [.int i6, .int i5, .ref k4, .int i3, .int i2, .ref k1, .int i0], h) Q = Tr sc d 259 (476, [l0, l1, l2, l3], [.int (i5 + i6), .ref k4, .int i3, .int i2, .ref k1, .int i0], h) Q := t_go k_259_475 rfl
theorem k_259_476 : lk 259 476 = some (.iaload, 477, 0, 0, .null) := by decide +kernel
theorem x_259_476 : Tr sc d 259 (476, [l0, l1, l2, l3], [.int i5, .ref k4, .int i3, .int i2, .ref k1, .int i0], h) Q = (iOk sc h k4 i5 ∧ Tr sc d 259 (477, [l0, l1, l2, l3], [.int (iRd sc h k4 i5), .int i3, .int i2, .ref k1, .int i0], h) Q) := t_iald k_259_476
theorem k_259_477 : lk 259 477 = some (.invokevirtual 44, 480, 171, 3, .null) := by decide +kernel
theorem x_259_477 : Tr sc (d + 1) 259 (477, [l0, l1, l2, l3], [.int i4, .int i3, .int i2, .ref k1, .int i0], h) Q = (okp h k1 10 = true ∧ Tr sc d 171 (ent0 171 [.ref k1, .int i2, .int i3, .int i4] h) (fun z => Tr sc (d + 1) 259 (480, [l0, l1, l2, l3], z.1.toList ++ [.int i0], z.2) Q)) := t_cv (as := [.int i2, .int i3, .int i4]) (r := [.int i0]) k_259_477 rfl rfl (Nat.le_of_ble_eq_true rfl) (Nat.le_of_ble_eq_true rfl) (Nat.le_of_ble_eq_true rfl)
theorem k_259_480 : lk 259 480 = some (.if_icmp .eq 1268, 483, 1748, 0, .null) := by decide +kernel
theorem x_259_480 : Tr sc d 259 (480, [l0, l1, l2, l3], [.int i1, .int i0], h) Q = if i0 = i1 then Tr sc d 259 (1748, [l0, l1, l2, l3], [], h) Q else Tr sc d 259 (483, [l0, l1, l2, l3], [], h) Q := t_if k_259_480 rfl
theorem k_259_483 : lk 259 483 = some (.iconst 0, 484, 0, 0, .int 0) := by decide +kernel
theorem x_259_483 : Tr sc d 259 (483, [l0, l1, l2, l3], [], h) Q = Tr sc d 259 (484, [l0, l1, l2, l3], [.int 0], h) Q := t_go k_259_483 rfl
theorem k_259_484 : lk 259 484 = some (.ireturn, 485, 0, 0, .null) := by decide +kernel
theorem x_259_484 : Tr sc d 259 (484, [l0, l1, l2, l3], [.int i0], h) Q = (vp_nar .boolean i0 = i0 ∧ Q (some (.int i0), h)) := t_zret k_259_484 r_259
theorem k_259_485 : lk 259 485 = some (.aload_n 1, 486, 1, 0, .null) := by decide +kernel
theorem x_259_485 : Tr sc d 259 (485, [l0, some (.ref xk), l2, l3], [], h) Q = Tr sc d 259 (486, [l0, some (.ref xk), l2, l3], [.ref xk], h) Q := t_aload_n k_259_485 rfl
theorem k_259_486 : lk 259 486 = some (.aload_n 0, 487, 0, 0, .null) := by decide +kernel
theorem x_259_486 : Tr sc d 259 (486, [some (.ref xk), l1, l2, l3], [.ref k0], h) Q = Tr sc d 259 (487, [some (.ref xk), l1, l2, l3], [.ref xk, .ref k0], h) Q := t_aload_n k_259_486 rfl
theorem k_259_487 : lk 259 487 = some (.iload_n 3, 488, 3, 0, .null) := by decide +kernel
theorem x_259_487 : Tr sc d 259 (487, [l0, l1, l2, some (.int x)], [.ref k1, .ref k0], h) Q = Tr sc d 259 (488, [l0, l1, l2, some (.int x)], [.int x, .ref k1, .ref k0], h) Q := t_iload_n k_259_487 rfl
theorem k_259_488 : lk 259 488 = some (.iconst 1, 489, 0, 0, .int 1) := by decide +kernel
theorem x_259_488 : Tr sc d 259 (488, [l0, l1, l2, l3], [.int i2, .ref k1, .ref k0], h) Q = Tr sc d 259 (489, [l0, l1, l2, l3], [.int 1, .int i2, .ref k1, .ref k0], h) Q := t_go k_259_488 rfl
theorem k_259_489 : lk 259 489 = some (.iadd, 490, 0, 0, .null) := by decide +kernel
theorem x_259_489 : Tr sc d 259 (489, [l0, l1, l2, l3], [.int i3, .int i2, .ref k1, .ref k0], h) Q = Tr sc d 259 (490, [l0, l1, l2, l3], [.int (i2 + i3), .ref k1, .ref k0], h) Q := t_go k_259_489 rfl
theorem k_259_490 : lk 259 490 = some (.iaload, 491, 0, 0, .null) := by decide +kernel
theorem x_259_490 : Tr sc d 259 (490, [l0, l1, l2, l3], [.int i2, .ref k1, .ref k0], h) Q = (iOk sc h k1 i2 ∧ Tr sc d 259 (491, [l0, l1, l2, l3], [.int (iRd sc h k1 i2), .ref k0], h) Q) := t_iald k_259_490
theorem k_259_491 : lk 259 491 = some (.invokevirtual 45, 494, 104, 1, .null) := by decide +kernel
theorem x_259_491 : Tr sc (d + 1) 259 (491, [l0, l1, l2, l3], [.int i1, .ref k0], h) Q = (okp h k0 9 = true ∧ Tr sc d 104 (ent0 104 [.ref k0, .int i1] h) (fun z => Tr sc (d + 1) 259 (494, [l0, l1, l2, l3], z.1.toList ++ [], z.2) Q)) := t_cv (as := [.int i1]) (r := []) k_259_491 rfl rfl (Nat.le_of_ble_eq_true rfl) (Nat.le_of_ble_eq_true rfl) (Nat.le_of_ble_eq_true rfl)
theorem k_259_494 : lk 259 494 = some (.aload_n 2, 495, 2, 0, .null) := by decide +kernel
theorem x_259_494 : Tr sc d 259 (494, [l0, l1, some (.ref xk), l3], [.int i0], h) Q = Tr sc d 259 (495, [l0, l1, some (.ref xk), l3], [.ref xk, .int i0], h) Q := t_aload_n k_259_494 rfl
theorem k_259_495 : lk 259 495 = some (.aload_n 0, 496, 0, 0, .null) := by decide +kernel
theorem x_259_495 : Tr sc d 259 (495, [some (.ref xk), l1, l2, l3], [.ref k1, .int i0], h) Q = Tr sc d 259 (496, [some (.ref xk), l1, l2, l3], [.ref xk, .ref k1, .int i0], h) Q := t_aload_n k_259_495 rfl
theorem k_259_496 : lk 259 496 = some (.iload_n 3, 497, 3, 0, .null) := by decide +kernel
theorem x_259_496 : Tr sc d 259 (496, [l0, l1, l2, some (.int x)], [.ref k2, .ref k1, .int i0], h) Q = Tr sc d 259 (497, [l0, l1, l2, some (.int x)], [.int x, .ref k2, .ref k1, .int i0], h) Q := t_iload_n k_259_496 rfl
theorem k_259_497 : lk 259 497 = some (.iconst 1, 498, 0, 0, .int 1) := by decide +kernel
theorem x_259_497 : Tr sc d 259 (497, [l0, l1, l2, l3], [.int i3, .ref k2, .ref k1, .int i0], h) Q = Tr sc d 259 (498, [l0, l1, l2, l3], [.int 1, .int i3, .ref k2, .ref k1, .int i0], h) Q := t_go k_259_497 rfl
theorem k_259_498 : lk 259 498 = some (.iadd, 499, 0, 0, .null) := by decide +kernel
theorem x_259_498 : Tr sc d 259 (498, [l0, l1, l2, l3], [.int i4, .int i3, .ref k2, .ref k1, .int i0], h) Q = Tr sc d 259 (499, [l0, l1, l2, l3], [.int (i3 + i4), .ref k2, .ref k1, .int i0], h) Q := t_go k_259_498 rfl
theorem k_259_499 : lk 259 499 = some (.iaload, 500, 0, 0, .null) := by decide +kernel
theorem x_259_499 : Tr sc d 259 (499, [l0, l1, l2, l3], [.int i3, .ref k2, .ref k1, .int i0], h) Q = (iOk sc h k2 i3 ∧ Tr sc d 259 (500, [l0, l1, l2, l3], [.int (iRd sc h k2 i3), .ref k1, .int i0], h) Q) := t_iald k_259_499
theorem k_259_500 : lk 259 500 = some (.invokevirtual 48, 503, 175, 1, .null) := by decide +kernel
theorem x_259_500 : Tr sc (d + 1) 259 (500, [l0, l1, l2, l3], [.int i2, .ref k1, .int i0], h) Q = (okp h k1 10 = true ∧ Tr sc d 175 (ent0 175 [.ref k1, .int i2] h) (fun z => Tr sc (d + 1) 259 (503, [l0, l1, l2, l3], z.1.toList ++ [.int i0], z.2) Q)) := t_cv (as := [.int i2]) (r := [.int i0]) k_259_500 rfl rfl (Nat.le_of_ble_eq_true rfl) (Nat.le_of_ble_eq_true rfl) (Nat.le_of_ble_eq_true rfl)
theorem k_259_503 : lk 259 503 = some (.if_icmp .eq 1245, 506, 1748, 0, .null) := by decide +kernel
theorem x_259_503 : Tr sc d 259 (503, [l0, l1, l2, l3], [.int i1, .int i0], h) Q = if i0 = i1 then Tr sc d 259 (1748, [l0, l1, l2, l3], [], h) Q else Tr sc d 259 (506, [l0, l1, l2, l3], [], h) Q := t_if k_259_503 rfl
theorem k_259_506 : lk 259 506 = some (.iconst 0, 507, 0, 0, .int 0) := by decide +kernel
theorem x_259_506 : Tr sc d 259 (506, [l0, l1, l2, l3], [], h) Q = Tr sc d 259 (507, [l0, l1, l2, l3], [.int 0], h) Q := t_go k_259_506 rfl
theorem k_259_507 : lk 259 507 = some (.ireturn, 508, 0, 0, .null) := by decide +kernel
theorem x_259_507 : Tr sc d 259 (507, [l0, l1, l2, l3], [.int i0], h) Q = (vp_nar .boolean i0 = i0 ∧ Q (some (.int i0), h)) := t_zret k_259_507 r_259
theorem k_259_508 : lk 259 508 = some (.aload_n 1, 509, 1, 0, .null) := by decide +kernel
theorem x_259_508 : Tr sc d 259 (508, [l0, some (.ref xk), l2, l3], [], h) Q = Tr sc d 259 (509, [l0, some (.ref xk), l2, l3], [.ref xk], h) Q := t_aload_n k_259_508 rfl
theorem k_259_509 : lk 259 509 = some (.aload_n 0, 510, 0, 0, .null) := by decide +kernel
theorem x_259_509 : Tr sc d 259 (509, [some (.ref xk), l1, l2, l3], [.ref k0], h) Q = Tr sc d 259 (510, [some (.ref xk), l1, l2, l3], [.ref xk, .ref k0], h) Q := t_aload_n k_259_509 rfl
theorem k_259_510 : lk 259 510 = some (.iload_n 3, 511, 3, 0, .null) := by decide +kernel
theorem x_259_510 : Tr sc d 259 (510, [l0, l1, l2, some (.int x)], [.ref k1, .ref k0], h) Q = Tr sc d 259 (511, [l0, l1, l2, some (.int x)], [.int x, .ref k1, .ref k0], h) Q := t_iload_n k_259_510 rfl
theorem k_259_511 : lk 259 511 = some (.iconst 1, 512, 0, 0, .int 1) := by decide +kernel
theorem x_259_511 : Tr sc d 259 (511, [l0, l1, l2, l3], [.int i2, .ref k1, .ref k0], h) Q = Tr sc d 259 (512, [l0, l1, l2, l3], [.int 1, .int i2, .ref k1, .ref k0], h) Q := t_go k_259_511 rfl
theorem k_259_512 : lk 259 512 = some (.iadd, 513, 0, 0, .null) := by decide +kernel
theorem x_259_512 : Tr sc d 259 (512, [l0, l1, l2, l3], [.int i3, .int i2, .ref k1, .ref k0], h) Q = Tr sc d 259 (513, [l0, l1, l2, l3], [.int (i2 + i3), .ref k1, .ref k0], h) Q := t_go k_259_512 rfl
theorem k_259_513 : lk 259 513 = some (.iaload, 514, 0, 0, .null) := by decide +kernel
theorem x_259_513 : Tr sc d 259 (513, [l0, l1, l2, l3], [.int i2, .ref k1, .ref k0], h) Q = (iOk sc h k1 i2 ∧ Tr sc d 259 (514, [l0, l1, l2, l3], [.int (iRd sc h k1 i2), .ref k0], h) Q) := t_iald k_259_513
theorem k_259_514 : lk 259 514 = some (.aload_n 0, 515, 0, 0, .null) := by decide +kernel
theorem x_259_514 : Tr sc d 259 (514, [some (.ref xk), l1, l2, l3], [.int i1, .ref k0], h) Q = Tr sc d 259 (515, [some (.ref xk), l1, l2, l3], [.ref xk, .int i1, .ref k0], h) Q := t_aload_n k_259_514 rfl
theorem k_259_515 : lk 259 515 = some (.iload_n 3, 516, 3, 0, .null) := by decide +kernel
theorem x_259_515 : Tr sc d 259 (515, [l0, l1, l2, some (.int x)], [.ref k2, .int i1, .ref k0], h) Q = Tr sc d 259 (516, [l0, l1, l2, some (.int x)], [.int x, .ref k2, .int i1, .ref k0], h) Q := t_iload_n k_259_515 rfl
theorem k_259_516 : lk 259 516 = some (.iconst 2, 517, 0, 0, .int 2) := by decide +kernel
theorem x_259_516 : Tr sc d 259 (516, [l0, l1, l2, l3], [.int i3, .ref k2, .int i1, .ref k0], h) Q = Tr sc d 259 (517, [l0, l1, l2, l3], [.int 2, .int i3, .ref k2, .int i1, .ref k0], h) Q := t_go k_259_516 rfl
theorem k_259_517 : lk 259 517 = some (.iadd, 518, 0, 0, .null) := by decide +kernel
theorem x_259_517 : Tr sc d 259 (517, [l0, l1, l2, l3], [.int i4, .int i3, .ref k2, .int i1, .ref k0], h) Q = Tr sc d 259 (518, [l0, l1, l2, l3], [.int (i3 + i4), .ref k2, .int i1, .ref k0], h) Q := t_go k_259_517 rfl
theorem k_259_518 : lk 259 518 = some (.iaload, 519, 0, 0, .null) := by decide +kernel
theorem x_259_518 : Tr sc d 259 (518, [l0, l1, l2, l3], [.int i3, .ref k2, .int i1, .ref k0], h) Q = (iOk sc h k2 i3 ∧ Tr sc d 259 (519, [l0, l1, l2, l3], [.int (iRd sc h k2 i3), .int i1, .ref k0], h) Q) := t_iald k_259_518
theorem k_259_519 : lk 259 519 = some (.invokevirtual 49, 522, 105, 2, .null) := by decide +kernel
theorem x_259_519 : Tr sc (d + 1) 259 (519, [l0, l1, l2, l3], [.int i2, .int i1, .ref k0], h) Q = (okp h k0 9 = true ∧ Tr sc d 105 (ent0 105 [.ref k0, .int i1, .int i2] h) (fun z => Tr sc (d + 1) 259 (522, [l0, l1, l2, l3], z.1.toList ++ [], z.2) Q)) := t_cv (as := [.int i1, .int i2]) (r := []) k_259_519 rfl rfl (Nat.le_of_ble_eq_true rfl) (Nat.le_of_ble_eq_true rfl) (Nat.le_of_ble_eq_true rfl)
theorem k_259_522 : lk 259 522 = some (.aload_n 2, 523, 2, 0, .null) := by decide +kernel
theorem x_259_522 : Tr sc d 259 (522, [l0, l1, some (.ref xk), l3], [.int i0], h) Q = Tr sc d 259 (523, [l0, l1, some (.ref xk), l3], [.ref xk, .int i0], h) Q := t_aload_n k_259_522 rfl
theorem k_259_523 : lk 259 523 = some (.aload_n 0, 524, 0, 0, .null) := by decide +kernel
theorem x_259_523 : Tr sc d 259 (523, [some (.ref xk), l1, l2, l3], [.ref k1, .int i0], h) Q = Tr sc d 259 (524, [some (.ref xk), l1, l2, l3], [.ref xk, .ref k1, .int i0], h) Q := t_aload_n k_259_523 rfl
theorem k_259_524 : lk 259 524 = some (.iload_n 3, 525, 3, 0, .null) := by decide +kernel
theorem x_259_524 : Tr sc d 259 (524, [l0, l1, l2, some (.int x)], [.ref k2, .ref k1, .int i0], h) Q = Tr sc d 259 (525, [l0, l1, l2, some (.int x)], [.int x, .ref k2, .ref k1, .int i0], h) Q := t_iload_n k_259_524 rfl
theorem k_259_525 : lk 259 525 = some (.iconst 1, 526, 0, 0, .int 1) := by decide +kernel
theorem x_259_525 : Tr sc d 259 (525, [l0, l1, l2, l3], [.int i3, .ref k2, .ref k1, .int i0], h) Q = Tr sc d 259 (526, [l0, l1, l2, l3], [.int 1, .int i3, .ref k2, .ref k1, .int i0], h) Q := t_go k_259_525 rfl
theorem k_259_526 : lk 259 526 = some (.iadd, 527, 0, 0, .null) := by decide +kernel
theorem x_259_526 : Tr sc d 259 (526, [l0, l1, l2, l3], [.int i4, .int i3, .ref k2, .ref k1, .int i0], h) Q = Tr sc d 259 (527, [l0, l1, l2, l3], [.int (i3 + i4), .ref k2, .ref k1, .int i0], h) Q := t_go k_259_526 rfl
theorem k_259_527 : lk 259 527 = some (.iaload, 528, 0, 0, .null) := by decide +kernel
theorem x_259_527 : Tr sc d 259 (527, [l0, l1, l2, l3], [.int i3, .ref k2, .ref k1, .int i0], h) Q = (iOk sc h k2 i3 ∧ Tr sc d 259 (528, [l0, l1, l2, l3], [.int (iRd sc h k2 i3), .ref k1, .int i0], h) Q) := t_iald k_259_527
theorem k_259_528 : lk 259 528 = some (.aload_n 0, 529, 0, 0, .null) := by decide +kernel
theorem x_259_528 : Tr sc d 259 (528, [some (.ref xk), l1, l2, l3], [.int i2, .ref k1, .int i0], h) Q = Tr sc d 259 (529, [some (.ref xk), l1, l2, l3], [.ref xk, .int i2, .ref k1, .int i0], h) Q := t_aload_n k_259_528 rfl
theorem k_259_529 : lk 259 529 = some (.iload_n 3, 530, 3, 0, .null) := by decide +kernel
theorem x_259_529 : Tr sc d 259 (529, [l0, l1, l2, some (.int x)], [.ref k3, .int i2, .ref k1, .int i0], h) Q = Tr sc d 259 (530, [l0, l1, l2, some (.int x)], [.int x, .ref k3, .int i2, .ref k1, .int i0], h) Q := t_iload_n k_259_529 rfl
theorem k_259_530 : lk 259 530 = some (.iconst 2, 531, 0, 0, .int 2) := by decide +kernel
theorem x_259_530 : Tr sc d 259 (530, [l0, l1, l2, l3], [.int i4, .ref k3, .int i2, .ref k1, .int i0], h) Q = Tr sc d 259 (531, [l0, l1, l2, l3], [.int 2, .int i4, .ref k3, .int i2, .ref k1, .int i0], h) Q := t_go k_259_530 rfl
theorem k_259_531 : lk 259 531 = some (.iadd, 532, 0, 0, .null) := by decide +kernel
theorem x_259_531 : Tr sc d 259 (531, [l0, l1, l2, l3], [.int i5, .int i4, .ref k3, .int i2, .ref k1, .int i0], h) Q = Tr sc d 259 (532, [l0, l1, l2, l3], [.int (i4 + i5), .ref k3, .int i2, .ref k1, .int i0], h) Q := t_go k_259_531 rfl
theorem k_259_532 : lk 259 532 = some (.iaload, 533, 0, 0, .null) := by decide +kernel
theorem x_259_532 : Tr sc d 259 (532, [l0, l1, l2, l3], [.int i4, .ref k3, .int i2, .ref k1, .int i0], h) Q = (iOk sc h k3 i4 ∧ Tr sc d 259 (533, [l0, l1, l2, l3], [.int (iRd sc h k3 i4), .int i2, .ref k1, .int i0], h) Q) := t_iald k_259_532
theorem k_259_533 : lk 259 533 = some (.invokevirtual 52, 536, 181, 2, .null) := by decide +kernel
theorem x_259_533 : Tr sc (d + 1) 259 (533, [l0, l1, l2, l3], [.int i3, .int i2, .ref k1, .int i0], h) Q = (okp h k1 10 = true ∧ Tr sc d 181 (ent0 181 [.ref k1, .int i2, .int i3] h) (fun z => Tr sc (d + 1) 259 (536, [l0, l1, l2, l3], z.1.toList ++ [.int i0], z.2) Q)) := t_cv (as := [.int i2, .int i3]) (r := [.int i0]) k_259_533 rfl rfl (Nat.le_of_ble_eq_true rfl) (Nat.le_of_ble_eq_true rfl) (Nat.le_of_ble_eq_true rfl)
theorem k_259_536 : lk 259 536 = some (.if_icmp .eq 1212, 539, 1748, 0, .null) := by decide +kernel
theorem x_259_536 : Tr sc d 259 (536, [l0, l1, l2, l3], [.int i1, .int i0], h) Q = if i0 = i1 then Tr sc d 259 (1748, [l0, l1, l2, l3], [], h) Q else Tr sc d 259 (539, [l0, l1, l2, l3], [], h) Q := t_if k_259_536 rfl
theorem k_259_539 : lk 259 539 = some (.iconst 0, 540, 0, 0, .int 0) := by decide +kernel
theorem x_259_539 : Tr sc d 259 (539, [l0, l1, l2, l3], [], h) Q = Tr sc d 259 (540, [l0, l1, l2, l3], [.int 0], h) Q := t_go k_259_539 rfl
theorem k_259_540 : lk 259 540 = some (.ireturn, 541, 0, 0, .null) := by decide +kernel
theorem x_259_540 : Tr sc d 259 (540, [l0, l1, l2, l3], [.int i0], h) Q = (vp_nar .boolean i0 = i0 ∧ Q (some (.int i0), h)) := t_zret k_259_540 r_259
theorem k_259_541 : lk 259 541 = some (.aload_n 1, 542, 1, 0, .null) := by decide +kernel
theorem x_259_541 : Tr sc d 259 (541, [l0, some (.ref xk), l2, l3], [], h) Q = Tr sc d 259 (542, [l0, some (.ref xk), l2, l3], [.ref xk], h) Q := t_aload_n k_259_541 rfl
theorem k_259_542 : lk 259 542 = some (.aload_n 0, 543, 0, 0, .null) := by decide +kernel
theorem x_259_542 : Tr sc d 259 (542, [some (.ref xk), l1, l2, l3], [.ref k0], h) Q = Tr sc d 259 (543, [some (.ref xk), l1, l2, l3], [.ref xk, .ref k0], h) Q := t_aload_n k_259_542 rfl
theorem k_259_543 : lk 259 543 = some (.iload_n 3, 544, 3, 0, .null) := by decide +kernel
theorem x_259_543 : Tr sc d 259 (543, [l0, l1, l2, some (.int x)], [.ref k1, .ref k0], h) Q = Tr sc d 259 (544, [l0, l1, l2, some (.int x)], [.int x, .ref k1, .ref k0], h) Q := t_iload_n k_259_543 rfl
theorem k_259_544 : lk 259 544 = some (.iconst 1, 545, 0, 0, .int 1) := by decide +kernel
theorem x_259_544 : Tr sc d 259 (544, [l0, l1, l2, l3], [.int i2, .ref k1, .ref k0], h) Q = Tr sc d 259 (545, [l0, l1, l2, l3], [.int 1, .int i2, .ref k1, .ref k0], h) Q := t_go k_259_544 rfl
theorem k_259_545 : lk 259 545 = some (.iadd, 546, 0, 0, .null) := by decide +kernel
theorem x_259_545 : Tr sc d 259 (545, [l0, l1, l2, l3], [.int i3, .int i2, .ref k1, .ref k0], h) Q = Tr sc d 259 (546, [l0, l1, l2, l3], [.int (i2 + i3), .ref k1, .ref k0], h) Q := t_go k_259_545 rfl
theorem k_259_546 : lk 259 546 = some (.iaload, 547, 0, 0, .null) := by decide +kernel
theorem x_259_546 : Tr sc d 259 (546, [l0, l1, l2, l3], [.int i2, .ref k1, .ref k0], h) Q = (iOk sc h k1 i2 ∧ Tr sc d 259 (547, [l0, l1, l2, l3], [.int (iRd sc h k1 i2), .ref k0], h) Q) := t_iald k_259_546
theorem k_259_547 : lk 259 547 = some (.aload_n 0, 548, 0, 0, .null) := by decide +kernel
theorem x_259_547 : Tr sc d 259 (547, [some (.ref xk), l1, l2, l3], [.int i1, .ref k0], h) Q = Tr sc d 259 (548, [some (.ref xk), l1, l2, l3], [.ref xk, .int i1, .ref k0], h) Q := t_aload_n k_259_547 rfl
theorem k_259_548 : lk 259 548 = some (.iload_n 3, 549, 3, 0, .null) := by decide +kernel
theorem x_259_548 : Tr sc d 259 (548, [l0, l1, l2, some (.int x)], [.ref k2, .int i1, .ref k0], h) Q = Tr sc d 259 (549, [l0, l1, l2, some (.int x)], [.int x, .ref k2, .int i1, .ref k0], h) Q := t_iload_n k_259_548 rfl
theorem k_259_549 : lk 259 549 = some (.iconst 2, 550, 0, 0, .int 2) := by decide +kernel
theorem x_259_549 : Tr sc d 259 (549, [l0, l1, l2, l3], [.int i3, .ref k2, .int i1, .ref k0], h) Q = Tr sc d 259 (550, [l0, l1, l2, l3], [.int 2, .int i3, .ref k2, .int i1, .ref k0], h) Q := t_go k_259_549 rfl
theorem k_259_550 : lk 259 550 = some (.iadd, 551, 0, 0, .null) := by decide +kernel
theorem x_259_550 : Tr sc d 259 (550, [l0, l1, l2, l3], [.int i4, .int i3, .ref k2, .int i1, .ref k0], h) Q = Tr sc d 259 (551, [l0, l1, l2, l3], [.int (i3 + i4), .ref k2, .int i1, .ref k0], h) Q := t_go k_259_550 rfl
theorem k_259_551 : lk 259 551 = some (.iaload, 552, 0, 0, .null) := by decide +kernel
theorem x_259_551 : Tr sc d 259 (551, [l0, l1, l2, l3], [.int i3, .ref k2, .int i1, .ref k0], h) Q = (iOk sc h k2 i3 ∧ Tr sc d 259 (552, [l0, l1, l2, l3], [.int (iRd sc h k2 i3), .int i1, .ref k0], h) Q) := t_iald k_259_551
theorem k_259_552 : lk 259 552 = some (.aload_n 0, 553, 0, 0, .null) := by decide +kernel
theorem x_259_552 : Tr sc d 259 (552, [some (.ref xk), l1, l2, l3], [.int i2, .int i1, .ref k0], h) Q = Tr sc d 259 (553, [some (.ref xk), l1, l2, l3], [.ref xk, .int i2, .int i1, .ref k0], h) Q := t_aload_n k_259_552 rfl
theorem k_259_553 : lk 259 553 = some (.iload_n 3, 554, 3, 0, .null) := by decide +kernel
theorem x_259_553 : Tr sc d 259 (553, [l0, l1, l2, some (.int x)], [.ref k3, .int i2, .int i1, .ref k0], h) Q = Tr sc d 259 (554, [l0, l1, l2, some (.int x)], [.int x, .ref k3, .int i2, .int i1, .ref k0], h) Q := t_iload_n k_259_553 rfl
theorem k_259_554 : lk 259 554 = some (.iconst 3, 555, 0, 0, .int 3) := by decide +kernel
theorem x_259_554 : Tr sc d 259 (554, [l0, l1, l2, l3], [.int i4, .ref k3, .int i2, .int i1, .ref k0], h) Q = Tr sc d 259 (555, [l0, l1, l2, l3], [.int 3, .int i4, .ref k3, .int i2, .int i1, .ref k0], h) Q := t_go k_259_554 rfl
theorem k_259_555 : lk 259 555 = some (.iadd, 556, 0, 0, .null) := by decide +kernel
theorem x_259_555 : Tr sc d 259 (555, [l0, l1, l2, l3], [.int i5, .int i4, .ref k3, .int i2, .int i1, .ref k0], h) Q = Tr sc d 259 (556, [l0, l1, l2, l3], [.int (i4 + i5), .ref k3, .int i2, .int i1, .ref k0], h) Q := t_go k_259_555 rfl
theorem k_259_556 : lk 259 556 = some (.iaload, 557, 0, 0, .null) := by decide +kernel
theorem x_259_556 : Tr sc d 259 (556, [l0, l1, l2, l3], [.int i4, .ref k3, .int i2, .int i1, .ref k0], h) Q = (iOk sc h k3 i4 ∧ Tr sc d 259 (557, [l0, l1, l2, l3], [.int (iRd sc h k3 i4), .int i2, .int i1, .ref k0], h) Q) := t_iald k_259_556
theorem k_259_557 : lk 259 557 = some (.invokevirtual 53, 560, 106, 3, .null) := by decide +kernel
theorem x_259_557 : Tr sc (d + 1) 259 (557, [l0, l1, l2, l3], [.int i3, .int i2, .int i1, .ref k0], h) Q = (okp h k0 9 = true ∧ Tr sc d 106 (ent0 106 [.ref k0, .int i1, .int i2, .int i3] h) (fun z => Tr sc (d + 1) 259 (560, [l0, l1, l2, l3], z.1.toList ++ [], z.2) Q)) := t_cv (as := [.int i1, .int i2, .int i3]) (r := []) k_259_557 rfl rfl (Nat.le_of_ble_eq_true rfl) (Nat.le_of_ble_eq_true rfl) (Nat.le_of_ble_eq_true rfl)
theorem k_259_560 : lk 259 560 = some (.aload_n 2, 561, 2, 0, .null) := by decide +kernel
theorem x_259_560 : Tr sc d 259 (560, [l0, l1, some (.ref xk), l3], [.int i0], h) Q = Tr sc d 259 (561, [l0, l1, some (.ref xk), l3], [.ref xk, .int i0], h) Q := t_aload_n k_259_560 rfl
theorem k_259_561 : lk 259 561 = some (.aload_n 0, 562, 0, 0, .null) := by decide +kernel
theorem x_259_561 : Tr sc d 259 (561, [some (.ref xk), l1, l2, l3], [.ref k1, .int i0], h) Q = Tr sc d 259 (562, [some (.ref xk), l1, l2, l3], [.ref xk, .ref k1, .int i0], h) Q := t_aload_n k_259_561 rfl
theorem k_259_562 : lk 259 562 = some (.iload_n 3, 563, 3, 0, .null) := by decide +kernel
theorem x_259_562 : Tr sc d 259 (562, [l0, l1, l2, some (.int x)], [.ref k2, .ref k1, .int i0], h) Q = Tr sc d 259 (563, [l0, l1, l2, some (.int x)], [.int x, .ref k2, .ref k1, .int i0], h) Q := t_iload_n k_259_562 rfl
theorem k_259_563 : lk 259 563 = some (.iconst 1, 564, 0, 0, .int 1) := by decide +kernel
theorem x_259_563 : Tr sc d 259 (563, [l0, l1, l2, l3], [.int i3, .ref k2, .ref k1, .int i0], h) Q = Tr sc d 259 (564, [l0, l1, l2, l3], [.int 1, .int i3, .ref k2, .ref k1, .int i0], h) Q := t_go k_259_563 rfl
theorem k_259_564 : lk 259 564 = some (.iadd, 565, 0, 0, .null) := by decide +kernel
theorem x_259_564 : Tr sc d 259 (564, [l0, l1, l2, l3], [.int i4, .int i3, .ref k2, .ref k1, .int i0], h) Q = Tr sc d 259 (565, [l0, l1, l2, l3], [.int (i3 + i4), .ref k2, .ref k1, .int i0], h) Q := t_go k_259_564 rfl
theorem k_259_565 : lk 259 565 = some (.iaload, 566, 0, 0, .null) := by decide +kernel
theorem x_259_565 : Tr sc d 259 (565, [l0, l1, l2, l3], [.int i3, .ref k2, .ref k1, .int i0], h) Q = (iOk sc h k2 i3 ∧ Tr sc d 259 (566, [l0, l1, l2, l3], [.int (iRd sc h k2 i3), .ref k1, .int i0], h) Q) := t_iald k_259_565
theorem k_259_566 : lk 259 566 = some (.aload_n 0, 567, 0, 0, .null) := by decide +kernel
theorem x_259_566 : Tr sc d 259 (566, [some (.ref xk), l1, l2, l3], [.int i2, .ref k1, .int i0], h) Q = Tr sc d 259 (567, [some (.ref xk), l1, l2, l3], [.ref xk, .int i2, .ref k1, .int i0], h) Q := t_aload_n k_259_566 rfl
theorem k_259_567 : lk 259 567 = some (.iload_n 3, 568, 3, 0, .null) := by decide +kernel
theorem x_259_567 : Tr sc d 259 (567, [l0, l1, l2, some (.int x)], [.ref k3, .int i2, .ref k1, .int i0], h) Q = Tr sc d 259 (568, [l0, l1, l2, some (.int x)], [.int x, .ref k3, .int i2, .ref k1, .int i0], h) Q := t_iload_n k_259_567 rfl
theorem k_259_568 : lk 259 568 = some (.iconst 2, 569, 0, 0, .int 2) := by decide +kernel
theorem x_259_568 : Tr sc d 259 (568, [l0, l1, l2, l3], [.int i4, .ref k3, .int i2, .ref k1, .int i0], h) Q = Tr sc d 259 (569, [l0, l1, l2, l3], [.int 2, .int i4, .ref k3, .int i2, .ref k1, .int i0], h) Q := t_go k_259_568 rfl
theorem k_259_569 : lk 259 569 = some (.iadd, 570, 0, 0, .null) := by decide +kernel
theorem x_259_569 : Tr sc d 259 (569, [l0, l1, l2, l3], [.int i5, .int i4, .ref k3, .int i2, .ref k1, .int i0], h) Q = Tr sc d 259 (570, [l0, l1, l2, l3], [.int (i4 + i5), .ref k3, .int i2, .ref k1, .int i0], h) Q := t_go k_259_569 rfl
theorem k_259_570 : lk 259 570 = some (.iaload, 571, 0, 0, .null) := by decide +kernel
theorem x_259_570 : Tr sc d 259 (570, [l0, l1, l2, l3], [.int i4, .ref k3, .int i2, .ref k1, .int i0], h) Q = (iOk sc h k3 i4 ∧ Tr sc d 259 (571, [l0, l1, l2, l3], [.int (iRd sc h k3 i4), .int i2, .ref k1, .int i0], h) Q) := t_iald k_259_570
theorem k_259_571 : lk 259 571 = some (.aload_n 0, 572, 0, 0, .null) := by decide +kernel
theorem x_259_571 : Tr sc d 259 (571, [some (.ref xk), l1, l2, l3], [.int i3, .int i2, .ref k1, .int i0], h) Q = Tr sc d 259 (572, [some (.ref xk), l1, l2, l3], [.ref xk, .int i3, .int i2, .ref k1, .int i0], h) Q := t_aload_n k_259_571 rfl
theorem k_259_572 : lk 259 572 = some (.iload_n 3, 573, 3, 0, .null) := by decide +kernel
theorem x_259_572 : Tr sc d 259 (572, [l0, l1, l2, some (.int x)], [.ref k4, .int i3, .int i2, .ref k1, .int i0], h) Q = Tr sc d 259 (573, [l0, l1, l2, some (.int x)], [.int x, .ref k4, .int i3, .int i2, .ref k1, .int i0], h) Q := t_iload_n k_259_572 rfl
theorem k_259_573 : lk 259 573 = some (.iconst 3, 574, 0, 0, .int 3) := by decide +kernel
theorem x_259_573 : Tr sc d 259 (573, [l0, l1, l2, l3], [.int i5, .ref k4, .int i3, .int i2, .ref k1, .int i0], h) Q = Tr sc d 259 (574, [l0, l1, l2, l3], [.int 3, .int i5, .ref k4, .int i3, .int i2, .ref k1, .int i0], h) Q := t_go k_259_573 rfl
theorem k_259_574 : lk 259 574 = some (.iadd, 575, 0, 0, .null) := by decide +kernel
theorem x_259_574 : Tr sc d 259 (574, [l0, l1, l2, l3], [.int i6, .int i5, .ref k4, .int i3, .int i2, .ref k1, .int i0], h) Q = Tr sc d 259 (575, [l0, l1, l2, l3], [.int (i5 + i6), .ref k4, .int i3, .int i2, .ref k1, .int i0], h) Q := t_go k_259_574 rfl
theorem k_259_575 : lk 259 575 = some (.iaload, 576, 0, 0, .null) := by decide +kernel
theorem x_259_575 : Tr sc d 259 (575, [l0, l1, l2, l3], [.int i5, .ref k4, .int i3, .int i2, .ref k1, .int i0], h) Q = (iOk sc h k4 i5 ∧ Tr sc d 259 (576, [l0, l1, l2, l3], [.int (iRd sc h k4 i5), .int i3, .int i2, .ref k1, .int i0], h) Q) := t_iald k_259_575
theorem k_259_576 : lk 259 576 = some (.invokevirtual 56, 579, 188, 3, .null) := by decide +kernel
theorem x_259_576 : Tr sc (d + 1) 259 (576, [l0, l1, l2, l3], [.int i4, .int i3, .int i2, .ref k1, .int i0], h) Q = (okp h k1 10 = true ∧ Tr sc d 188 (ent0 188 [.ref k1, .int i2, .int i3, .int i4] h) (fun z => Tr sc (d + 1) 259 (579, [l0, l1, l2, l3], z.1.toList ++ [.int i0], z.2) Q)) := t_cv (as := [.int i2, .int i3, .int i4]) (r := [.int i0]) k_259_576 rfl rfl (Nat.le_of_ble_eq_true rfl) (Nat.le_of_ble_eq_true rfl) (Nat.le_of_ble_eq_true rfl)
theorem k_259_579 : lk 259 579 = some (.if_icmp .eq 1169, 582, 1748, 0, .null) := by decide +kernel
theorem x_259_579 : Tr sc d 259 (579, [l0, l1, l2, l3], [.int i1, .int i0], h) Q = if i0 = i1 then Tr sc d 259 (1748, [l0, l1, l2, l3], [], h) Q else Tr sc d 259 (582, [l0, l1, l2, l3], [], h) Q := t_if k_259_579 rfl
theorem k_259_582 : lk 259 582 = some (.iconst 0, 583, 0, 0, .int 0) := by decide +kernel
theorem x_259_582 : Tr sc d 259 (582, [l0, l1, l2, l3], [], h) Q = Tr sc d 259 (583, [l0, l1, l2, l3], [.int 0], h) Q := t_go k_259_582 rfl
theorem k_259_583 : lk 259 583 = some (.ireturn, 584, 0, 0, .null) := by decide +kernel
theorem x_259_583 : Tr sc d 259 (583, [l0, l1, l2, l3], [.int i0], h) Q = (vp_nar .boolean i0 = i0 ∧ Q (some (.int i0), h)) := t_zret k_259_583 r_259
theorem k_259_584 : lk 259 584 = some (.aload_n 1, 585, 1, 0, .null) := by decide +kernel
theorem x_259_584 : Tr sc d 259 (584, [l0, some (.ref xk), l2, l3], [], h) Q = Tr sc d 259 (585, [l0, some (.ref xk), l2, l3], [.ref xk], h) Q := t_aload_n k_259_584 rfl
theorem k_259_585 : lk 259 585 = some (.aload_n 0, 586, 0, 0, .null) := by decide +kernel
theorem x_259_585 : Tr sc d 259 (585, [some (.ref xk), l1, l2, l3], [.ref k0], h) Q = Tr sc d 259 (586, [some (.ref xk), l1, l2, l3], [.ref xk, .ref k0], h) Q := t_aload_n k_259_585 rfl
theorem k_259_586 : lk 259 586 = some (.iload_n 3, 587, 3, 0, .null) := by decide +kernel
theorem x_259_586 : Tr sc d 259 (586, [l0, l1, l2, some (.int x)], [.ref k1, .ref k0], h) Q = Tr sc d 259 (587, [l0, l1, l2, some (.int x)], [.int x, .ref k1, .ref k0], h) Q := t_iload_n k_259_586 rfl
theorem k_259_587 : lk 259 587 = some (.iconst 1, 588, 0, 0, .int 1) := by decide +kernel
theorem x_259_587 : Tr sc d 259 (587, [l0, l1, l2, l3], [.int i2, .ref k1, .ref k0], h) Q = Tr sc d 259 (588, [l0, l1, l2, l3], [.int 1, .int i2, .ref k1, .ref k0], h) Q := t_go k_259_587 rfl
theorem k_259_588 : lk 259 588 = some (.iadd, 589, 0, 0, .null) := by decide +kernel
theorem x_259_588 : Tr sc d 259 (588, [l0, l1, l2, l3], [.int i3, .int i2, .ref k1, .ref k0], h) Q = Tr sc d 259 (589, [l0, l1, l2, l3], [.int (i2 + i3), .ref k1, .ref k0], h) Q := t_go k_259_588 rfl
theorem k_259_589 : lk 259 589 = some (.iaload, 590, 0, 0, .null) := by decide +kernel
theorem x_259_589 : Tr sc d 259 (589, [l0, l1, l2, l3], [.int i2, .ref k1, .ref k0], h) Q = (iOk sc h k1 i2 ∧ Tr sc d 259 (590, [l0, l1, l2, l3], [.int (iRd sc h k1 i2), .ref k0], h) Q) := t_iald k_259_589
theorem k_259_590 : lk 259 590 = some (.aload_n 0, 591, 0, 0, .null) := by decide +kernel
theorem x_259_590 : Tr sc d 259 (590, [some (.ref xk), l1, l2, l3], [.int i1, .ref k0], h) Q = Tr sc d 259 (591, [some (.ref xk), l1, l2, l3], [.ref xk, .int i1, .ref k0], h) Q := t_aload_n k_259_590 rfl
theorem k_259_591 : lk 259 591 = some (.iload_n 3, 592, 3, 0, .null) := by decide +kernel
theorem x_259_591 : Tr sc d 259 (591, [l0, l1, l2, some (.int x)], [.ref k2, .int i1, .ref k0], h) Q = Tr sc d 259 (592, [l0, l1, l2, some (.int x)], [.int x, .ref k2, .int i1, .ref k0], h) Q := t_iload_n k_259_591 rfl
theorem k_259_592 : lk 259 592 = some (.iconst 2, 593, 0, 0, .int 2) := by decide +kernel
theorem x_259_592 : Tr sc d 259 (592, [l0, l1, l2, l3], [.int i3, .ref k2, .int i1, .ref k0], h) Q = Tr sc d 259 (593, [l0, l1, l2, l3], [.int 2, .int i3, .ref k2, .int i1, .ref k0], h) Q := t_go k_259_592 rfl
theorem k_259_593 : lk 259 593 = some (.iadd, 594, 0, 0, .null) := by decide +kernel
theorem x_259_593 : Tr sc d 259 (593, [l0, l1, l2, l3], [.int i4, .int i3, .ref k2, .int i1, .ref k0], h) Q = Tr sc d 259 (594, [l0, l1, l2, l3], [.int (i3 + i4), .ref k2, .int i1, .ref k0], h) Q := t_go k_259_593 rfl
theorem k_259_594 : lk 259 594 = some (.iaload, 595, 0, 0, .null) := by decide +kernel
theorem x_259_594 : Tr sc d 259 (594, [l0, l1, l2, l3], [.int i3, .ref k2, .int i1, .ref k0], h) Q = (iOk sc h k2 i3 ∧ Tr sc d 259 (595, [l0, l1, l2, l3], [.int (iRd sc h k2 i3), .int i1, .ref k0], h) Q) := t_iald k_259_594
theorem k_259_595 : lk 259 595 = some (.aload_n 0, 596, 0, 0, .null) := by decide +kernel
theorem x_259_595 : Tr sc d 259 (595, [some (.ref xk), l1, l2, l3], [.int i2, .int i1, .ref k0], h) Q = Tr sc d 259 (596, [some (.ref xk), l1, l2, l3], [.ref xk, .int i2, .int i1, .ref k0], h) Q := t_aload_n k_259_595 rfl
theorem k_259_596 : lk 259 596 = some (.iload_n 3, 597, 3, 0, .null) := by decide +kernel
theorem x_259_596 : Tr sc d 259 (596, [l0, l1, l2, some (.int x)], [.ref k3, .int i2, .int i1, .ref k0], h) Q = Tr sc d 259 (597, [l0, l1, l2, some (.int x)], [.int x, .ref k3, .int i2, .int i1, .ref k0], h) Q := t_iload_n k_259_596 rfl
theorem k_259_597 : lk 259 597 = some (.iconst 3, 598, 0, 0, .int 3) := by decide +kernel
theorem x_259_597 : Tr sc d 259 (597, [l0, l1, l2, l3], [.int i4, .ref k3, .int i2, .int i1, .ref k0], h) Q = Tr sc d 259 (598, [l0, l1, l2, l3], [.int 3, .int i4, .ref k3, .int i2, .int i1, .ref k0], h) Q := t_go k_259_597 rfl
theorem k_259_598 : lk 259 598 = some (.iadd, 599, 0, 0, .null) := by decide +kernel
theorem x_259_598 : Tr sc d 259 (598, [l0, l1, l2, l3], [.int i5, .int i4, .ref k3, .int i2, .int i1, .ref k0], h) Q = Tr sc d 259 (599, [l0, l1, l2, l3], [.int (i4 + i5), .ref k3, .int i2, .int i1, .ref k0], h) Q := t_go k_259_598 rfl
theorem k_259_599 : lk 259 599 = some (.iaload, 600, 0, 0, .null) := by decide +kernel
theorem x_259_599 : Tr sc d 259 (599, [l0, l1, l2, l3], [.int i4, .ref k3, .int i2, .int i1, .ref k0], h) Q = (iOk sc h k3 i4 ∧ Tr sc d 259 (600, [l0, l1, l2, l3], [.int (iRd sc h k3 i4), .int i2, .int i1, .ref k0], h) Q) := t_iald k_259_599
theorem k_259_600 : lk 259 600 = some (.invokevirtual 57, 603, 107, 3, .null) := by decide +kernel
theorem x_259_600 : Tr sc (d + 1) 259 (600, [l0, l1, l2, l3], [.int i3, .int i2, .int i1, .ref k0], h) Q = (okp h k0 9 = true ∧ Tr sc d 107 (ent0 107 [.ref k0, .int i1, .int i2, .int i3] h) (fun z => Tr sc (d + 1) 259 (603, [l0, l1, l2, l3], z.1.toList ++ [], z.2) Q)) := t_cv (as := [.int i1, .int i2, .int i3]) (r := []) k_259_600 rfl rfl (Nat.le_of_ble_eq_true rfl) (Nat.le_of_ble_eq_true rfl) (Nat.le_of_ble_eq_true rfl)
theorem k_259_603 : lk 259 603 = some (.aload_n 2, 604, 2, 0, .null) := by decide +kernel
theorem x_259_603 : Tr sc d 259 (603, [l0, l1, some (.ref xk), l3], [.int i0], h) Q = Tr sc d 259 (604, [l0, l1, some (.ref xk), l3], [.ref xk, .int i0], h) Q := t_aload_n k_259_603 rfl
theorem k_259_604 : lk 259 604 = some (.aload_n 0, 605, 0, 0, .null) := by decide +kernel
theorem x_259_604 : Tr sc d 259 (604, [some (.ref xk), l1, l2, l3], [.ref k1, .int i0], h) Q = Tr sc d 259 (605, [some (.ref xk), l1, l2, l3], [.ref xk, .ref k1, .int i0], h) Q := t_aload_n k_259_604 rfl
theorem k_259_605 : lk 259 605 = some (.iload_n 3, 606, 3, 0, .null) := by decide +kernel
theorem x_259_605 : Tr sc d 259 (605, [l0, l1, l2, some (.int x)], [.ref k2, .ref k1, .int i0], h) Q = Tr sc d 259 (606, [l0, l1, l2, some (.int x)], [.int x, .ref k2, .ref k1, .int i0], h) Q := t_iload_n k_259_605 rfl
theorem k_259_606 : lk 259 606 = some (.iconst 1, 607, 0, 0, .int 1) := by decide +kernel
theorem x_259_606 : Tr sc d 259 (606, [l0, l1, l2, l3], [.int i3, .ref k2, .ref k1, .int i0], h) Q = Tr sc d 259 (607, [l0, l1, l2, l3], [.int 1, .int i3, .ref k2, .ref k1, .int i0], h) Q := t_go k_259_606 rfl
theorem k_259_607 : lk 259 607 = some (.iadd, 608, 0, 0, .null) := by decide +kernel
theorem x_259_607 : Tr sc d 259 (607, [l0, l1, l2, l3], [.int i4, .int i3, .ref k2, .ref k1, .int i0], h) Q = Tr sc d 259 (608, [l0, l1, l2, l3], [.int (i3 + i4), .ref k2, .ref k1, .int i0], h) Q := t_go k_259_607 rfl
theorem k_259_608 : lk 259 608 = some (.iaload, 609, 0, 0, .null) := by decide +kernel
theorem x_259_608 : Tr sc d 259 (608, [l0, l1, l2, l3], [.int i3, .ref k2, .ref k1, .int i0], h) Q = (iOk sc h k2 i3 ∧ Tr sc d 259 (609, [l0, l1, l2, l3], [.int (iRd sc h k2 i3), .ref k1, .int i0], h) Q) := t_iald k_259_608
theorem k_259_609 : lk 259 609 = some (.aload_n 0, 610, 0, 0, .null) := by decide +kernel
theorem x_259_609 : Tr sc d 259 (609, [some (.ref xk), l1, l2, l3], [.int i2, .ref k1, .int i0], h) Q = Tr sc d 259 (610, [some (.ref xk), l1, l2, l3], [.ref xk, .int i2, .ref k1, .int i0], h) Q := t_aload_n k_259_609 rfl
theorem k_259_610 : lk 259 610 = some (.iload_n 3, 611, 3, 0, .null) := by decide +kernel
theorem x_259_610 : Tr sc d 259 (610, [l0, l1, l2, some (.int x)], [.ref k3, .int i2, .ref k1, .int i0], h) Q = Tr sc d 259 (611, [l0, l1, l2, some (.int x)], [.int x, .ref k3, .int i2, .ref k1, .int i0], h) Q := t_iload_n k_259_610 rfl
theorem k_259_611 : lk 259 611 = some (.iconst 2, 612, 0, 0, .int 2) := by decide +kernel
theorem x_259_611 : Tr sc d 259 (611, [l0, l1, l2, l3], [.int i4, .ref k3, .int i2, .ref k1, .int i0], h) Q = Tr sc d 259 (612, [l0, l1, l2, l3], [.int 2, .int i4, .ref k3, .int i2, .ref k1, .int i0], h) Q := t_go k_259_611 rfl
theorem k_259_612 : lk 259 612 = some (.iadd, 613, 0, 0, .null) := by decide +kernel
theorem x_259_612 : Tr sc d 259 (612, [l0, l1, l2, l3], [.int i5, .int i4, .ref k3, .int i2, .ref k1, .int i0], h) Q = Tr sc d 259 (613, [l0, l1, l2, l3], [.int (i4 + i5), .ref k3, .int i2, .ref k1, .int i0], h) Q := t_go k_259_612 rfl
theorem k_259_613 : lk 259 613 = some (.iaload, 614, 0, 0, .null) := by decide +kernel
theorem x_259_613 : Tr sc d 259 (613, [l0, l1, l2, l3], [.int i4, .ref k3, .int i2, .ref k1, .int i0], h) Q = (iOk sc h k3 i4 ∧ Tr sc d 259 (614, [l0, l1, l2, l3], [.int (iRd sc h k3 i4), .int i2, .ref k1, .int i0], h) Q) := t_iald k_259_613
theorem k_259_614 : lk 259 614 = some (.aload_n 0, 615, 0, 0, .null) := by decide +kernel
theorem x_259_614 : Tr sc d 259 (614, [some (.ref xk), l1, l2, l3], [.int i3, .int i2, .ref k1, .int i0], h) Q = Tr sc d 259 (615, [some (.ref xk), l1, l2, l3], [.ref xk, .int i3, .int i2, .ref k1, .int i0], h) Q := t_aload_n k_259_614 rfl
theorem k_259_615 : lk 259 615 = some (.iload_n 3, 616, 3, 0, .null) := by decide +kernel
theorem x_259_615 : Tr sc d 259 (615, [l0, l1, l2, some (.int x)], [.ref k4, .int i3, .int i2, .ref k1, .int i0], h) Q = Tr sc d 259 (616, [l0, l1, l2, some (.int x)], [.int x, .ref k4, .int i3, .int i2, .ref k1, .int i0], h) Q := t_iload_n k_259_615 rfl
theorem k_259_616 : lk 259 616 = some (.iconst 3, 617, 0, 0, .int 3) := by decide +kernel
theorem x_259_616 : Tr sc d 259 (616, [l0, l1, l2, l3], [.int i5, .ref k4, .int i3, .int i2, .ref k1, .int i0], h) Q = Tr sc d 259 (617, [l0, l1, l2, l3], [.int 3, .int i5, .ref k4, .int i3, .int i2, .ref k1, .int i0], h) Q := t_go k_259_616 rfl
theorem k_259_617 : lk 259 617 = some (.iadd, 618, 0, 0, .null) := by decide +kernel
theorem x_259_617 : Tr sc d 259 (617, [l0, l1, l2, l3], [.int i6, .int i5, .ref k4, .int i3, .int i2, .ref k1, .int i0], h) Q = Tr sc d 259 (618, [l0, l1, l2, l3], [.int (i5 + i6), .ref k4, .int i3, .int i2, .ref k1, .int i0], h) Q := t_go k_259_617 rfl
theorem k_259_618 : lk 259 618 = some (.iaload, 619, 0, 0, .null) := by decide +kernel
theorem x_259_618 : Tr sc d 259 (618, [l0, l1, l2, l3], [.int i5, .ref k4, .int i3, .int i2, .ref k1, .int i0], h) Q = (iOk sc h k4 i5 ∧ Tr sc d 259 (619, [l0, l1, l2, l3], [.int (iRd sc h k4 i5), .int i3, .int i2, .ref k1, .int i0], h) Q) := t_iald k_259_618
theorem k_259_619 : lk 259 619 = some (.invokevirtual 60, 622, 189, 3, .null) := by decide +kernel
theorem x_259_619 : Tr sc (d + 1) 259 (619, [l0, l1, l2, l3], [.int i4, .int i3, .int i2, .ref k1, .int i0], h) Q = (okp h k1 10 = true ∧ Tr sc d 189 (ent0 189 [.ref k1, .int i2, .int i3, .int i4] h) (fun z => Tr sc (d + 1) 259 (622, [l0, l1, l2, l3], z.1.toList ++ [.int i0], z.2) Q)) := t_cv (as := [.int i2, .int i3, .int i4]) (r := [.int i0]) k_259_619 rfl rfl (Nat.le_of_ble_eq_true rfl) (Nat.le_of_ble_eq_true rfl) (Nat.le_of_ble_eq_true rfl)
theorem k_259_622 : lk 259 622 = some (.if_icmp .eq 1126, 625, 1748, 0, .null) := by decide +kernel
theorem x_259_622 : Tr sc d 259 (622, [l0, l1, l2, l3], [.int i1, .int i0], h) Q = if i0 = i1 then Tr sc d 259 (1748, [l0, l1, l2, l3], [], h) Q else Tr sc d 259 (625, [l0, l1, l2, l3], [], h) Q := t_if k_259_622 rfl
theorem k_259_625 : lk 259 625 = some (.iconst 0, 626, 0, 0, .int 0) := by decide +kernel
theorem x_259_625 : Tr sc d 259 (625, [l0, l1, l2, l3], [], h) Q = Tr sc d 259 (626, [l0, l1, l2, l3], [.int 0], h) Q := t_go k_259_625 rfl
theorem k_259_626 : lk 259 626 = some (.ireturn, 627, 0, 0, .null) := by decide +kernel
theorem x_259_626 : Tr sc d 259 (626, [l0, l1, l2, l3], [.int i0], h) Q = (vp_nar .boolean i0 = i0 ∧ Q (some (.int i0), h)) := t_zret k_259_626 r_259
theorem k_259_627 : lk 259 627 = some (.aload_n 1, 628, 1, 0, .null) := by decide +kernel
theorem x_259_627 : Tr sc d 259 (627, [l0, some (.ref xk), l2, l3], [], h) Q = Tr sc d 259 (628, [l0, some (.ref xk), l2, l3], [.ref xk], h) Q := t_aload_n k_259_627 rfl
theorem k_259_628 : lk 259 628 = some (.aload_n 0, 629, 0, 0, .null) := by decide +kernel
theorem x_259_628 : Tr sc d 259 (628, [some (.ref xk), l1, l2, l3], [.ref k0], h) Q = Tr sc d 259 (629, [some (.ref xk), l1, l2, l3], [.ref xk, .ref k0], h) Q := t_aload_n k_259_628 rfl
theorem k_259_629 : lk 259 629 = some (.iload_n 3, 630, 3, 0, .null) := by decide +kernel
theorem x_259_629 : Tr sc d 259 (629, [l0, l1, l2, some (.int x)], [.ref k1, .ref k0], h) Q = Tr sc d 259 (630, [l0, l1, l2, some (.int x)], [.int x, .ref k1, .ref k0], h) Q := t_iload_n k_259_629 rfl
theorem k_259_630 : lk 259 630 = some (.iconst 1, 631, 0, 0, .int 1) := by decide +kernel
theorem x_259_630 : Tr sc d 259 (630, [l0, l1, l2, l3], [.int i2, .ref k1, .ref k0], h) Q = Tr sc d 259 (631, [l0, l1, l2, l3], [.int 1, .int i2, .ref k1, .ref k0], h) Q := t_go k_259_630 rfl
theorem k_259_631 : lk 259 631 = some (.iadd, 632, 0, 0, .null) := by decide +kernel
theorem x_259_631 : Tr sc d 259 (631, [l0, l1, l2, l3], [.int i3, .int i2, .ref k1, .ref k0], h) Q = Tr sc d 259 (632, [l0, l1, l2, l3], [.int (i2 + i3), .ref k1, .ref k0], h) Q := t_go k_259_631 rfl
theorem k_259_632 : lk 259 632 = some (.iaload, 633, 0, 0, .null) := by decide +kernel
theorem x_259_632 : Tr sc d 259 (632, [l0, l1, l2, l3], [.int i2, .ref k1, .ref k0], h) Q = (iOk sc h k1 i2 ∧ Tr sc d 259 (633, [l0, l1, l2, l3], [.int (iRd sc h k1 i2), .ref k0], h) Q) := t_iald k_259_632
theorem k_259_633 : lk 259 633 = some (.aload_n 0, 634, 0, 0, .null) := by decide +kernel
theorem x_259_633 : Tr sc d 259 (633, [some (.ref xk), l1, l2, l3], [.int i1, .ref k0], h) Q = Tr sc d 259 (634, [some (.ref xk), l1, l2, l3], [.ref xk, .int i1, .ref k0], h) Q := t_aload_n k_259_633 rfl
theorem k_259_634 : lk 259 634 = some (.iload_n 3, 635, 3, 0, .null) := by decide +kernel
theorem x_259_634 : Tr sc d 259 (634, [l0, l1, l2, some (.int x)], [.ref k2, .int i1, .ref k0], h) Q = Tr sc d 259 (635, [l0, l1, l2, some (.int x)], [.int x, .ref k2, .int i1, .ref k0], h) Q := t_iload_n k_259_634 rfl
theorem k_259_635 : lk 259 635 = some (.iconst 2, 636, 0, 0, .int 2) := by decide +kernel
theorem x_259_635 : Tr sc d 259 (635, [l0, l1, l2, l3], [.int i3, .ref k2, .int i1, .ref k0], h) Q = Tr sc d 259 (636, [l0, l1, l2, l3], [.int 2, .int i3, .ref k2, .int i1, .ref k0], h) Q := t_go k_259_635 rfl
theorem k_259_636 : lk 259 636 = some (.iadd, 637, 0, 0, .null) := by decide +kernel
theorem x_259_636 : Tr sc d 259 (636, [l0, l1, l2, l3], [.int i4, .int i3, .ref k2, .int i1, .ref k0], h) Q = Tr sc d 259 (637, [l0, l1, l2, l3], [.int (i3 + i4), .ref k2, .int i1, .ref k0], h) Q := t_go k_259_636 rfl
theorem k_259_637 : lk 259 637 = some (.iaload, 638, 0, 0, .null) := by decide +kernel
theorem x_259_637 : Tr sc d 259 (637, [l0, l1, l2, l3], [.int i3, .ref k2, .int i1, .ref k0], h) Q = (iOk sc h k2 i3 ∧ Tr sc d 259 (638, [l0, l1, l2, l3], [.int (iRd sc h k2 i3), .int i1, .ref k0], h) Q) := t_iald k_259_637
theorem k_259_638 : lk 259 638 = some (.invokevirtual 61, 641, 108, 2, .null) := by decide +kernel
theorem x_259_638 : Tr sc (d + 1) 259 (638, [l0, l1, l2, l3], [.int i2, .int i1, .ref k0], h) Q = (okp h k0 9 = true ∧ Tr sc d 108 (ent0 108 [.ref k0, .int i1, .int i2] h) (fun z => Tr sc (d + 1) 259 (641, [l0, l1, l2, l3], z.1.toList ++ [], z.2) Q)) := t_cv (as := [.int i1, .int i2]) (r := []) k_259_638 rfl rfl (Nat.le_of_ble_eq_true rfl) (Nat.le_of_ble_eq_true rfl) (Nat.le_of_ble_eq_true rfl)
theorem k_259_641 : lk 259 641 = some (.aload_n 2, 642, 2, 0, .null) := by decide +kernel
theorem x_259_641 : Tr sc d 259 (641, [l0, l1, some (.ref xk), l3], [.int i0], h) Q = Tr sc d 259 (642, [l0, l1, some (.ref xk), l3], [.ref xk, .int i0], h) Q := t_aload_n k_259_641 rfl
theorem k_259_642 : lk 259 642 = some (.aload_n 0, 643, 0, 0, .null) := by decide +kernel
theorem x_259_642 : Tr sc d 259 (642, [some (.ref xk), l1, l2, l3], [.ref k1, .int i0], h) Q = Tr sc d 259 (643, [some (.ref xk), l1, l2, l3], [.ref xk, .ref k1, .int i0], h) Q := t_aload_n k_259_642 rfl
theorem k_259_643 : lk 259 643 = some (.iload_n 3, 644, 3, 0, .null) := by decide +kernel
theorem x_259_643 : Tr sc d 259 (643, [l0, l1, l2, some (.int x)], [.ref k2, .ref k1, .int i0], h) Q = Tr sc d 259 (644, [l0, l1, l2, some (.int x)], [.int x, .ref k2, .ref k1, .int i0], h) Q := t_iload_n k_259_643 rfl
theorem k_259_644 : lk 259 644 = some (.iconst 1, 645, 0, 0, .int 1) := by decide +kernel
theorem x_259_644 : Tr sc d 259 (644, [l0, l1, l2, l3], [.int i3, .ref k2, .ref k1, .int i0], h) Q = Tr sc d 259 (645, [l0, l1, l2, l3], [.int 1, .int i3, .ref k2, .ref k1, .int i0], h) Q := t_go k_259_644 rfl
theorem k_259_645 : lk 259 645 = some (.iadd, 646, 0, 0, .null) := by decide +kernel
theorem x_259_645 : Tr sc d 259 (645, [l0, l1, l2, l3], [.int i4, .int i3, .ref k2, .ref k1, .int i0], h) Q = Tr sc d 259 (646, [l0, l1, l2, l3], [.int (i3 + i4), .ref k2, .ref k1, .int i0], h) Q := t_go k_259_645 rfl
theorem k_259_646 : lk 259 646 = some (.iaload, 647, 0, 0, .null) := by decide +kernel
theorem x_259_646 : Tr sc d 259 (646, [l0, l1, l2, l3], [.int i3, .ref k2, .ref k1, .int i0], h) Q = (iOk sc h k2 i3 ∧ Tr sc d 259 (647, [l0, l1, l2, l3], [.int (iRd sc h k2 i3), .ref k1, .int i0], h) Q) := t_iald k_259_646
theorem k_259_647 : lk 259 647 = some (.aload_n 0, 648, 0, 0, .null) := by decide +kernel
theorem x_259_647 : Tr sc d 259 (647, [some (.ref xk), l1, l2, l3], [.int i2, .ref k1, .int i0], h) Q = Tr sc d 259 (648, [some (.ref xk), l1, l2, l3], [.ref xk, .int i2, .ref k1, .int i0], h) Q := t_aload_n k_259_647 rfl
theorem k_259_648 : lk 259 648 = some (.iload_n 3, 649, 3, 0, .null) := by decide +kernel
theorem x_259_648 : Tr sc d 259 (648, [l0, l1, l2, some (.int x)], [.ref k3, .int i2, .ref k1, .int i0], h) Q = Tr sc d 259 (649, [l0, l1, l2, some (.int x)], [.int x, .ref k3, .int i2, .ref k1, .int i0], h) Q := t_iload_n k_259_648 rfl
theorem k_259_649 : lk 259 649 = some (.iconst 2, 650, 0, 0, .int 2) := by decide +kernel
theorem x_259_649 : Tr sc d 259 (649, [l0, l1, l2, l3], [.int i4, .ref k3, .int i2, .ref k1, .int i0], h) Q = Tr sc d 259 (650, [l0, l1, l2, l3], [.int 2, .int i4, .ref k3, .int i2, .ref k1, .int i0], h) Q := t_go k_259_649 rfl
theorem k_259_650 : lk 259 650 = some (.iadd, 651, 0, 0, .null) := by decide +kernel
theorem x_259_650 : Tr sc d 259 (650, [l0, l1, l2, l3], [.int i5, .int i4, .ref k3, .int i2, .ref k1, .int i0], h) Q = Tr sc d 259 (651, [l0, l1, l2, l3], [.int (i4 + i5), .ref k3, .int i2, .ref k1, .int i0], h) Q := t_go k_259_650 rfl
theorem k_259_651 : lk 259 651 = some (.iaload, 652, 0, 0, .null) := by decide +kernel
theorem x_259_651 : Tr sc d 259 (651, [l0, l1, l2, l3], [.int i4, .ref k3, .int i2, .ref k1, .int i0], h) Q = (iOk sc h k3 i4 ∧ Tr sc d 259 (652, [l0, l1, l2, l3], [.int (iRd sc h k3 i4), .int i2, .ref k1, .int i0], h) Q) := t_iald k_259_651
theorem k_259_652 : lk 259 652 = some (.invokevirtual 64, 655, 190, 2, .null) := by decide +kernel
theorem x_259_652 : Tr sc (d + 1) 259 (652, [l0, l1, l2, l3], [.int i3, .int i2, .ref k1, .int i0], h) Q = (okp h k1 10 = true ∧ Tr sc d 190 (ent0 190 [.ref k1, .int i2, .int i3] h) (fun z => Tr sc (d + 1) 259 (655, [l0, l1, l2, l3], z.1.toList ++ [.int i0], z.2) Q)) := t_cv (as := [.int i2, .int i3]) (r := [.int i0]) k_259_652 rfl rfl (Nat.le_of_ble_eq_true rfl) (Nat.le_of_ble_eq_true rfl) (Nat.le_of_ble_eq_true rfl)
theorem k_259_655 : lk 259 655 = some (.if_icmp .eq 1093, 658, 1748, 0, .null) := by decide +kernel
theorem x_259_655 : Tr sc d 259 (655, [l0, l1, l2, l3], [.int i1, .int i0], h) Q = if i0 = i1 then Tr sc d 259 (1748, [l0, l1, l2, l3], [], h) Q else Tr sc d 259 (658, [l0, l1, l2, l3], [], h) Q := t_if k_259_655 rfl
theorem k_259_658 : lk 259 658 = some (.iconst 0, 659, 0, 0, .int 0) := by decide +kernel
theorem x_259_658 : Tr sc d 259 (658, [l0, l1, l2, l3], [], h) Q = Tr sc d 259 (659, [l0, l1, l2, l3], [.int 0], h) Q := t_go k_259_658 rfl
theorem k_259_659 : lk 259 659 = some (.ireturn, 660, 0, 0, .null) := by decide +kernel
theorem x_259_659 : Tr sc d 259 (659, [l0, l1, l2, l3], [.int i0], h) Q = (vp_nar .boolean i0 = i0 ∧ Q (some (.int i0), h)) := t_zret k_259_659 r_259
theorem k_259_660 : lk 259 660 = some (.aload_n 1, 661, 1, 0, .null) := by decide +kernel
theorem x_259_660 : Tr sc d 259 (660, [l0, some (.ref xk), l2, l3], [], h) Q = Tr sc d 259 (661, [l0, some (.ref xk), l2, l3], [.ref xk], h) Q := t_aload_n k_259_660 rfl
theorem k_259_661 : lk 259 661 = some (.aload_n 0, 662, 0, 0, .null) := by decide +kernel
theorem x_259_661 : Tr sc d 259 (661, [some (.ref xk), l1, l2, l3], [.ref k0], h) Q = Tr sc d 259 (662, [some (.ref xk), l1, l2, l3], [.ref xk, .ref k0], h) Q := t_aload_n k_259_661 rfl
theorem k_259_662 : lk 259 662 = some (.iload_n 3, 663, 3, 0, .null) := by decide +kernel
theorem x_259_662 : Tr sc d 259 (662, [l0, l1, l2, some (.int x)], [.ref k1, .ref k0], h) Q = Tr sc d 259 (663, [l0, l1, l2, some (.int x)], [.int x, .ref k1, .ref k0], h) Q := t_iload_n k_259_662 rfl
theorem k_259_663 : lk 259 663 = some (.iconst 1, 664, 0, 0, .int 1) := by decide +kernel
theorem x_259_663 : Tr sc d 259 (663, [l0, l1, l2, l3], [.int i2, .ref k1, .ref k0], h) Q = Tr sc d 259 (664, [l0, l1, l2, l3], [.int 1, .int i2, .ref k1, .ref k0], h) Q := t_go k_259_663 rfl
theorem k_259_664 : lk 259 664 = some (.iadd, 665, 0, 0, .null) := by decide +kernel
theorem x_259_664 : Tr sc d 259 (664, [l0, l1, l2, l3], [.int i3, .int i2, .ref k1, .ref k0], h) Q = Tr sc d 259 (665, [l0, l1, l2, l3], [.int (i2 + i3), .ref k1, .ref k0], h) Q := t_go k_259_664 rfl
theorem k_259_665 : lk 259 665 = some (.iaload, 666, 0, 0, .null) := by decide +kernel
theorem x_259_665 : Tr sc d 259 (665, [l0, l1, l2, l3], [.int i2, .ref k1, .ref k0], h) Q = (iOk sc h k1 i2 ∧ Tr sc d 259 (666, [l0, l1, l2, l3], [.int (iRd sc h k1 i2), .ref k0], h) Q) := t_iald k_259_665
theorem k_259_666 : lk 259 666 = some (.invokevirtual 65, 669, 109, 1, .null) := by decide +kernel
theorem x_259_666 : Tr sc (d + 1) 259 (666, [l0, l1, l2, l3], [.int i1, .ref k0], h) Q = (okp h k0 9 = true ∧ Tr sc d 109 (ent0 109 [.ref k0, .int i1] h) (fun z => Tr sc (d + 1) 259 (669, [l0, l1, l2, l3], z.1.toList ++ [], z.2) Q)) := t_cv (as := [.int i1]) (r := []) k_259_666 rfl rfl (Nat.le_of_ble_eq_true rfl) (Nat.le_of_ble_eq_true rfl) (Nat.le_of_ble_eq_true rfl)
theorem k_259_669 : lk 259 669 = some (.aload_n 2, 670, 2, 0, .null) := by decide +kernel
theorem x_259_669 : Tr sc d 259 (669, [l0, l1, some (.ref xk), l3], [.int i0], h) Q = Tr sc d 259 (670, [l0, l1, some (.ref xk), l3], [.ref xk, .int i0], h) Q := t_aload_n k_259_669 rfl
theorem k_259_670 : lk 259 670 = some (.aload_n 0, 671, 0, 0, .null) := by decide +kernel
theorem x_259_670 : Tr sc d 259 (670, [some (.ref xk), l1, l2, l3], [.ref k1, .int i0], h) Q = Tr sc d 259 (671, [some (.ref xk), l1, l2, l3], [.ref xk, .ref k1, .int i0], h) Q := t_aload_n k_259_670 rfl
theorem k_259_671 : lk 259 671 = some (.iload_n 3, 672, 3, 0, .null) := by decide +kernel
theorem x_259_671 : Tr sc d 259 (671, [l0, l1, l2, some (.int x)], [.ref k2, .ref k1, .int i0], h) Q = Tr sc d 259 (672, [l0, l1, l2, some (.int x)], [.int x, .ref k2, .ref k1, .int i0], h) Q := t_iload_n k_259_671 rfl
theorem k_259_672 : lk 259 672 = some (.iconst 1, 673, 0, 0, .int 1) := by decide +kernel
theorem x_259_672 : Tr sc d 259 (672, [l0, l1, l2, l3], [.int i3, .ref k2, .ref k1, .int i0], h) Q = Tr sc d 259 (673, [l0, l1, l2, l3], [.int 1, .int i3, .ref k2, .ref k1, .int i0], h) Q := t_go k_259_672 rfl
theorem k_259_673 : lk 259 673 = some (.iadd, 674, 0, 0, .null) := by decide +kernel
theorem x_259_673 : Tr sc d 259 (673, [l0, l1, l2, l3], [.int i4, .int i3, .ref k2, .ref k1, .int i0], h) Q = Tr sc d 259 (674, [l0, l1, l2, l3], [.int (i3 + i4), .ref k2, .ref k1, .int i0], h) Q := t_go k_259_673 rfl
theorem k_259_674 : lk 259 674 = some (.iaload, 675, 0, 0, .null) := by decide +kernel
theorem x_259_674 : Tr sc d 259 (674, [l0, l1, l2, l3], [.int i3, .ref k2, .ref k1, .int i0], h) Q = (iOk sc h k2 i3 ∧ Tr sc d 259 (675, [l0, l1, l2, l3], [.int (iRd sc h k2 i3), .ref k1, .int i0], h) Q) := t_iald k_259_674
theorem k_259_675 : lk 259 675 = some (.invokevirtual 68, 678, 191, 1, .null) := by decide +kernel
theorem x_259_675 : Tr sc (d + 1) 259 (675, [l0, l1, l2, l3], [.int i2, .ref k1, .int i0], h) Q = (okp h k1 10 = true ∧ Tr sc d 191 (ent0 191 [.ref k1, .int i2] h) (fun z => Tr sc (d + 1) 259 (678, [l0, l1, l2, l3], z.1.toList ++ [.int i0], z.2) Q)) := t_cv (as := [.int i2]) (r := [.int i0]) k_259_675 rfl rfl (Nat.le_of_ble_eq_true rfl) (Nat.le_of_ble_eq_true rfl) (Nat.le_of_ble_eq_true rfl)
theorem k_259_678 : lk 259 678 = some (.if_icmp .eq 1070, 681, 1748, 0, .null) := by decide +kernel
theorem x_259_678 : Tr sc d 259 (678, [l0, l1, l2, l3], [.int i1, .int i0], h) Q = if i0 = i1 then Tr sc d 259 (1748, [l0, l1, l2, l3], [], h) Q else Tr sc d 259 (681, [l0, l1, l2, l3], [], h) Q := t_if k_259_678 rfl
theorem k_259_681 : lk 259 681 = some (.iconst 0, 682, 0, 0, .int 0) := by decide +kernel
theorem x_259_681 : Tr sc d 259 (681, [l0, l1, l2, l3], [], h) Q = Tr sc d 259 (682, [l0, l1, l2, l3], [.int 0], h) Q := t_go k_259_681 rfl
theorem k_259_682 : lk 259 682 = some (.ireturn, 683, 0, 0, .null) := by decide +kernel
theorem x_259_682 : Tr sc d 259 (682, [l0, l1, l2, l3], [.int i0], h) Q = (vp_nar .boolean i0 = i0 ∧ Q (some (.int i0), h)) := t_zret k_259_682 r_259
theorem k_259_683 : lk 259 683 = some (.aload_n 1, 684, 1, 0, .null) := by decide +kernel
theorem x_259_683 : Tr sc d 259 (683, [l0, some (.ref xk), l2, l3], [], h) Q = Tr sc d 259 (684, [l0, some (.ref xk), l2, l3], [.ref xk], h) Q := t_aload_n k_259_683 rfl
theorem k_259_684 : lk 259 684 = some (.aload_n 0, 685, 0, 0, .null) := by decide +kernel
theorem x_259_684 : Tr sc d 259 (684, [some (.ref xk), l1, l2, l3], [.ref k0], h) Q = Tr sc d 259 (685, [some (.ref xk), l1, l2, l3], [.ref xk, .ref k0], h) Q := t_aload_n k_259_684 rfl
theorem k_259_685 : lk 259 685 = some (.iload_n 3, 686, 3, 0, .null) := by decide +kernel
theorem x_259_685 : Tr sc d 259 (685, [l0, l1, l2, some (.int x)], [.ref k1, .ref k0], h) Q = Tr sc d 259 (686, [l0, l1, l2, some (.int x)], [.int x, .ref k1, .ref k0], h) Q := t_iload_n k_259_685 rfl
theorem k_259_686 : lk 259 686 = some (.iconst 1, 687, 0, 0, .int 1) := by decide +kernel
theorem x_259_686 : Tr sc d 259 (686, [l0, l1, l2, l3], [.int i2, .ref k1, .ref k0], h) Q = Tr sc d 259 (687, [l0, l1, l2, l3], [.int 1, .int i2, .ref k1, .ref k0], h) Q := t_go k_259_686 rfl
theorem k_259_687 : lk 259 687 = some (.iadd, 688, 0, 0, .null) := by decide +kernel
theorem x_259_687 : Tr sc d 259 (687, [l0, l1, l2, l3], [.int i3, .int i2, .ref k1, .ref k0], h) Q = Tr sc d 259 (688, [l0, l1, l2, l3], [.int (i2 + i3), .ref k1, .ref k0], h) Q := t_go k_259_687 rfl
theorem k_259_688 : lk 259 688 = some (.iaload, 689, 0, 0, .null) := by decide +kernel
theorem x_259_688 : Tr sc d 259 (688, [l0, l1, l2, l3], [.int i2, .ref k1, .ref k0], h) Q = (iOk sc h k1 i2 ∧ Tr sc d 259 (689, [l0, l1, l2, l3], [.int (iRd sc h k1 i2), .ref k0], h) Q) := t_iald k_259_688
theorem k_259_689 : lk 259 689 = some (.aload_n 0, 690, 0, 0, .null) := by decide +kernel
theorem x_259_689 : Tr sc d 259 (689, [some (.ref xk), l1, l2, l3], [.int i1, .ref k0], h) Q = Tr sc d 259 (690, [some (.ref xk), l1, l2, l3], [.ref xk, .int i1, .ref k0], h) Q := t_aload_n k_259_689 rfl
theorem k_259_690 : lk 259 690 = some (.iload_n 3, 691, 3, 0, .null) := by decide +kernel
theorem x_259_690 : Tr sc d 259 (690, [l0, l1, l2, some (.int x)], [.ref k2, .int i1, .ref k0], h) Q = Tr sc d 259 (691, [l0, l1, l2, some (.int x)], [.int x, .ref k2, .int i1, .ref k0], h) Q := t_iload_n k_259_690 rfl
theorem k_259_691 : lk 259 691 = some (.iconst 2, 692, 0, 0, .int 2) := by decide +kernel
theorem x_259_691 : Tr sc d 259 (691, [l0, l1, l2, l3], [.int i3, .ref k2, .int i1, .ref k0], h) Q = Tr sc d 259 (692, [l0, l1, l2, l3], [.int 2, .int i3, .ref k2, .int i1, .ref k0], h) Q := t_go k_259_691 rfl
theorem k_259_692 : lk 259 692 = some (.iadd, 693, 0, 0, .null) := by decide +kernel
theorem x_259_692 : Tr sc d 259 (692, [l0, l1, l2, l3], [.int i4, .int i3, .ref k2, .int i1, .ref k0], h) Q = Tr sc d 259 (693, [l0, l1, l2, l3], [.int (i3 + i4), .ref k2, .int i1, .ref k0], h) Q := t_go k_259_692 rfl
theorem k_259_693 : lk 259 693 = some (.iaload, 694, 0, 0, .null) := by decide +kernel
theorem x_259_693 : Tr sc d 259 (693, [l0, l1, l2, l3], [.int i3, .ref k2, .int i1, .ref k0], h) Q = (iOk sc h k2 i3 ∧ Tr sc d 259 (694, [l0, l1, l2, l3], [.int (iRd sc h k2 i3), .int i1, .ref k0], h) Q) := t_iald k_259_693
theorem k_259_694 : lk 259 694 = some (.invokevirtual 69, 697, 110, 2, .null) := by decide +kernel
theorem x_259_694 : Tr sc (d + 1) 259 (694, [l0, l1, l2, l3], [.int i2, .int i1, .ref k0], h) Q = (okp h k0 9 = true ∧ Tr sc d 110 (ent0 110 [.ref k0, .int i1, .int i2] h) (fun z => Tr sc (d + 1) 259 (697, [l0, l1, l2, l3], z.1.toList ++ [], z.2) Q)) := t_cv (as := [.int i1, .int i2]) (r := []) k_259_694 rfl rfl (Nat.le_of_ble_eq_true rfl) (Nat.le_of_ble_eq_true rfl) (Nat.le_of_ble_eq_true rfl)
theorem k_259_697 : lk 259 697 = some (.aload_n 2, 698, 2, 0, .null) := by decide +kernel
theorem x_259_697 : Tr sc d 259 (697, [l0, l1, some (.ref xk), l3], [.int i0], h) Q = Tr sc d 259 (698, [l0, l1, some (.ref xk), l3], [.ref xk, .int i0], h) Q := t_aload_n k_259_697 rfl
theorem k_259_698 : lk 259 698 = some (.aload_n 0, 699, 0, 0, .null) := by decide +kernel
theorem x_259_698 : Tr sc d 259 (698, [some (.ref xk), l1, l2, l3], [.ref k1, .int i0], h) Q = Tr sc d 259 (699, [some (.ref xk), l1, l2, l3], [.ref xk, .ref k1, .int i0], h) Q := t_aload_n k_259_698 rfl
theorem k_259_699 : lk 259 699 = some (.iload_n 3, 700, 3, 0, .null) := by decide +kernel
theorem x_259_699 : Tr sc d 259 (699, [l0, l1, l2, some (.int x)], [.ref k2, .ref k1, .int i0], h) Q = Tr sc d 259 (700, [l0, l1, l2, some (.int x)], [.int x, .ref k2, .ref k1, .int i0], h) Q := t_iload_n k_259_699 rfl
theorem k_259_700 : lk 259 700 = some (.iconst 1, 701, 0, 0, .int 1) := by decide +kernel
theorem x_259_700 : Tr sc d 259 (700, [l0, l1, l2, l3], [.int i3, .ref k2, .ref k1, .int i0], h) Q = Tr sc d 259 (701, [l0, l1, l2, l3], [.int 1, .int i3, .ref k2, .ref k1, .int i0], h) Q := t_go k_259_700 rfl
theorem k_259_701 : lk 259 701 = some (.iadd, 702, 0, 0, .null) := by decide +kernel
theorem x_259_701 : Tr sc d 259 (701, [l0, l1, l2, l3], [.int i4, .int i3, .ref k2, .ref k1, .int i0], h) Q = Tr sc d 259 (702, [l0, l1, l2, l3], [.int (i3 + i4), .ref k2, .ref k1, .int i0], h) Q := t_go k_259_701 rfl
theorem k_259_702 : lk 259 702 = some (.iaload, 703, 0, 0, .null) := by decide +kernel
theorem x_259_702 : Tr sc d 259 (702, [l0, l1, l2, l3], [.int i3, .ref k2, .ref k1, .int i0], h) Q = (iOk sc h k2 i3 ∧ Tr sc d 259 (703, [l0, l1, l2, l3], [.int (iRd sc h k2 i3), .ref k1, .int i0], h) Q) := t_iald k_259_702
theorem k_259_703 : lk 259 703 = some (.aload_n 0, 704, 0, 0, .null) := by decide +kernel
theorem x_259_703 : Tr sc d 259 (703, [some (.ref xk), l1, l2, l3], [.int i2, .ref k1, .int i0], h) Q = Tr sc d 259 (704, [some (.ref xk), l1, l2, l3], [.ref xk, .int i2, .ref k1, .int i0], h) Q := t_aload_n k_259_703 rfl
theorem k_259_704 : lk 259 704 = some (.iload_n 3, 705, 3, 0, .null) := by decide +kernel
theorem x_259_704 : Tr sc d 259 (704, [l0, l1, l2, some (.int x)], [.ref k3, .int i2, .ref k1, .int i0], h) Q = Tr sc d 259 (705, [l0, l1, l2, some (.int x)], [.int x, .ref k3, .int i2, .ref k1, .int i0], h) Q := t_iload_n k_259_704 rfl
theorem k_259_705 : lk 259 705 = some (.iconst 2, 706, 0, 0, .int 2) := by decide +kernel
theorem x_259_705 : Tr sc d 259 (705, [l0, l1, l2, l3], [.int i4, .ref k3, .int i2, .ref k1, .int i0], h) Q = Tr sc d 259 (706, [l0, l1, l2, l3], [.int 2, .int i4, .ref k3, .int i2, .ref k1, .int i0], h) Q := t_go k_259_705 rfl
theorem k_259_706 : lk 259 706 = some (.iadd, 707, 0, 0, .null) := by decide +kernel
theorem x_259_706 : Tr sc d 259 (706, [l0, l1, l2, l3], [.int i5, .int i4, .ref k3, .int i2, .ref k1, .int i0], h) Q = Tr sc d 259 (707, [l0, l1, l2, l3], [.int (i4 + i5), .ref k3, .int i2, .ref k1, .int i0], h) Q := t_go k_259_706 rfl
theorem k_259_707 : lk 259 707 = some (.iaload, 708, 0, 0, .null) := by decide +kernel
theorem x_259_707 : Tr sc d 259 (707, [l0, l1, l2, l3], [.int i4, .ref k3, .int i2, .ref k1, .int i0], h) Q = (iOk sc h k3 i4 ∧ Tr sc d 259 (708, [l0, l1, l2, l3], [.int (iRd sc h k3 i4), .int i2, .ref k1, .int i0], h) Q) := t_iald k_259_707
theorem k_259_708 : lk 259 708 = some (.invokevirtual 72, 711, 192, 2, .null) := by decide +kernel
theorem x_259_708 : Tr sc (d + 1) 259 (708, [l0, l1, l2, l3], [.int i3, .int i2, .ref k1, .int i0], h) Q = (okp h k1 10 = true ∧ Tr sc d 192 (ent0 192 [.ref k1, .int i2, .int i3] h) (fun z => Tr sc (d + 1) 259 (711, [l0, l1, l2, l3], z.1.toList ++ [.int i0], z.2) Q)) := t_cv (as := [.int i2, .int i3]) (r := [.int i0]) k_259_708 rfl rfl (Nat.le_of_ble_eq_true rfl) (Nat.le_of_ble_eq_true rfl) (Nat.le_of_ble_eq_true rfl)
theorem k_259_711 : lk 259 711 = some (.if_icmp .eq 1037, 714, 1748, 0, .null) := by decide +kernel
theorem x_259_711 : Tr sc d 259 (711, [l0, l1, l2, l3], [.int i1, .int i0], h) Q = if i0 = i1 then Tr sc d 259 (1748, [l0, l1, l2, l3], [], h) Q else Tr sc d 259 (714, [l0, l1, l2, l3], [], h) Q := t_if k_259_711 rfl
theorem k_259_714 : lk 259 714 = some (.iconst 0, 715, 0, 0, .int 0) := by decide +kernel
theorem x_259_714 : Tr sc d 259 (714, [l0, l1, l2, l3], [], h) Q = Tr sc d 259 (715, [l0, l1, l2, l3], [.int 0], h) Q := t_go k_259_714 rfl
theorem k_259_715 : lk 259 715 = some (.ireturn, 716, 0, 0, .null) := by decide +kernel
theorem x_259_715 : Tr sc d 259 (715, [l0, l1, l2, l3], [.int i0], h) Q = (vp_nar .boolean i0 = i0 ∧ Q (some (.int i0), h)) := t_zret k_259_715 r_259
theorem k_259_716 : lk 259 716 = some (.aload_n 1, 717, 1, 0, .null) := by decide +kernel
theorem x_259_716 : Tr sc d 259 (716, [l0, some (.ref xk), l2, l3], [], h) Q = Tr sc d 259 (717, [l0, some (.ref xk), l2, l3], [.ref xk], h) Q := t_aload_n k_259_716 rfl
theorem k_259_717 : lk 259 717 = some (.aload_n 0, 718, 0, 0, .null) := by decide +kernel
theorem x_259_717 : Tr sc d 259 (717, [some (.ref xk), l1, l2, l3], [.ref k0], h) Q = Tr sc d 259 (718, [some (.ref xk), l1, l2, l3], [.ref xk, .ref k0], h) Q := t_aload_n k_259_717 rfl
theorem k_259_718 : lk 259 718 = some (.iload_n 3, 719, 3, 0, .null) := by decide +kernel
theorem x_259_718 : Tr sc d 259 (718, [l0, l1, l2, some (.int x)], [.ref k1, .ref k0], h) Q = Tr sc d 259 (719, [l0, l1, l2, some (.int x)], [.int x, .ref k1, .ref k0], h) Q := t_iload_n k_259_718 rfl
theorem k_259_719 : lk 259 719 = some (.iconst 1, 720, 0, 0, .int 1) := by decide +kernel
theorem x_259_719 : Tr sc d 259 (719, [l0, l1, l2, l3], [.int i2, .ref k1, .ref k0], h) Q = Tr sc d 259 (720, [l0, l1, l2, l3], [.int 1, .int i2, .ref k1, .ref k0], h) Q := t_go k_259_719 rfl
theorem k_259_720 : lk 259 720 = some (.iadd, 721, 0, 0, .null) := by decide +kernel
theorem x_259_720 : Tr sc d 259 (720, [l0, l1, l2, l3], [.int i3, .int i2, .ref k1, .ref k0], h) Q = Tr sc d 259 (721, [l0, l1, l2, l3], [.int (i2 + i3), .ref k1, .ref k0], h) Q := t_go k_259_720 rfl
theorem k_259_721 : lk 259 721 = some (.iaload, 722, 0, 0, .null) := by decide +kernel
theorem x_259_721 : Tr sc d 259 (721, [l0, l1, l2, l3], [.int i2, .ref k1, .ref k0], h) Q = (iOk sc h k1 i2 ∧ Tr sc d 259 (722, [l0, l1, l2, l3], [.int (iRd sc h k1 i2), .ref k0], h) Q) := t_iald k_259_721
theorem k_259_722 : lk 259 722 = some (.aload_n 0, 723, 0, 0, .null) := by decide +kernel
theorem x_259_722 : Tr sc d 259 (722, [some (.ref xk), l1, l2, l3], [.int i1, .ref k0], h) Q = Tr sc d 259 (723, [some (.ref xk), l1, l2, l3], [.ref xk, .int i1, .ref k0], h) Q := t_aload_n k_259_722 rfl
theorem k_259_723 : lk 259 723 = some (.iload_n 3, 724, 3, 0, .null) := by decide +kernel
theorem x_259_723 : Tr sc d 259 (723, [l0, l1, l2, some (.int x)], [.ref k2, .int i1, .ref k0], h) Q = Tr sc d 259 (724, [l0, l1, l2, some (.int x)], [.int x, .ref k2, .int i1, .ref k0], h) Q := t_iload_n k_259_723 rfl
theorem k_259_724 : lk 259 724 = some (.iconst 2, 725, 0, 0, .int 2) := by decide +kernel
theorem x_259_724 : Tr sc d 259 (724, [l0, l1, l2, l3], [.int i3, .ref k2, .int i1, .ref k0], h) Q = Tr sc d 259 (725, [l0, l1, l2, l3], [.int 2, .int i3, .ref k2, .int i1, .ref k0], h) Q := t_go k_259_724 rfl
theorem k_259_725 : lk 259 725 = some (.iadd, 726, 0, 0, .null) := by decide +kernel
theorem x_259_725 : Tr sc d 259 (725, [l0, l1, l2, l3], [.int i4, .int i3, .ref k2, .int i1, .ref k0], h) Q = Tr sc d 259 (726, [l0, l1, l2, l3], [.int (i3 + i4), .ref k2, .int i1, .ref k0], h) Q := t_go k_259_725 rfl
theorem k_259_726 : lk 259 726 = some (.iaload, 727, 0, 0, .null) := by decide +kernel
theorem x_259_726 : Tr sc d 259 (726, [l0, l1, l2, l3], [.int i3, .ref k2, .int i1, .ref k0], h) Q = (iOk sc h k2 i3 ∧ Tr sc d 259 (727, [l0, l1, l2, l3], [.int (iRd sc h k2 i3), .int i1, .ref k0], h) Q) := t_iald k_259_726
theorem k_259_727 : lk 259 727 = some (.aload_n 0, 728, 0, 0, .null) := by decide +kernel
theorem x_259_727 : Tr sc d 259 (727, [some (.ref xk), l1, l2, l3], [.int i2, .int i1, .ref k0], h) Q = Tr sc d 259 (728, [some (.ref xk), l1, l2, l3], [.ref xk, .int i2, .int i1, .ref k0], h) Q := t_aload_n k_259_727 rfl
theorem k_259_728 : lk 259 728 = some (.iload_n 3, 729, 3, 0, .null) := by decide +kernel
theorem x_259_728 : Tr sc d 259 (728, [l0, l1, l2, some (.int x)], [.ref k3, .int i2, .int i1, .ref k0], h) Q = Tr sc d 259 (729, [l0, l1, l2, some (.int x)], [.int x, .ref k3, .int i2, .int i1, .ref k0], h) Q := t_iload_n k_259_728 rfl
theorem k_259_729 : lk 259 729 = some (.iconst 3, 730, 0, 0, .int 3) := by decide +kernel
theorem x_259_729 : Tr sc d 259 (729, [l0, l1, l2, l3], [.int i4, .ref k3, .int i2, .int i1, .ref k0], h) Q = Tr sc d 259 (730, [l0, l1, l2, l3], [.int 3, .int i4, .ref k3, .int i2, .int i1, .ref k0], h) Q := t_go k_259_729 rfl
theorem k_259_730 : lk 259 730 = some (.iadd, 731, 0, 0, .null) := by decide +kernel
theorem x_259_730 : Tr sc d 259 (730, [l0, l1, l2, l3], [.int i5, .int i4, .ref k3, .int i2, .int i1, .ref k0], h) Q = Tr sc d 259 (731, [l0, l1, l2, l3], [.int (i4 + i5), .ref k3, .int i2, .int i1, .ref k0], h) Q := t_go k_259_730 rfl
theorem k_259_731 : lk 259 731 = some (.iaload, 732, 0, 0, .null) := by decide +kernel
theorem x_259_731 : Tr sc d 259 (731, [l0, l1, l2, l3], [.int i4, .ref k3, .int i2, .int i1, .ref k0], h) Q = (iOk sc h k3 i4 ∧ Tr sc d 259 (732, [l0, l1, l2, l3], [.int (iRd sc h k3 i4), .int i2, .int i1, .ref k0], h) Q) := t_iald k_259_731
theorem k_259_732 : lk 259 732 = some (.invokevirtual 73, 735, 111, 3, .null) := by decide +kernel
theorem x_259_732 : Tr sc (d + 1) 259 (732, [l0, l1, l2, l3], [.int i3, .int i2, .int i1, .ref k0], h) Q = (okp h k0 9 = true ∧ Tr sc d 111 (ent0 111 [.ref k0, .int i1, .int i2, .int i3] h) (fun z => Tr sc (d + 1) 259 (735, [l0, l1, l2, l3], z.1.toList ++ [], z.2) Q)) := t_cv (as := [.int i1, .int i2, .int i3]) (r := []) k_259_732 rfl rfl (Nat.le_of_ble_eq_true rfl) (Nat.le_of_ble_eq_true rfl) (Nat.le_of_ble_eq_true rfl)
theorem k_259_735 : lk 259 735 = some (.aload_n 2, 736, 2, 0, .null) := by decide +kernel
theorem x_259_735 : Tr sc d 259 (735, [l0, l1, some (.ref xk), l3], [.int i0], h) Q = Tr sc d 259 (736, [l0, l1, some (.ref xk), l3], [.ref xk, .int i0], h) Q := t_aload_n k_259_735 rfl
theorem k_259_736 : lk 259 736 = some (.aload_n 0, 737, 0, 0, .null) := by decide +kernel
theorem x_259_736 : Tr sc d 259 (736, [some (.ref xk), l1, l2, l3], [.ref k1, .int i0], h) Q = Tr sc d 259 (737, [some (.ref xk), l1, l2, l3], [.ref xk, .ref k1, .int i0], h) Q := t_aload_n k_259_736 rfl
theorem k_259_737 : lk 259 737 = some (.iload_n 3, 738, 3, 0, .null) := by decide +kernel
theorem x_259_737 : Tr sc d 259 (737, [l0, l1, l2, some (.int x)], [.ref k2, .ref k1, .int i0], h) Q = Tr sc d 259 (738, [l0, l1, l2, some (.int x)], [.int x, .ref k2, .ref k1, .int i0], h) Q := t_iload_n k_259_737 rfl
theorem k_259_738 : lk 259 738 = some (.iconst 1, 739, 0, 0, .int 1) := by decide +kernel
theorem x_259_738 : Tr sc d 259 (738, [l0, l1, l2, l3], [.int i3, .ref k2, .ref k1, .int i0], h) Q = Tr sc d 259 (739, [l0, l1, l2, l3], [.int 1, .int i3, .ref k2, .ref k1, .int i0], h) Q := t_go k_259_738 rfl
theorem k_259_739 : lk 259 739 = some (.iadd, 740, 0, 0, .null) := by decide +kernel
theorem x_259_739 : Tr sc d 259 (739, [l0, l1, l2, l3], [.int i4, .int i3, .ref k2, .ref k1, .int i0], h) Q = Tr sc d 259 (740, [l0, l1, l2, l3], [.int (i3 + i4), .ref k2, .ref k1, .int i0], h) Q := t_go k_259_739 rfl
theorem k_259_740 : lk 259 740 = some (.iaload, 741, 0, 0, .null) := by decide +kernel
theorem x_259_740 : Tr sc d 259 (740, [l0, l1, l2, l3], [.int i3, .ref k2, .ref k1, .int i0], h) Q = (iOk sc h k2 i3 ∧ Tr sc d 259 (741, [l0, l1, l2, l3], [.int (iRd sc h k2 i3), .ref k1, .int i0], h) Q) := t_iald k_259_740
theorem k_259_741 : lk 259 741 = some (.aload_n 0, 742, 0, 0, .null) := by decide +kernel
theorem x_259_741 : Tr sc d 259 (741, [some (.ref xk), l1, l2, l3], [.int i2, .ref k1, .int i0], h) Q = Tr sc d 259 (742, [some (.ref xk), l1, l2, l3], [.ref xk, .int i2, .ref k1, .int i0], h) Q := t_aload_n k_259_741 rfl
theorem k_259_742 : lk 259 742 = some (.iload_n 3, 743, 3, 0, .null) := by decide +kernel
theorem x_259_742 : Tr sc d 259 (742, [l0, l1, l2, some (.int x)], [.ref k3, .int i2, .ref k1, .int i0], h) Q = Tr sc d 259 (743, [l0, l1, l2, some (.int x)], [.int x, .ref k3, .int i2, .ref k1, .int i0], h) Q := t_iload_n k_259_742 rfl
theorem k_259_743 : lk 259 743 = some (.iconst 2, 744, 0, 0, .int 2) := by decide +kernel
theorem x_259_743 : Tr sc d 259 (743, [l0, l1, l2, l3], [.int i4, .ref k3, .int i2, .ref k1, .int i0], h) Q = Tr sc d 259 (744, [l0, l1, l2, l3], [.int 2, .int i4, .ref k3, .int i2, .ref k1, .int i0], h) Q := t_go k_259_743 rfl
theorem k_259_744 : lk 259 744 = some (.iadd, 745, 0, 0, .null) := by decide +kernel
theorem x_259_744 : Tr sc d 259 (744, [l0, l1, l2, l3], [.int i5, .int i4, .ref k3, .int i2, .ref k1, .int i0], h) Q = Tr sc d 259 (745, [l0, l1, l2, l3], [.int (i4 + i5), .ref k3, .int i2, .ref k1, .int i0], h) Q := t_go k_259_744 rfl
theorem k_259_745 : lk 259 745 = some (.iaload, 746, 0, 0, .null) := by decide +kernel
theorem x_259_745 : Tr sc d 259 (745, [l0, l1, l2, l3], [.int i4, .ref k3, .int i2, .ref k1, .int i0], h) Q = (iOk sc h k3 i4 ∧ Tr sc d 259 (746, [l0, l1, l2, l3], [.int (iRd sc h k3 i4), .int i2, .ref k1, .int i0], h) Q) := t_iald k_259_745
theorem k_259_746 : lk 259 746 = some (.aload_n 0, 747, 0, 0, .null) := by decide +kernel
theorem x_259_746 : Tr sc d 259 (746, [some (.ref xk), l1, l2, l3], [.int i3, .int i2, .ref k1, .int i0], h) Q = Tr sc d 259 (747, [some (.ref xk), l1, l2, l3], [.ref xk, .int i3, .int i2, .ref k1, .int i0], h) Q := t_aload_n k_259_746 rfl
theorem k_259_747 : lk 259 747 = some (.iload_n 3, 748, 3, 0, .null) := by decide +kernel
theorem x_259_747 : Tr sc d 259 (747, [l0, l1, l2, some (.int x)], [.ref k4, .int i3, .int i2, .ref k1, .int i0], h) Q = Tr sc d 259 (748, [l0, l1, l2, some (.int x)], [.int x, .ref k4, .int i3, .int i2, .ref k1, .int i0], h) Q := t_iload_n k_259_747 rfl
theorem k_259_748 : lk 259 748 = some (.iconst 3, 749, 0, 0, .int 3) := by decide +kernel
theorem x_259_748 : Tr sc d 259 (748, [l0, l1, l2, l3], [.int i5, .ref k4, .int i3, .int i2, .ref k1, .int i0], h) Q = Tr sc d 259 (749, [l0, l1, l2, l3], [.int 3, .int i5, .ref k4, .int i3, .int i2, .ref k1, .int i0], h) Q := t_go k_259_748 rfl
theorem k_259_749 : lk 259 749 = some (.iadd, 750, 0, 0, .null) := by decide +kernel
theorem x_259_749 : Tr sc d 259 (749, [l0, l1, l2, l3], [.int i6, .int i5, .ref k4, .int i3, .int i2, .ref k1, .int i0], h) Q = Tr sc d 259 (750, [l0, l1, l2, l3], [.int (i5 + i6), .ref k4, .int i3, .int i2, .ref k1, .int i0], h) Q := t_go k_259_749 rfl
theorem k_259_750 : lk 259 750 = some (.iaload, 751, 0, 0, .null) := by decide +kernel
theorem x_259_750 : Tr sc d 259 (750, [l0, l1, l2, l3], [.int i5, .ref k4, .int i3, .int i2, .ref k1, .int i0], h) Q = (iOk sc h k4 i5 ∧ Tr sc d 259 (751, [l0, l1, l2, l3], [.int (iRd sc h k4 i5), .int i3, .int i2, .ref k1, .int i0], h) Q) := t_iald k_259_750
theorem k_259_751 : lk 259 751 = some (.invokevirtual 76, 754, 193, 3, .null) := by decide +kernel
theorem x_259_751 : Tr sc (d + 1) 259 (751, [l0, l1, l2, l3], [.int i4, .int i3, .int i2, .ref k1, .int i0], h) Q = (okp h k1 10 = true ∧ Tr sc d 193 (ent0 193 [.ref k1, .int i2, .int i3, .int i4] h) (fun z => Tr sc (d + 1) 259 (754, [l0, l1, l2, l3], z.1.toList ++ [.int i0], z.2) Q)) := t_cv (as := [.int i2, .int i3, .int i4]) (r := [.int i0]) k_259_751 rfl rfl (Nat.le_of_ble_eq_true rfl) (Nat.le_of_ble_eq_true rfl) (Nat.le_of_ble_eq_true rfl)
theorem k_259_754 : lk 259 754 = some (.if_icmp .eq 994, 757, 1748, 0, .null) := by decide +kernel
theorem x_259_754 : Tr sc d 259 (754, [l0, l1, l2, l3], [.int i1, .int i0], h) Q = if i0 = i1 then Tr sc d 259 (1748, [l0, l1, l2, l3], [], h) Q else Tr sc d 259 (757, [l0, l1, l2, l3], [], h) Q := t_if k_259_754 rfl
theorem k_259_757 : lk 259 757 = some (.iconst 0, 758, 0, 0, .int 0) := by decide +kernel
theorem x_259_757 : Tr sc d 259 (757, [l0, l1, l2, l3], [], h) Q = Tr sc d 259 (758, [l0, l1, l2, l3], [.int 0], h) Q := t_go k_259_757 rfl
theorem k_259_758 : lk 259 758 = some (.ireturn, 759, 0, 0, .null) := by decide +kernel
theorem x_259_758 : Tr sc d 259 (758, [l0, l1, l2, l3], [.int i0], h) Q = (vp_nar .boolean i0 = i0 ∧ Q (some (.int i0), h)) := t_zret k_259_758 r_259
theorem k_259_759 : lk 259 759 = some (.aload_n 1, 760, 1, 0, .null) := by decide +kernel
theorem x_259_759 : Tr sc d 259 (759, [l0, some (.ref xk), l2, l3], [], h) Q = Tr sc d 259 (760, [l0, some (.ref xk), l2, l3], [.ref xk], h) Q := t_aload_n k_259_759 rfl
theorem k_259_760 : lk 259 760 = some (.aload_n 0, 761, 0, 0, .null) := by decide +kernel
theorem x_259_760 : Tr sc d 259 (760, [some (.ref xk), l1, l2, l3], [.ref k0], h) Q = Tr sc d 259 (761, [some (.ref xk), l1, l2, l3], [.ref xk, .ref k0], h) Q := t_aload_n k_259_760 rfl
theorem k_259_761 : lk 259 761 = some (.iload_n 3, 762, 3, 0, .null) := by decide +kernel
theorem x_259_761 : Tr sc d 259 (761, [l0, l1, l2, some (.int x)], [.ref k1, .ref k0], h) Q = Tr sc d 259 (762, [l0, l1, l2, some (.int x)], [.int x, .ref k1, .ref k0], h) Q := t_iload_n k_259_761 rfl
theorem k_259_762 : lk 259 762 = some (.iconst 1, 763, 0, 0, .int 1) := by decide +kernel
theorem x_259_762 : Tr sc d 259 (762, [l0, l1, l2, l3], [.int i2, .ref k1, .ref k0], h) Q = Tr sc d 259 (763, [l0, l1, l2, l3], [.int 1, .int i2, .ref k1, .ref k0], h) Q := t_go k_259_762 rfl
theorem k_259_763 : lk 259 763 = some (.iadd, 764, 0, 0, .null) := by decide +kernel
theorem x_259_763 : Tr sc d 259 (763, [l0, l1, l2, l3], [.int i3, .int i2, .ref k1, .ref k0], h) Q = Tr sc d 259 (764, [l0, l1, l2, l3], [.int (i2 + i3), .ref k1, .ref k0], h) Q := t_go k_259_763 rfl
theorem k_259_764 : lk 259 764 = some (.iaload, 765, 0, 0, .null) := by decide +kernel
theorem x_259_764 : Tr sc d 259 (764, [l0, l1, l2, l3], [.int i2, .ref k1, .ref k0], h) Q = (iOk sc h k1 i2 ∧ Tr sc d 259 (765, [l0, l1, l2, l3], [.int (iRd sc h k1 i2), .ref k0], h) Q) := t_iald k_259_764
theorem k_259_765 : lk 259 765 = some (.aload_n 0, 766, 0, 0, .null) := by decide +kernel
theorem x_259_765 : Tr sc d 259 (765, [some (.ref xk), l1, l2, l3], [.int i1, .ref k0], h) Q = Tr sc d 259 (766, [some (.ref xk), l1, l2, l3], [.ref xk, .int i1, .ref k0], h) Q := t_aload_n k_259_765 rfl
theorem k_259_766 : lk 259 766 = some (.iload_n 3, 767, 3, 0, .null) := by decide +kernel
theorem x_259_766 : Tr sc d 259 (766, [l0, l1, l2, some (.int x)], [.ref k2, .int i1, .ref k0], h) Q = Tr sc d 259 (767, [l0, l1, l2, some (.int x)], [.int x, .ref k2, .int i1, .ref k0], h) Q := t_iload_n k_259_766 rfl
theorem k_259_767 : lk 259 767 = some (.iconst 2, 768, 0, 0, .int 2) := by decide +kernel
theorem x_259_767 : Tr sc d 259 (767, [l0, l1, l2, l3], [.int i3, .ref k2, .int i1, .ref k0], h) Q = Tr sc d 259 (768, [l0, l1, l2, l3], [.int 2, .int i3, .ref k2, .int i1, .ref k0], h) Q := t_go k_259_767 rfl
theorem k_259_768 : lk 259 768 = some (.iadd, 769, 0, 0, .null) := by decide +kernel
theorem x_259_768 : Tr sc d 259 (768, [l0, l1, l2, l3], [.int i4, .int i3, .ref k2, .int i1, .ref k0], h) Q = Tr sc d 259 (769, [l0, l1, l2, l3], [.int (i3 + i4), .ref k2, .int i1, .ref k0], h) Q := t_go k_259_768 rfl
theorem k_259_769 : lk 259 769 = some (.iaload, 770, 0, 0, .null) := by decide +kernel
theorem x_259_769 : Tr sc d 259 (769, [l0, l1, l2, l3], [.int i3, .ref k2, .int i1, .ref k0], h) Q = (iOk sc h k2 i3 ∧ Tr sc d 259 (770, [l0, l1, l2, l3], [.int (iRd sc h k2 i3), .int i1, .ref k0], h) Q) := t_iald k_259_769
theorem k_259_770 : lk 259 770 = some (.invokevirtual 77, 773, 112, 2, .null) := by decide +kernel
theorem x_259_770 : Tr sc (d + 1) 259 (770, [l0, l1, l2, l3], [.int i2, .int i1, .ref k0], h) Q = (okp h k0 9 = true ∧ Tr sc d 112 (ent0 112 [.ref k0, .int i1, .int i2] h) (fun z => Tr sc (d + 1) 259 (773, [l0, l1, l2, l3], z.1.toList ++ [], z.2) Q)) := t_cv (as := [.int i1, .int i2]) (r := []) k_259_770 rfl rfl (Nat.le_of_ble_eq_true rfl) (Nat.le_of_ble_eq_true rfl) (Nat.le_of_ble_eq_true rfl)
theorem k_259_773 : lk 259 773 = some (.aload_n 2, 774, 2, 0, .null) := by decide +kernel
theorem x_259_773 : Tr sc d 259 (773, [l0, l1, some (.ref xk), l3], [.int i0], h) Q = Tr sc d 259 (774, [l0, l1, some (.ref xk), l3], [.ref xk, .int i0], h) Q := t_aload_n k_259_773 rfl
theorem k_259_774 : lk 259 774 = some (.aload_n 0, 775, 0, 0, .null) := by decide +kernel
theorem x_259_774 : Tr sc d 259 (774, [some (.ref xk), l1, l2, l3], [.ref k1, .int i0], h) Q = Tr sc d 259 (775, [some (.ref xk), l1, l2, l3], [.ref xk, .ref k1, .int i0], h) Q := t_aload_n k_259_774 rfl
theorem k_259_775 : lk 259 775 = some (.iload_n 3, 776, 3, 0, .null) := by decide +kernel
theorem x_259_775 : Tr sc d 259 (775, [l0, l1, l2, some (.int x)], [.ref k2, .ref k1, .int i0], h) Q = Tr sc d 259 (776, [l0, l1, l2, some (.int x)], [.int x, .ref k2, .ref k1, .int i0], h) Q := t_iload_n k_259_775 rfl
theorem k_259_776 : lk 259 776 = some (.iconst 1, 777, 0, 0, .int 1) := by decide +kernel
theorem x_259_776 : Tr sc d 259 (776, [l0, l1, l2, l3], [.int i3, .ref k2, .ref k1, .int i0], h) Q = Tr sc d 259 (777, [l0, l1, l2, l3], [.int 1, .int i3, .ref k2, .ref k1, .int i0], h) Q := t_go k_259_776 rfl
theorem k_259_777 : lk 259 777 = some (.iadd, 778, 0, 0, .null) := by decide +kernel
theorem x_259_777 : Tr sc d 259 (777, [l0, l1, l2, l3], [.int i4, .int i3, .ref k2, .ref k1, .int i0], h) Q = Tr sc d 259 (778, [l0, l1, l2, l3], [.int (i3 + i4), .ref k2, .ref k1, .int i0], h) Q := t_go k_259_777 rfl
theorem k_259_778 : lk 259 778 = some (.iaload, 779, 0, 0, .null) := by decide +kernel
theorem x_259_778 : Tr sc d 259 (778, [l0, l1, l2, l3], [.int i3, .ref k2, .ref k1, .int i0], h) Q = (iOk sc h k2 i3 ∧ Tr sc d 259 (779, [l0, l1, l2, l3], [.int (iRd sc h k2 i3), .ref k1, .int i0], h) Q) := t_iald k_259_778
theorem k_259_779 : lk 259 779 = some (.aload_n 0, 780, 0, 0, .null) := by decide +kernel
theorem x_259_779 : Tr sc d 259 (779, [some (.ref xk), l1, l2, l3], [.int i2, .ref k1, .int i0], h) Q = Tr sc d 259 (780, [some (.ref xk), l1, l2, l3], [.ref xk, .int i2, .ref k1, .int i0], h) Q := t_aload_n k_259_779 rfl
theorem k_259_780 : lk 259 780 = some (.iload_n 3, 781, 3, 0, .null) := by decide +kernel
theorem x_259_780 : Tr sc d 259 (780, [l0, l1, l2, some (.int x)], [.ref k3, .int i2, .ref k1, .int i0], h) Q = Tr sc d 259 (781, [l0, l1, l2, some (.int x)], [.int x, .ref k3, .int i2, .ref k1, .int i0], h) Q := t_iload_n k_259_780 rfl
theorem k_259_781 : lk 259 781 = some (.iconst 2, 782, 0, 0, .int 2) := by decide +kernel
theorem x_259_781 : Tr sc d 259 (781, [l0, l1, l2, l3], [.int i4, .ref k3, .int i2, .ref k1, .int i0], h) Q = Tr sc d 259 (782, [l0, l1, l2, l3], [.int 2, .int i4, .ref k3, .int i2, .ref k1, .int i0], h) Q := t_go k_259_781 rfl
theorem k_259_782 : lk 259 782 = some (.iadd, 783, 0, 0, .null) := by decide +kernel
theorem x_259_782 : Tr sc d 259 (782, [l0, l1, l2, l3], [.int i5, .int i4, .ref k3, .int i2, .ref k1, .int i0], h) Q = Tr sc d 259 (783, [l0, l1, l2, l3], [.int (i4 + i5), .ref k3, .int i2, .ref k1, .int i0], h) Q := t_go k_259_782 rfl
theorem k_259_783 : lk 259 783 = some (.iaload, 784, 0, 0, .null) := by decide +kernel
theorem x_259_783 : Tr sc d 259 (783, [l0, l1, l2, l3], [.int i4, .ref k3, .int i2, .ref k1, .int i0], h) Q = (iOk sc h k3 i4 ∧ Tr sc d 259 (784, [l0, l1, l2, l3], [.int (iRd sc h k3 i4), .int i2, .ref k1, .int i0], h) Q) := t_iald k_259_783
theorem k_259_784 : lk 259 784 = some (.invokevirtual 80, 787, 195, 2, .null) := by decide +kernel
theorem x_259_784 : Tr sc (d + 1) 259 (784, [l0, l1, l2, l3], [.int i3, .int i2, .ref k1, .int i0], h) Q = (okp h k1 10 = true ∧ Tr sc d 195 (ent0 195 [.ref k1, .int i2, .int i3] h) (fun z => Tr sc (d + 1) 259 (787, [l0, l1, l2, l3], z.1.toList ++ [.int i0], z.2) Q)) := t_cv (as := [.int i2, .int i3]) (r := [.int i0]) k_259_784 rfl rfl (Nat.le_of_ble_eq_true rfl) (Nat.le_of_ble_eq_true rfl) (Nat.le_of_ble_eq_true rfl)
theorem k_259_787 : lk 259 787 = some (.if_icmp .eq 961, 790, 1748, 0, .null) := by decide +kernel
theorem x_259_787 : Tr sc d 259 (787, [l0, l1, l2, l3], [.int i1, .int i0], h) Q = if i0 = i1 then Tr sc d 259 (1748, [l0, l1, l2, l3], [], h) Q else Tr sc d 259 (790, [l0, l1, l2, l3], [], h) Q := t_if k_259_787 rfl
theorem k_259_790 : lk 259 790 = some (.iconst 0, 791, 0, 0, .int 0) := by decide +kernel
theorem x_259_790 : Tr sc d 259 (790, [l0, l1, l2, l3], [], h) Q = Tr sc d 259 (791, [l0, l1, l2, l3], [.int 0], h) Q := t_go k_259_790 rfl
theorem k_259_791 : lk 259 791 = some (.ireturn, 792, 0, 0, .null) := by decide +kernel
theorem x_259_791 : Tr sc d 259 (791, [l0, l1, l2, l3], [.int i0], h) Q = (vp_nar .boolean i0 = i0 ∧ Q (some (.int i0), h)) := t_zret k_259_791 r_259
theorem k_259_792 : lk 259 792 = some (.aload_n 1, 793, 1, 0, .null) := by decide +kernel
theorem x_259_792 : Tr sc d 259 (792, [l0, some (.ref xk), l2, l3], [], h) Q = Tr sc d 259 (793, [l0, some (.ref xk), l2, l3], [.ref xk], h) Q := t_aload_n k_259_792 rfl
theorem k_259_793 : lk 259 793 = some (.aload_n 0, 794, 0, 0, .null) := by decide +kernel
theorem x_259_793 : Tr sc d 259 (793, [some (.ref xk), l1, l2, l3], [.ref k0], h) Q = Tr sc d 259 (794, [some (.ref xk), l1, l2, l3], [.ref xk, .ref k0], h) Q := t_aload_n k_259_793 rfl
theorem k_259_794 : lk 259 794 = some (.iload_n 3, 795, 3, 0, .null) := by decide +kernel
theorem x_259_794 : Tr sc d 259 (794, [l0, l1, l2, some (.int x)], [.ref k1, .ref k0], h) Q = Tr sc d 259 (795, [l0, l1, l2, some (.int x)], [.int x, .ref k1, .ref k0], h) Q := t_iload_n k_259_794 rfl
theorem k_259_795 : lk 259 795 = some (.iconst 1, 796, 0, 0, .int 1) := by decide +kernel
theorem x_259_795 : Tr sc d 259 (795, [l0, l1, l2, l3], [.int i2, .ref k1, .ref k0], h) Q = Tr sc d 259 (796, [l0, l1, l2, l3], [.int 1, .int i2, .ref k1, .ref k0], h) Q := t_go k_259_795 rfl
theorem k_259_796 : lk 259 796 = some (.iadd, 797, 0, 0, .null) := by decide +kernel
theorem x_259_796 : Tr sc d 259 (796, [l0, l1, l2, l3], [.int i3, .int i2, .ref k1, .ref k0], h) Q = Tr sc d 259 (797, [l0, l1, l2, l3], [.int (i2 + i3), .ref k1, .ref k0], h) Q := t_go k_259_796 rfl
theorem k_259_797 : lk 259 797 = some (.iaload, 798, 0, 0, .null) := by decide +kernel
theorem x_259_797 : Tr sc d 259 (797, [l0, l1, l2, l3], [.int i2, .ref k1, .ref k0], h) Q = (iOk sc h k1 i2 ∧ Tr sc d 259 (798, [l0, l1, l2, l3], [.int (iRd sc h k1 i2), .ref k0], h) Q) := t_iald k_259_797
theorem k_259_798 : lk 259 798 = some (.aload_n 0, 799, 0, 0, .null) := by decide +kernel
theorem x_259_798 : Tr sc d 259 (798, [some (.ref xk), l1, l2, l3], [.int i1, .ref k0], h) Q = Tr sc d 259 (799, [some (.ref xk), l1, l2, l3], [.ref xk, .int i1, .ref k0], h) Q := t_aload_n k_259_798 rfl
theorem k_259_799 : lk 259 799 = some (.iload_n 3, 800, 3, 0, .null) := by decide +kernel
theorem x_259_799 : Tr sc d 259 (799, [l0, l1, l2, some (.int x)], [.ref k2, .int i1, .ref k0], h) Q = Tr sc d 259 (800, [l0, l1, l2, some (.int x)], [.int x, .ref k2, .int i1, .ref k0], h) Q := t_iload_n k_259_799 rfl
theorem k_259_800 : lk 259 800 = some (.iconst 2, 801, 0, 0, .int 2) := by decide +kernel
theorem x_259_800 : Tr sc d 259 (800, [l0, l1, l2, l3], [.int i3, .ref k2, .int i1, .ref k0], h) Q = Tr sc d 259 (801, [l0, l1, l2, l3], [.int 2, .int i3, .ref k2, .int i1, .ref k0], h) Q := t_go k_259_800 rfl
theorem k_259_801 : lk 259 801 = some (.iadd, 802, 0, 0, .null) := by decide +kernel
theorem x_259_801 : Tr sc d 259 (801, [l0, l1, l2, l3], [.int i4, .int i3, .ref k2, .int i1, .ref k0], h) Q = Tr sc d 259 (802, [l0, l1, l2, l3], [.int (i3 + i4), .ref k2, .int i1, .ref k0], h) Q := t_go k_259_801 rfl
theorem k_259_802 : lk 259 802 = some (.iaload, 803, 0, 0, .null) := by decide +kernel
theorem x_259_802 : Tr sc d 259 (802, [l0, l1, l2, l3], [.int i3, .ref k2, .int i1, .ref k0], h) Q = (iOk sc h k2 i3 ∧ Tr sc d 259 (803, [l0, l1, l2, l3], [.int (iRd sc h k2 i3), .int i1, .ref k0], h) Q) := t_iald k_259_802
theorem k_259_803 : lk 259 803 = some (.aload_n 0, 804, 0, 0, .null) := by decide +kernel
theorem x_259_803 : Tr sc d 259 (803, [some (.ref xk), l1, l2, l3], [.int i2, .int i1, .ref k0], h) Q = Tr sc d 259 (804, [some (.ref xk), l1, l2, l3], [.ref xk, .int i2, .int i1, .ref k0], h) Q := t_aload_n k_259_803 rfl
theorem k_259_804 : lk 259 804 = some (.iload_n 3, 805, 3, 0, .null) := by decide +kernel
theorem x_259_804 : Tr sc d 259 (804, [l0, l1, l2, some (.int x)], [.ref k3, .int i2, .int i1, .ref k0], h) Q = Tr sc d 259 (805, [l0, l1, l2, some (.int x)], [.int x, .ref k3, .int i2, .int i1, .ref k0], h) Q := t_iload_n k_259_804 rfl
theorem k_259_805 : lk 259 805 = some (.iconst 3, 806, 0, 0, .int 3) := by decide +kernel
theorem x_259_805 : Tr sc d 259 (805, [l0, l1, l2, l3], [.int i4, .ref k3, .int i2, .int i1, .ref k0], h) Q = Tr sc d 259 (806, [l0, l1, l2, l3], [.int 3, .int i4, .ref k3, .int i2, .int i1, .ref k0], h) Q := t_go k_259_805 rfl
theorem k_259_806 : lk 259 806 = some (.iadd, 807, 0, 0, .null) := by decide +kernel
theorem x_259_806 : Tr sc d 259 (806, [l0, l1, l2, l3], [.int i5, .int i4, .ref k3, .int i2, .int i1, .ref k0], h) Q = Tr sc d 259 (807, [l0, l1, l2, l3], [.int (i4 + i5), .ref k3, .int i2, .int i1, .ref k0], h) Q := t_go k_259_806 rfl
theorem k_259_807 : lk 259 807 = some (.iaload, 808, 0, 0, .null) := by decide +kernel
theorem x_259_807 : Tr sc d 259 (807, [l0, l1, l2, l3], [.int i4, .ref k3, .int i2, .int i1, .ref k0], h) Q = (iOk sc h k3 i4 ∧ Tr sc d 259 (808, [l0, l1, l2, l3], [.int (iRd sc h k3 i4), .int i2, .int i1, .ref k0], h) Q) := t_iald k_259_807
theorem k_259_808 : lk 259 808 = some (.aload_n 0, 809, 0, 0, .null) := by decide +kernel
theorem x_259_808 : Tr sc d 259 (808, [some (.ref xk), l1, l2, l3], [.int i3, .int i2, .int i1, .ref k0], h) Q = Tr sc d 259 (809, [some (.ref xk), l1, l2, l3], [.ref xk, .int i3, .int i2, .int i1, .ref k0], h) Q := t_aload_n k_259_808 rfl
theorem k_259_809 : lk 259 809 = some (.iload_n 3, 810, 3, 0, .null) := by decide +kernel
theorem x_259_809 : Tr sc d 259 (809, [l0, l1, l2, some (.int x)], [.ref k4, .int i3, .int i2, .int i1, .ref k0], h) Q = Tr sc d 259 (810, [l0, l1, l2, some (.int x)], [.int x, .ref k4, .int i3, .int i2, .int i1, .ref k0], h) Q := t_iload_n k_259_809 rfl
theorem k_259_810 : lk 259 810 = some (.iconst 4, 811, 0, 0, .int 4) := by decide +kernel
theorem x_259_810 : Tr sc d 259 (810, [l0, l1, l2, l3], [.int i5, .ref k4, .int i3, .int i2, .int i1, .ref k0], h) Q = Tr sc d 259 (811, [l0, l1, l2, l3], [.int 4, .int i5, .ref k4, .int i3, .int i2, .int i1, .ref k0], h) Q := t_go k_259_810 rfl
theorem k_259_811 : lk 259 811 = some (.iadd, 812, 0, 0, .null) := by decide +kernel
theorem x_259_811 : Tr sc d 259 (811, [l0, l1, l2, l3], [.int i6, .int i5, .ref k4, .int i3, .int i2, .int i1, .ref k0], h) Q = Tr sc d 259 (812, [l0, l1, l2, l3], [.int (i5 + i6), .ref k4, .int i3, .int i2, .int i1, .ref k0], h) Q := t_go k_259_811 rfl
theorem k_259_812 : lk 259 812 = some (.iaload, 813, 0, 0, .null) := by decide +kernel
theorem x_259_812 : Tr sc d 259 (812, [l0, l1, l2, l3], [.int i5, .ref k4, .int i3, .int i2, .int i1, .ref k0], h) Q = (iOk sc h k4 i5 ∧ Tr sc d 259 (813, [l0, l1, l2, l3], [.int (iRd sc h k4 i5), .int i3, .int i2, .int i1, .ref k0], h) Q) := t_iald k_259_812
theorem k_259_813 : lk 259 813 = some (.ifCond .eq 7, 816, 820, 0, .null) := by decide +kernel
theorem x_259_813 : Tr sc d 259 (813, [l0, l1, l2, l3], [.int i4, .int i3, .int i2, .int i1, .ref k0], h) Q = if i4 = 0 then Tr sc d 259 (820, [l0, l1, l2, l3], [.int i3, .int i2, .int i1, .ref k0], h) Q else Tr sc d 259 (816, [l0, l1, l2, l3], [.int i3, .int i2, .int i1, .ref k0], h) Q := t_if k_259_813 rfl
theorem k_259_816 : lk 259 816 = some (.iconst 1, 817, 0, 0, .int 1) := by decide +kernel
theorem x_259_816 : Tr sc d 259 (816, [l0, l1, l2, l3], [.int i3, .int i2, .int i1, .ref k0], h) Q = Tr sc d 259 (817, [l0, l1, l2, l3], [.int 1, .int i3, .int i2, .int i1, .ref k0], h) Q := t_go k_259_816 rfl
theorem k_259_817 : lk 259 817 = some (.goto 4, 820, 821, 0, .null) := by decide +kernel
theorem x_259_817 : Tr sc d 259 (817, [l0, l1, l2, l3], [.int i4, .int i3, .int i2, .int i1, .ref k0], h) Q = Tr sc d 259 (821, [l0, l1, l2, l3], [.int i4, .int i3, .int i2, .int i1, .ref k0], h) Q := t_go k_259_817 rfl
theorem k_259_820 : lk 259 820 = some (.iconst 0, 821, 0, 0, .int 0) := by decide +kernel
theorem x_259_820 : Tr sc d 259 (820, [l0, l1, l2, l3], [.int i3, .int i2, .int i1, .ref k0], h) Q = Tr sc d 259 (821, [l0, l1, l2, l3], [.int 0, .int i3, .int i2, .int i1, .ref k0], h) Q := t_go k_259_820 rfl
theorem k_259_821 : lk 259 821 = some (.invokevirtual 81, 824, 113, 4, .null) := by decide +kernel
theorem x_259_821 : Tr sc (d + 1) 259 (821, [l0, l1, l2, l3], [.int i4, .int i3, .int i2, .int i1, .ref k0], h) Q = (okp h k0 9 = true ∧ Tr sc d 113 (ent0 113 [.ref k0, .int i1, .int i2, .int i3, .int i4] h) (fun z => Tr sc (d + 1) 259 (824, [l0, l1, l2, l3], z.1.toList ++ [], z.2) Q)) := t_cv (as := [.int i1, .int i2, .int i3, .int i4]) (r := []) k_259_821 rfl rfl (Nat.le_of_ble_eq_true rfl) (Nat.le_of_ble_eq_true rfl) (Nat.le_of_ble_eq_true rfl)
theorem k_259_824 : lk 259 824 = some (.aload_n 2, 825, 2, 0, .null) := by decide +kernel
theorem x_259_824 : Tr sc d 259 (824, [l0, l1, some (.ref xk), l3], [.int i0], h) Q = Tr sc d 259 (825, [l0, l1, some (.ref xk), l3], [.ref xk, .int i0], h) Q := t_aload_n k_259_824 rfl
theorem k_259_825 : lk 259 825 = some (.aload_n 0, 826, 0, 0, .null) := by decide +kernel
theorem x_259_825 : Tr sc d 259 (825, [some (.ref xk), l1, l2, l3], [.ref k1, .int i0], h) Q = Tr sc d 259 (826, [some (.ref xk), l1, l2, l3], [.ref xk, .ref k1, .int i0], h) Q := t_aload_n k_259_825 rfl
theorem k_259_826 : lk 259 826 = some (.iload_n 3, 827, 3, 0, .null) := by decide +kernel
theorem x_259_826 : Tr sc d 259 (826, [l0, l1, l2, some (.int x)], [.ref k2, .ref k1, .int i0], h) Q = Tr sc d 259 (827, [l0, l1, l2, some (.int x)], [.int x, .ref k2, .ref k1, .int i0], h) Q := t_iload_n k_259_826 rfl
theorem k_259_827 : lk 259 827 = some (.iconst 1, 828, 0, 0, .int 1) := by decide +kernel
theorem x_259_827 : Tr sc d 259 (827, [l0, l1, l2, l3], [.int i3, .ref k2, .ref k1, .int i0], h) Q = Tr sc d 259 (828, [l0, l1, l2, l3], [.int 1, .int i3, .ref k2, .ref k1, .int i0], h) Q := t_go k_259_827 rfl
theorem k_259_828 : lk 259 828 = some (.iadd, 829, 0, 0, .null) := by decide +kernel
theorem x_259_828 : Tr sc d 259 (828, [l0, l1, l2, l3], [.int i4, .int i3, .ref k2, .ref k1, .int i0], h) Q = Tr sc d 259 (829, [l0, l1, l2, l3], [.int (i3 + i4), .ref k2, .ref k1, .int i0], h) Q := t_go k_259_828 rfl
theorem k_259_829 : lk 259 829 = some (.iaload, 830, 0, 0, .null) := by decide +kernel
theorem x_259_829 : Tr sc d 259 (829, [l0, l1, l2, l3], [.int i3, .ref k2, .ref k1, .int i0], h) Q = (iOk sc h k2 i3 ∧ Tr sc d 259 (830, [l0, l1, l2, l3], [.int (iRd sc h k2 i3), .ref k1, .int i0], h) Q) := t_iald k_259_829
theorem k_259_830 : lk 259 830 = some (.aload_n 0, 831, 0, 0, .null) := by decide +kernel
theorem x_259_830 : Tr sc d 259 (830, [some (.ref xk), l1, l2, l3], [.int i2, .ref k1, .int i0], h) Q = Tr sc d 259 (831, [some (.ref xk), l1, l2, l3], [.ref xk, .int i2, .ref k1, .int i0], h) Q := t_aload_n k_259_830 rfl
theorem k_259_831 : lk 259 831 = some (.iload_n 3, 832, 3, 0, .null) := by decide +kernel
theorem x_259_831 : Tr sc d 259 (831, [l0, l1, l2, some (.int x)], [.ref k3, .int i2, .ref k1, .int i0], h) Q = Tr sc d 259 (832, [l0, l1, l2, some (.int x)], [.int x, .ref k3, .int i2, .ref k1, .int i0], h) Q := t_iload_n k_259_831 rfl
theorem k_259_832 : lk 259 832 = some (.iconst 2, 833, 0, 0, .int 2) := by decide +kernel
theorem x_259_832 : Tr sc d 259 (832, [l0, l1, l2, l3], [.int i4, .ref k3, .int i2, .ref k1, .int i0], h) Q = Tr sc d 259 (833, [l0, l1, l2, l3], [.int 2, .int i4, .ref k3, .int i2, .ref k1, .int i0], h) Q := t_go k_259_832 rfl
theorem k_259_833 : lk 259 833 = some (.iadd, 834, 0, 0, .null) := by decide +kernel
theorem x_259_833 : Tr sc d 259 (833, [l0, l1, l2, l3], [.int i5, .int i4, .ref k3, .int i2, .ref k1, .int i0], h) Q = Tr sc d 259 (834, [l0, l1, l2, l3], [.int (i4 + i5), .ref k3, .int i2, .ref k1, .int i0], h) Q := t_go k_259_833 rfl
theorem k_259_834 : lk 259 834 = some (.iaload, 835, 0, 0, .null) := by decide +kernel
theorem x_259_834 : Tr sc d 259 (834, [l0, l1, l2, l3], [.int i4, .ref k3, .int i2, .ref k1, .int i0], h) Q = (iOk sc h k3 i4 ∧ Tr sc d 259 (835, [l0, l1, l2, l3], [.int (iRd sc h k3 i4), .int i2, .ref k1, .int i0], h) Q) := t_iald k_259_834
theorem k_259_835 : lk 259 835 = some (.aload_n 0, 836, 0, 0, .null) := by decide +kernel
theorem x_259_835 : Tr sc d 259 (835, [some (.ref xk), l1, l2, l3], [.int i3, .int i2, .ref k1, .int i0], h) Q = Tr sc d 259 (836, [some (.ref xk), l1, l2, l3], [.ref xk, .int i3, .int i2, .ref k1, .int i0], h) Q := t_aload_n k_259_835 rfl
theorem k_259_836 : lk 259 836 = some (.iload_n 3, 837, 3, 0, .null) := by decide +kernel
theorem x_259_836 : Tr sc d 259 (836, [l0, l1, l2, some (.int x)], [.ref k4, .int i3, .int i2, .ref k1, .int i0], h) Q = Tr sc d 259 (837, [l0, l1, l2, some (.int x)], [.int x, .ref k4, .int i3, .int i2, .ref k1, .int i0], h) Q := t_iload_n k_259_836 rfl
theorem k_259_837 : lk 259 837 = some (.iconst 3, 838, 0, 0, .int 3) := by decide +kernel
theorem x_259_837 : Tr sc d 259 (837, [l0, l1, l2, l3], [.int i5, .ref k4, .int i3, .int i2, .ref k1, .int i0], h) Q = Tr sc d 259 (838, [l0, l1, l2, l3], [.int 3, .int i5, .ref k4, .int i3, .int i2, .ref k1, .int i0], h) Q := t_go k_259_837 rfl
theorem k_259_838 : lk 259 838 = some (.iadd, 839, 0, 0, .null) := by decide +kernel
theorem x_259_838 : Tr sc d 259 (838, [l0, l1, l2, l3], [.int i6, .int i5, .ref k4, .int i3, .int i2, .ref k1, .int i0], h) Q = Tr sc d 259 (839, [l0, l1, l2, l3], [.int (i5 + i6), .ref k4, .int i3, .int i2, .ref k1, .int i0], h) Q := t_go k_259_838 rfl
theorem k_259_839 : lk 259 839 = some (.iaload, 840, 0, 0, .null) := by decide +kernel
theorem x_259_839 : Tr sc d 259 (839, [l0, l1, l2, l3], [.int i5, .ref k4, .int i3, .int i2, .ref k1, .int i0], h) Q = (iOk sc h k4 i5 ∧ Tr sc d 259 (840, [l0, l1, l2, l3], [.int (iRd sc h k4 i5), .int i3, .int i2, .ref k1, .int i0], h) Q) := t_iald k_259_839
theorem k_259_840 : lk 259 840 = some (.aload_n 0, 841, 0, 0, .null) := by decide +kernel
theorem x_259_840 : Tr sc d 259 (840, [some (.ref xk), l1, l2, l3], [.int i4, .int i3, .int i2, .ref k1, .int i0], h) Q = Tr sc d 259 (841, [some (.ref xk), l1, l2, l3], [.ref xk, .int i4, .int i3, .int i2, .ref k1, .int i0], h) Q := t_aload_n k_259_840 rfl
theorem k_259_841 : lk 259 841 = some (.iload_n 3, 842, 3, 0, .null) := by decide +kernel
theorem x_259_841 : Tr sc d 259 (841, [l0, l1, l2, some (.int x)], [.ref k5, .int i4, .int i3, .int i2, .ref k1, .int i0], h) Q = Tr sc d 259 (842, [l0, l1, l2, some (.int x)], [.int x, .ref k5, .int i4, .int i3, .int i2, .ref k1, .int i0], h) Q := t_iload_n k_259_841 rfl
theorem k_259_842 : lk 259 842 = some (.iconst 4, 843, 0, 0, .int 4) := by decide +kernel
theorem x_259_842 : Tr sc d 259 (842, [l0, l1, l2, l3], [.int i6, .ref k5, .int i4, .int i3, .int i2, .ref k1, .int i0], h) Q = Tr sc d 259 (843, [l0, l1, l2, l3], [.int 4, .int i6, .ref k5, .int i4, .int i3, .int i2, .ref k1, .int i0], h) Q := t_go k_259_842 rfl
theorem k_259_843 : lk 259 843 = some (.iadd, 844, 0, 0, .null) := by decide +kernel
theorem x_259_843 : Tr sc d 259 (843, [l0, l1, l2, l3], [.int i7, .int i6, .ref k5, .int i4, .int i3, .int i2, .ref k1, .int i0], h) Q = Tr sc d 259 (844, [l0, l1, l2, l3], [.int (i6 + i7), .ref k5, .int i4, .int i3, .int i2, .ref k1, .int i0], h) Q := t_go k_259_843 rfl
theorem k_259_844 : lk 259 844 = some (.iaload, 845, 0, 0, .null) := by decide +kernel
theorem x_259_844 : Tr sc d 259 (844, [l0, l1, l2, l3], [.int i6, .ref k5, .int i4, .int i3, .int i2, .ref k1, .int i0], h) Q = (iOk sc h k5 i6 ∧ Tr sc d 259 (845, [l0, l1, l2, l3], [.int (iRd sc h k5 i6), .int i4, .int i3, .int i2, .ref k1, .int i0], h) Q) := t_iald k_259_844
theorem k_259_845 : lk 259 845 = some (.ifCond .eq 7, 848, 852, 0, .null) := by decide +kernel
theorem x_259_845 : Tr sc d 259 (845, [l0, l1, l2, l3], [.int i5, .int i4, .int i3, .int i2, .ref k1, .int i0], h) Q = if i5 = 0 then Tr sc d 259 (852, [l0, l1, l2, l3], [.int i4, .int i3, .int i2, .ref k1, .int i0], h) Q else Tr sc d 259 (848, [l0, l1, l2, l3], [.int i4, .int i3, .int i2, .ref k1, .int i0], h) Q := t_if k_259_845 rfl
theorem k_259_848 : lk 259 848 = some (.iconst 1, 849, 0, 0, .int 1) := by decide +kernel
theorem x_259_848 : Tr sc d 259 (848, [l0, l1, l2, l3], [.int i4, .int i3, .int i2, .ref k1, .int i0], h) Q = Tr sc d 259 (849, [l0, l1, l2, l3], [.int 1, .int i4, .int i3, .int i2, .ref k1, .int i0], h) Q := t_go k_259_848 rfl
theorem k_259_849 : lk 259 849 = some (.goto 4, 852, 853, 0, .null) := by decide +kernel
theorem x_259_849 : Tr sc d 259 (849, [l0, l1, l2, l3], [.int i5, .int i4, .int i3, .int i2, .ref k1, .int i0], h) Q = Tr sc d 259 (853, [l0, l1, l2, l3], [.int i5, .int i4, .int i3, .int i2, .ref k1, .int i0], h) Q := t_go k_259_849 rfl
theorem k_259_852 : lk 259 852 = some (.iconst 0, 853, 0, 0, .int 0) := by decide +kernel
theorem x_259_852 : Tr sc d 259 (852, [l0, l1, l2, l3], [.int i4, .int i3, .int i2, .ref k1, .int i0], h) Q = Tr sc d 259 (853, [l0, l1, l2, l3], [.int 0, .int i4, .int i3, .int i2, .ref k1, .int i0], h) Q := t_go k_259_852 rfl
theorem k_259_853 : lk 259 853 = some (.invokevirtual 85, 856, 199, 4, .null) := by decide +kernel
theorem x_259_853 : Tr sc (d + 1) 259 (853, [l0, l1, l2, l3], [.int i5, .int i4, .int i3, .int i2, .ref k1, .int i0], h) Q = (okp h k1 10 = true ∧ Tr sc d 199 (ent0 199 [.ref k1, .int i2, .int i3, .int i4, .int i5] h) (fun z => Tr sc (d + 1) 259 (856, [l0, l1, l2, l3], z.1.toList ++ [.int i0], z.2) Q)) := t_cv (as := [.int i2, .int i3, .int i4, .int i5]) (r := [.int i0]) k_259_853 rfl rfl (Nat.le_of_ble_eq_true rfl) (Nat.le_of_ble_eq_true rfl) (Nat.le_of_ble_eq_true rfl)
theorem k_259_856 : lk 259 856 = some (.if_icmp .eq 892, 859, 1748, 0, .null) := by decide +kernel
theorem x_259_856 : Tr sc d 259 (856, [l0, l1, l2, l3], [.int i1, .int i0], h) Q = if i0 = i1 then Tr sc d 259 (1748, [l0, l1, l2, l3], [], h) Q else Tr sc d 259 (859, [l0, l1, l2, l3], [], h) Q := t_if k_259_856 rfl
theorem k_259_859 : lk 259 859 = some (.iconst 0, 860, 0, 0, .int 0) := by decide +kernel
theorem x_259_859 : Tr sc d 259 (859, [l0, l1, l2, l3], [], h) Q = Tr sc d 259 (860, [l0, l1, l2, l3], [.int 0], h) Q := t_go k_259_859 rfl
theorem k_259_860 : lk 259 860 = some (.ireturn, 861, 0, 0, .null) := by decide +kernel
theorem x_259_860 : Tr sc d 259 (860, [l0, l1, l2, l3], [.int i0], h) Q = (vp_nar .boolean i0 = i0 ∧ Q (some (.int i0), h)) := t_zret k_259_860 r_259
theorem k_259_861 : lk 259 861 = some (.aload_n 1, 862, 1, 0, .null) := by decide +kernel
theorem x_259_861 : Tr sc d 259 (861, [l0, some (.ref xk), l2, l3], [], h) Q = Tr sc d 259 (862, [l0, some (.ref xk), l2, l3], [.ref xk], h) Q := t_aload_n k_259_861 rfl
theorem k_259_862 : lk 259 862 = some (.aload_n 0, 863, 0, 0, .null) := by decide +kernel
theorem x_259_862 : Tr sc d 259 (862, [some (.ref xk), l1, l2, l3], [.ref k0], h) Q = Tr sc d 259 (863, [some (.ref xk), l1, l2, l3], [.ref xk, .ref k0], h) Q := t_aload_n k_259_862 rfl
theorem k_259_863 : lk 259 863 = some (.iload_n 3, 864, 3, 0, .null) := by decide +kernel
theorem x_259_863 : Tr sc d 259 (863, [l0, l1, l2, some (.int x)], [.ref k1, .ref k0], h) Q = Tr sc d 259 (864, [l0, l1, l2, some (.int x)], [.int x, .ref k1, .ref k0], h) Q := t_iload_n k_259_863 rfl
theorem k_259_864 : lk 259 864 = some (.iconst 1, 865, 0, 0, .int 1) := by decide +kernel
theorem x_259_864 : Tr sc d 259 (864, [l0, l1, l2, l3], [.int i2, .ref k1, .ref k0], h) Q = Tr sc d 259 (865, [l0, l1, l2, l3], [.int 1, .int i2, .ref k1, .ref k0], h) Q := t_go k_259_864 rfl
theorem k_259_865 : lk 259 865 = some (.iadd, 866, 0, 0, .null) := by decide +kernel
theorem x_259_865 : Tr sc d 259 (865, [l0, l1, l2, l3], [.int i3, .int i2, .ref k1, .ref k0], h) Q = Tr sc d 259 (866, [l0, l1, l2, l3], [.int (i2 + i3), .ref k1, .ref k0], h) Q := t_go k_259_865 rfl
theorem k_259_866 : lk 259 866 = some (.iaload, 867, 0, 0, .null) := by decide +kernel
theorem x_259_866 : Tr sc d 259 (866, [l0, l1, l2, l3], [.int i2, .ref k1, .ref k0], h) Q = (iOk sc h k1 i2 ∧ Tr sc d 259 (867, [l0, l1, l2, l3], [.int (iRd sc h k1 i2), .ref k0], h) Q) := t_iald k_259_866
theorem k_259_867 : lk 259 867 = some (.aload_n 0, 868, 0, 0, .null) := by decide +kernel
theorem x_259_867 : Tr sc d 259 (867, [some (.ref xk), l1, l2, l3], [.int i1, .ref k0], h) Q = Tr sc d 259 (868, [some (.ref xk), l1, l2, l3], [.ref xk, .int i1, .ref k0], h) Q := t_aload_n k_259_867 rfl
theorem k_259_868 : lk 259 868 = some (.iload_n 3, 869, 3, 0, .null) := by decide +kernel
theorem x_259_868 : Tr sc d 259 (868, [l0, l1, l2, some (.int x)], [.ref k2, .int i1, .ref k0], h) Q = Tr sc d 259 (869, [l0, l1, l2, some (.int x)], [.int x, .ref k2, .int i1, .ref k0], h) Q := t_iload_n k_259_868 rfl
theorem k_259_869 : lk 259 869 = some (.iconst 2, 870, 0, 0, .int 2) := by decide +kernel
theorem x_259_869 : Tr sc d 259 (869, [l0, l1, l2, l3], [.int i3, .ref k2, .int i1, .ref k0], h) Q = Tr sc d 259 (870, [l0, l1, l2, l3], [.int 2, .int i3, .ref k2, .int i1, .ref k0], h) Q := t_go k_259_869 rfl
theorem k_259_870 : lk 259 870 = some (.iadd, 871, 0, 0, .null) := by decide +kernel
theorem x_259_870 : Tr sc d 259 (870, [l0, l1, l2, l3], [.int i4, .int i3, .ref k2, .int i1, .ref k0], h) Q = Tr sc d 259 (871, [l0, l1, l2, l3], [.int (i3 + i4), .ref k2, .int i1, .ref k0], h) Q := t_go k_259_870 rfl
theorem k_259_871 : lk 259 871 = some (.iaload, 872, 0, 0, .null) := by decide +kernel
theorem x_259_871 : Tr sc d 259 (871, [l0, l1, l2, l3], [.int i3, .ref k2, .int i1, .ref k0], h) Q = (iOk sc h k2 i3 ∧ Tr sc d 259 (872, [l0, l1, l2, l3], [.int (iRd sc h k2 i3), .int i1, .ref k0], h) Q) := t_iald k_259_871
theorem k_259_872 : lk 259 872 = some (.aload_n 0, 873, 0, 0, .null) := by decide +kernel
theorem x_259_872 : Tr sc d 259 (872, [some (.ref xk), l1, l2, l3], [.int i2, .int i1, .ref k0], h) Q = Tr sc d 259 (873, [some (.ref xk), l1, l2, l3], [.ref xk, .int i2, .int i1, .ref k0], h) Q := t_aload_n k_259_872 rfl
theorem k_259_873 : lk 259 873 = some (.iload_n 3, 874, 3, 0, .null) := by decide +kernel
theorem x_259_873 : Tr sc d 259 (873, [l0, l1, l2, some (.int x)], [.ref k3, .int i2, .int i1, .ref k0], h) Q = Tr sc d 259 (874, [l0, l1, l2, some (.int x)], [.int x, .ref k3, .int i2, .int i1, .ref k0], h) Q := t_iload_n k_259_873 rfl
theorem k_259_874 : lk 259 874 = some (.iconst 3, 875, 0, 0, .int 3) := by decide +kernel
theorem x_259_874 : Tr sc d 259 (874, [l0, l1, l2, l3], [.int i4, .ref k3, .int i2, .int i1, .ref k0], h) Q = Tr sc d 259 (875, [l0, l1, l2, l3], [.int 3, .int i4, .ref k3, .int i2, .int i1, .ref k0], h) Q := t_go k_259_874 rfl
theorem k_259_875 : lk 259 875 = some (.iadd, 876, 0, 0, .null) := by decide +kernel
theorem x_259_875 : Tr sc d 259 (875, [l0, l1, l2, l3], [.int i5, .int i4, .ref k3, .int i2, .int i1, .ref k0], h) Q = Tr sc d 259 (876, [l0, l1, l2, l3], [.int (i4 + i5), .ref k3, .int i2, .int i1, .ref k0], h) Q := t_go k_259_875 rfl
theorem k_259_876 : lk 259 876 = some (.iaload, 877, 0, 0, .null) := by decide +kernel
theorem x_259_876 : Tr sc d 259 (876, [l0, l1, l2, l3], [.int i4, .ref k3, .int i2, .int i1, .ref k0], h) Q = (iOk sc h k3 i4 ∧ Tr sc d 259 (877, [l0, l1, l2, l3], [.int (iRd sc h k3 i4), .int i2, .int i1, .ref k0], h) Q) := t_iald k_259_876
theorem k_259_877 : lk 259 877 = some (.aload_n 0, 878, 0, 0, .null) := by decide +kernel
theorem x_259_877 : Tr sc d 259 (877, [some (.ref xk), l1, l2, l3], [.int i3, .int i2, .int i1, .ref k0], h) Q = Tr sc d 259 (878, [some (.ref xk), l1, l2, l3], [.ref xk, .int i3, .int i2, .int i1, .ref k0], h) Q := t_aload_n k_259_877 rfl
theorem k_259_878 : lk 259 878 = some (.iload_n 3, 879, 3, 0, .null) := by decide +kernel
theorem x_259_878 : Tr sc d 259 (878, [l0, l1, l2, some (.int x)], [.ref k4, .int i3, .int i2, .int i1, .ref k0], h) Q = Tr sc d 259 (879, [l0, l1, l2, some (.int x)], [.int x, .ref k4, .int i3, .int i2, .int i1, .ref k0], h) Q := t_iload_n k_259_878 rfl
theorem k_259_879 : lk 259 879 = some (.iconst 4, 880, 0, 0, .int 4) := by decide +kernel
theorem x_259_879 : Tr sc d 259 (879, [l0, l1, l2, l3], [.int i5, .ref k4, .int i3, .int i2, .int i1, .ref k0], h) Q = Tr sc d 259 (880, [l0, l1, l2, l3], [.int 4, .int i5, .ref k4, .int i3, .int i2, .int i1, .ref k0], h) Q := t_go k_259_879 rfl
theorem k_259_880 : lk 259 880 = some (.iadd, 881, 0, 0, .null) := by decide +kernel
theorem x_259_880 : Tr sc d 259 (880, [l0, l1, l2, l3], [.int i6, .int i5, .ref k4, .int i3, .int i2, .int i1, .ref k0], h) Q = Tr sc d 259 (881, [l0, l1, l2, l3], [.int (i5 + i6), .ref k4, .int i3, .int i2, .int i1, .ref k0], h) Q := t_go k_259_880 rfl
theorem k_259_881 : lk 259 881 = some (.iaload, 882, 0, 0, .null) := by decide +kernel
theorem x_259_881 : Tr sc d 259 (881, [l0, l1, l2, l3], [.int i5, .ref k4, .int i3, .int i2, .int i1, .ref k0], h) Q = (iOk sc h k4 i5 ∧ Tr sc d 259 (882, [l0, l1, l2, l3], [.int (iRd sc h k4 i5), .int i3, .int i2, .int i1, .ref k0], h) Q) := t_iald k_259_881
theorem k_259_882 : lk 259 882 = some (.aload_n 0, 883, 0, 0, .null) := by decide +kernel
theorem x_259_882 : Tr sc d 259 (882, [some (.ref xk), l1, l2, l3], [.int i4, .int i3, .int i2, .int i1, .ref k0], h) Q = Tr sc d 259 (883, [some (.ref xk), l1, l2, l3], [.ref xk, .int i4, .int i3, .int i2, .int i1, .ref k0], h) Q := t_aload_n k_259_882 rfl
theorem k_259_883 : lk 259 883 = some (.iload_n 3, 884, 3, 0, .null) := by decide +kernel
theorem x_259_883 : Tr sc d 259 (883, [l0, l1, l2, some (.int x)], [.ref k5, .int i4, .int i3, .int i2, .int i1, .ref k0], h) Q = Tr sc d 259 (884, [l0, l1, l2, some (.int x)], [.int x, .ref k5, .int i4, .int i3, .int i2, .int i1, .ref k0], h) Q := t_iload_n k_259_883 rfl
theorem k_259_884 : lk 259 884 = some (.iconst 5, 885, 0, 0, .int 5) := by decide +kernel
theorem x_259_884 : Tr sc d 259 (884, [l0, l1, l2, l3], [.int i6, .ref k5, .int i4, .int i3, .int i2, .int i1, .ref k0], h) Q = Tr sc d 259 (885, [l0, l1, l2, l3], [.int 5, .int i6, .ref k5, .int i4, .int i3, .int i2, .int i1, .ref k0], h) Q := t_go k_259_884 rfl
theorem k_259_885 : lk 259 885 = some (.iadd, 886, 0, 0, .null) := by decide +kernel
theorem x_259_885 : Tr sc d 259 (885, [l0, l1, l2, l3], [.int i7, .int i6, .ref k5, .int i4, .int i3, .int i2, .int i1, .ref k0], h) Q = Tr sc d 259 (886, [l0, l1, l2, l3], [.int (i6 + i7), .ref k5, .int i4, .int i3, .int i2, .int i1, .ref k0], h) Q := t_go k_259_885 rfl
theorem k_259_886 : lk 259 886 = some (.iaload, 887, 0, 0, .null) := by decide +kernel
theorem x_259_886 : Tr sc d 259 (886, [l0, l1, l2, l3], [.int i6, .ref k5, .int i4, .int i3, .int i2, .int i1, .ref k0], h) Q = (iOk sc h k5 i6 ∧ Tr sc d 259 (887, [l0, l1, l2, l3], [.int (iRd sc h k5 i6), .int i4, .int i3, .int i2, .int i1, .ref k0], h) Q) := t_iald k_259_886
theorem k_259_887 : lk 259 887 = some (.ifCond .eq 7, 890, 894, 0, .null) := by decide +kernel
theorem x_259_887 : Tr sc d 259 (887, [l0, l1, l2, l3], [.int i5, .int i4, .int i3, .int i2, .int i1, .ref k0], h) Q = if i5 = 0 then Tr sc d 259 (894, [l0, l1, l2, l3], [.int i4, .int i3, .int i2, .int i1, .ref k0], h) Q else Tr sc d 259 (890, [l0, l1, l2, l3], [.int i4, .int i3, .int i2, .int i1, .ref k0], h) Q := t_if k_259_887 rfl
theorem k_259_890 : lk 259 890 = some (.iconst 1, 891, 0, 0, .int 1) := by decide +kernel
theorem x_259_890 : Tr sc d 259 (890, [l0, l1, l2, l3], [.int i4, .int i3, .int i2, .int i1, .ref k0], h) Q = Tr sc d 259 (891, [l0, l1, l2, l3], [.int 1, .int i4, .int i3, .int i2, .int i1, .ref k0], h) Q := t_go k_259_890 rfl
theorem k_259_891 : lk 259 891 = some (.goto 4, 894, 895, 0, .null) := by decide +kernel
theorem x_259_891 : Tr sc d 259 (891, [l0, l1, l2, l3], [.int i5, .int i4, .int i3, .int i2, .int i1, .ref k0], h) Q = Tr sc d 259 (895, [l0, l1, l2, l3], [.int i5, .int i4, .int i3, .int i2, .int i1, .ref k0], h) Q := t_go k_259_891 rfl
theorem k_259_894 : lk 259 894 = some (.iconst 0, 895, 0, 0, .int 0) := by decide +kernel
theorem x_259_894 : Tr sc d 259 (894, [l0, l1, l2, l3], [.int i4, .int i3, .int i2, .int i1, .ref k0], h) Q = Tr sc d 259 (895, [l0, l1, l2, l3], [.int 0, .int i4, .int i3, .int i2, .int i1, .ref k0], h) Q := t_go k_259_894 rfl
theorem k_259_895 : lk 259 895 = some (.invokevirtual 86, 898, 114, 5, .null) := by decide +kernel
theorem x_259_895 : Tr sc (d + 1) 259 (895, [l0, l1, l2, l3], [.int i5, .int i4, .int i3, .int i2, .int i1, .ref k0], h) Q = (okp h k0 9 = true ∧ Tr sc d 114 (ent0 114 [.ref k0, .int i1, .int i2, .int i3, .int i4, .int i5] h) (fun z => Tr sc (d + 1) 259 (898, [l0, l1, l2, l3], z.1.toList ++ [], z.2) Q)) := t_cv (as := [.int i1, .int i2, .int i3, .int i4, .int i5]) (r := []) k_259_895 rfl rfl (Nat.le_of_ble_eq_true rfl) (Nat.le_of_ble_eq_true rfl) (Nat.le_of_ble_eq_true rfl)
theorem k_259_898 : lk 259 898 = some (.aload_n 2, 899, 2, 0, .null) := by decide +kernel
theorem x_259_898 : Tr sc d 259 (898, [l0, l1, some (.ref xk), l3], [.int i0], h) Q = Tr sc d 259 (899, [l0, l1, some (.ref xk), l3], [.ref xk, .int i0], h) Q := t_aload_n k_259_898 rfl
theorem k_259_899 : lk 259 899 = some (.aload_n 0, 900, 0, 0, .null) := by decide +kernel
theorem x_259_899 : Tr sc d 259 (899, [some (.ref xk), l1, l2, l3], [.ref k1, .int i0], h) Q = Tr sc d 259 (900, [some (.ref xk), l1, l2, l3], [.ref xk, .ref k1, .int i0], h) Q := t_aload_n k_259_899 rfl
theorem k_259_900 : lk 259 900 = some (.iload_n 3, 901, 3, 0, .null) := by decide +kernel
theorem x_259_900 : Tr sc d 259 (900, [l0, l1, l2, some (.int x)], [.ref k2, .ref k1, .int i0], h) Q = Tr sc d 259 (901, [l0, l1, l2, some (.int x)], [.int x, .ref k2, .ref k1, .int i0], h) Q := t_iload_n k_259_900 rfl
theorem k_259_901 : lk 259 901 = some (.iconst 1, 902, 0, 0, .int 1) := by decide +kernel
theorem x_259_901 : Tr sc d 259 (901, [l0, l1, l2, l3], [.int i3, .ref k2, .ref k1, .int i0], h) Q = Tr sc d 259 (902, [l0, l1, l2, l3], [.int 1, .int i3, .ref k2, .ref k1, .int i0], h) Q := t_go k_259_901 rfl
theorem k_259_902 : lk 259 902 = some (.iadd, 903, 0, 0, .null) := by decide +kernel
theorem x_259_902 : Tr sc d 259 (902, [l0, l1, l2, l3], [.int i4, .int i3, .ref k2, .ref k1, .int i0], h) Q = Tr sc d 259 (903, [l0, l1, l2, l3], [.int (i3 + i4), .ref k2, .ref k1, .int i0], h) Q := t_go k_259_902 rfl
theorem k_259_903 : lk 259 903 = some (.iaload, 904, 0, 0, .null) := by decide +kernel
theorem x_259_903 : Tr sc d 259 (903, [l0, l1, l2, l3], [.int i3, .ref k2, .ref k1, .int i0], h) Q = (iOk sc h k2 i3 ∧ Tr sc d 259 (904, [l0, l1, l2, l3], [.int (iRd sc h k2 i3), .ref k1, .int i0], h) Q) := t_iald k_259_903
theorem k_259_904 : lk 259 904 = some (.aload_n 0, 905, 0, 0, .null) := by decide +kernel
theorem x_259_904 : Tr sc d 259 (904, [some (.ref xk), l1, l2, l3], [.int i2, .ref k1, .int i0], h) Q = Tr sc d 259 (905, [some (.ref xk), l1, l2, l3], [.ref xk, .int i2, .ref k1, .int i0], h) Q := t_aload_n k_259_904 rfl
theorem k_259_905 : lk 259 905 = some (.iload_n 3, 906, 3, 0, .null) := by decide +kernel
theorem x_259_905 : Tr sc d 259 (905, [l0, l1, l2, some (.int x)], [.ref k3, .int i2, .ref k1, .int i0], h) Q = Tr sc d 259 (906, [l0, l1, l2, some (.int x)], [.int x, .ref k3, .int i2, .ref k1, .int i0], h) Q := t_iload_n k_259_905 rfl
theorem k_259_906 : lk 259 906 = some (.iconst 2, 907, 0, 0, .int 2) := by decide +kernel
theorem x_259_906 : Tr sc d 259 (906, [l0, l1, l2, l3], [.int i4, .ref k3, .int i2, .ref k1, .int i0], h) Q = Tr sc d 259 (907, [l0, l1, l2, l3], [.int 2, .int i4, .ref k3, .int i2, .ref k1, .int i0], h) Q := t_go k_259_906 rfl
theorem k_259_907 : lk 259 907 = some (.iadd, 908, 0, 0, .null) := by decide +kernel
theorem x_259_907 : Tr sc d 259 (907, [l0, l1, l2, l3], [.int i5, .int i4, .ref k3, .int i2, .ref k1, .int i0], h) Q = Tr sc d 259 (908, [l0, l1, l2, l3], [.int (i4 + i5), .ref k3, .int i2, .ref k1, .int i0], h) Q := t_go k_259_907 rfl
theorem k_259_908 : lk 259 908 = some (.iaload, 909, 0, 0, .null) := by decide +kernel
theorem x_259_908 : Tr sc d 259 (908, [l0, l1, l2, l3], [.int i4, .ref k3, .int i2, .ref k1, .int i0], h) Q = (iOk sc h k3 i4 ∧ Tr sc d 259 (909, [l0, l1, l2, l3], [.int (iRd sc h k3 i4), .int i2, .ref k1, .int i0], h) Q) := t_iald k_259_908
theorem k_259_909 : lk 259 909 = some (.aload_n 0, 910, 0, 0, .null) := by decide +kernel
theorem x_259_909 : Tr sc d 259 (909, [some (.ref xk), l1, l2, l3], [.int i3, .int i2, .ref k1, .int i0], h) Q = Tr sc d 259 (910, [some (.ref xk), l1, l2, l3], [.ref xk, .int i3, .int i2, .ref k1, .int i0], h) Q := t_aload_n k_259_909 rfl
theorem k_259_910 : lk 259 910 = some (.iload_n 3, 911, 3, 0, .null) := by decide +kernel
theorem x_259_910 : Tr sc d 259 (910, [l0, l1, l2, some (.int x)], [.ref k4, .int i3, .int i2, .ref k1, .int i0], h) Q = Tr sc d 259 (911, [l0, l1, l2, some (.int x)], [.int x, .ref k4, .int i3, .int i2, .ref k1, .int i0], h) Q := t_iload_n k_259_910 rfl
theorem k_259_911 : lk 259 911 = some (.iconst 3, 912, 0, 0, .int 3) := by decide +kernel
theorem x_259_911 : Tr sc d 259 (911, [l0, l1, l2, l3], [.int i5, .ref k4, .int i3, .int i2, .ref k1, .int i0], h) Q = Tr sc d 259 (912, [l0, l1, l2, l3], [.int 3, .int i5, .ref k4, .int i3, .int i2, .ref k1, .int i0], h) Q := t_go k_259_911 rfl
theorem k_259_912 : lk 259 912 = some (.iadd, 913, 0, 0, .null) := by decide +kernel
theorem x_259_912 : Tr sc d 259 (912, [l0, l1, l2, l3], [.int i6, .int i5, .ref k4, .int i3, .int i2, .ref k1, .int i0], h) Q = Tr sc d 259 (913, [l0, l1, l2, l3], [.int (i5 + i6), .ref k4, .int i3, .int i2, .ref k1, .int i0], h) Q := t_go k_259_912 rfl
theorem k_259_913 : lk 259 913 = some (.iaload, 914, 0, 0, .null) := by decide +kernel
theorem x_259_913 : Tr sc d 259 (913, [l0, l1, l2, l3], [.int i5, .ref k4, .int i3, .int i2, .ref k1, .int i0], h) Q = (iOk sc h k4 i5 ∧ Tr sc d 259 (914, [l0, l1, l2, l3], [.int (iRd sc h k4 i5), .int i3, .int i2, .ref k1, .int i0], h) Q) := t_iald k_259_913
theorem k_259_914 : lk 259 914 = some (.aload_n 0, 915, 0, 0, .null) := by decide +kernel
theorem x_259_914 : Tr sc d 259 (914, [some (.ref xk), l1, l2, l3], [.int i4, .int i3, .int i2, .ref k1, .int i0], h) Q = Tr sc d 259 (915, [some (.ref xk), l1, l2, l3], [.ref xk, .int i4, .int i3, .int i2, .ref k1, .int i0], h) Q := t_aload_n k_259_914 rfl
theorem k_259_915 : lk 259 915 = some (.iload_n 3, 916, 3, 0, .null) := by decide +kernel
theorem x_259_915 : Tr sc d 259 (915, [l0, l1, l2, some (.int x)], [.ref k5, .int i4, .int i3, .int i2, .ref k1, .int i0], h) Q = Tr sc d 259 (916, [l0, l1, l2, some (.int x)], [.int x, .ref k5, .int i4, .int i3, .int i2, .ref k1, .int i0], h) Q := t_iload_n k_259_915 rfl
theorem k_259_916 : lk 259 916 = some (.iconst 4, 917, 0, 0, .int 4) := by decide +kernel
theorem x_259_916 : Tr sc d 259 (916, [l0, l1, l2, l3], [.int i6, .ref k5, .int i4, .int i3, .int i2, .ref k1, .int i0], h) Q = Tr sc d 259 (917, [l0, l1, l2, l3], [.int 4, .int i6, .ref k5, .int i4, .int i3, .int i2, .ref k1, .int i0], h) Q := t_go k_259_916 rfl
theorem k_259_917 : lk 259 917 = some (.iadd, 918, 0, 0, .null) := by decide +kernel
theorem x_259_917 : Tr sc d 259 (917, [l0, l1, l2, l3], [.int i7, .int i6, .ref k5, .int i4, .int i3, .int i2, .ref k1, .int i0], h) Q = Tr sc d 259 (918, [l0, l1, l2, l3], [.int (i6 + i7), .ref k5, .int i4, .int i3, .int i2, .ref k1, .int i0], h) Q := t_go k_259_917 rfl
theorem k_259_918 : lk 259 918 = some (.iaload, 919, 0, 0, .null) := by decide +kernel
theorem x_259_918 : Tr sc d 259 (918, [l0, l1, l2, l3], [.int i6, .ref k5, .int i4, .int i3, .int i2, .ref k1, .int i0], h) Q = (iOk sc h k5 i6 ∧ Tr sc d 259 (919, [l0, l1, l2, l3], [.int (iRd sc h k5 i6), .int i4, .int i3, .int i2, .ref k1, .int i0], h) Q) := t_iald k_259_918
theorem k_259_919 : lk 259 919 = some (.aload_n 0, 920, 0, 0, .null) := by decide +kernel
theorem x_259_919 : Tr sc d 259 (919, [some (.ref xk), l1, l2, l3], [.int i5, .int i4, .int i3, .int i2, .ref k1, .int i0], h) Q = Tr sc d 259 (920, [some (.ref xk), l1, l2, l3], [.ref xk, .int i5, .int i4, .int i3, .int i2, .ref k1, .int i0], h) Q := t_aload_n k_259_919 rfl
theorem k_259_920 : lk 259 920 = some (.iload_n 3, 921, 3, 0, .null) := by decide +kernel
theorem x_259_920 : Tr sc d 259 (920, [l0, l1, l2, some (.int x)], [.ref k6, .int i5, .int i4, .int i3, .int i2, .ref k1, .int i0], h) Q = Tr sc d 259 (921, [l0, l1, l2, some (.int x)], [.int x, .ref k6, .int i5, .int i4, .int i3, .int i2, .ref k1, .int i0], h) Q := t_iload_n k_259_920 rfl
theorem k_259_921 : lk 259 921 = some (.iconst 5, 922, 0, 0, .int 5) := by decide +kernel
theorem x_259_921 : Tr sc d 259 (921, [l0, l1, l2, l3], [.int i7, .ref k6, .int i5, .int i4, .int i3, .int i2, .ref k1, .int i0], h) Q = Tr sc d 259 (922, [l0, l1, l2, l3], [.int 5, .int i7, .ref k6, .int i5, .int i4, .int i3, .int i2, .ref k1, .int i0], h) Q := t_go k_259_921 rfl
theorem k_259_922 : lk 259 922 = some (.iadd, 923, 0, 0, .null) := by decide +kernel
theorem x_259_922 : Tr sc d 259 (922, [l0, l1, l2, l3], [.int i8, .int i7, .ref k6, .int i5, .int i4, .int i3, .int i2, .ref k1, .int i0], h) Q = Tr sc d 259 (923, [l0, l1, l2, l3], [.int (i7 + i8), .ref k6, .int i5, .int i4, .int i3, .int i2, .ref k1, .int i0], h) Q := t_go k_259_922 rfl
theorem k_259_923 : lk 259 923 = some (.iaload, 924, 0, 0, .null) := by decide +kernel
theorem x_259_923 : Tr sc d 259 (923, [l0, l1, l2, l3], [.int i7, .ref k6, .int i5, .int i4, .int i3, .int i2, .ref k1, .int i0], h) Q = (iOk sc h k6 i7 ∧ Tr sc d 259 (924, [l0, l1, l2, l3], [.int (iRd sc h k6 i7), .int i5, .int i4, .int i3, .int i2, .ref k1, .int i0], h) Q) := t_iald k_259_923
theorem k_259_924 : lk 259 924 = some (.ifCond .eq 7, 927, 931, 0, .null) := by decide +kernel
theorem x_259_924 : Tr sc d 259 (924, [l0, l1, l2, l3], [.int i6, .int i5, .int i4, .int i3, .int i2, .ref k1, .int i0], h) Q = if i6 = 0 then Tr sc d 259 (931, [l0, l1, l2, l3], [.int i5, .int i4, .int i3, .int i2, .ref k1, .int i0], h) Q else Tr sc d 259 (927, [l0, l1, l2, l3], [.int i5, .int i4, .int i3, .int i2, .ref k1, .int i0], h) Q := t_if k_259_924 rfl
theorem k_259_927 : lk 259 927 = some (.iconst 1, 928, 0, 0, .int 1) := by decide +kernel
theorem x_259_927 : Tr sc d 259 (927, [l0, l1, l2, l3], [.int i5, .int i4, .int i3, .int i2, .ref k1, .int i0], h) Q = Tr sc d 259 (928, [l0, l1, l2, l3], [.int 1, .int i5, .int i4, .int i3, .int i2, .ref k1, .int i0], h) Q := t_go k_259_927 rfl
theorem k_259_928 : lk 259 928 = some (.goto 4, 931, 932, 0, .null) := by decide +kernel
theorem x_259_928 : Tr sc d 259 (928, [l0, l1, l2, l3], [.int i6, .int i5, .int i4, .int i3, .int i2, .ref k1, .int i0], h) Q = Tr sc d 259 (932, [l0, l1, l2, l3], [.int i6, .int i5, .int i4, .int i3, .int i2, .ref k1, .int i0], h) Q := t_go k_259_928 rfl
theorem k_259_931 : lk 259 931 = some (.iconst 0, 932, 0, 0, .int 0) := by decide +kernel
theorem x_259_931 : Tr sc d 259 (931, [l0, l1, l2, l3], [.int i5, .int i4, .int i3, .int i2, .ref k1, .int i0], h) Q = Tr sc d 259 (932, [l0, l1, l2, l3], [.int 0, .int i5, .int i4, .int i3, .int i2, .ref k1, .int i0], h) Q := t_go k_259_931 rfl
theorem k_259_932 : lk 259 932 = some (.invokevirtual 90, 935, 200, 5, .null) := by decide +kernel
theorem x_259_932 : Tr sc (d + 1) 259 (932, [l0, l1, l2, l3], [.int i6, .int i5, .int i4, .int i3, .int i2, .ref k1, .int i0], h) Q = (okp h k1 10 = true ∧ Tr sc d 200 (ent0 200 [.ref k1, .int i2, .int i3, .int i4, .int i5, .int i6] h) (fun z => Tr sc (d + 1) 259 (935, [l0, l1, l2, l3], z.1.toList ++ [.int i0], z.2) Q)) := t_cv (as := [.int i2, .int i3, .int i4, .int i5, .int i6]) (r := [.int i0]) k_259_932 rfl rfl (Nat.le_of_ble_eq_true rfl) (Nat.le_of_ble_eq_true rfl) (Nat.le_of_ble_eq_true rfl)
theorem k_259_935 : lk 259 935 = some (.if_icmp .eq 813, 938, 1748, 0, .null) := by decide +kernel
theorem x_259_935 : Tr sc d 259 (935, [l0, l1, l2, l3], [.int i1, .int i0], h) Q = if i0 = i1 then Tr sc d 259 (1748, [l0, l1, l2, l3], [], h) Q else Tr sc d 259 (938, [l0, l1, l2, l3], [], h) Q := t_if k_259_935 rfl
theorem k_259_938 : lk 259 938 = some (.iconst 0, 939, 0, 0, .int 0) := by decide +kernel
theorem x_259_938 : Tr sc d 259 (938, [l0, l1, l2, l3], [], h) Q = Tr sc d 259 (939, [l0, l1, l2, l3], [.int 0], h) Q := t_go k_259_938 rfl
theorem k_259_939 : lk 259 939 = some (.ireturn, 940, 0, 0, .null) := by decide +kernel
theorem x_259_939 : Tr sc d 259 (939, [l0, l1, l2, l3], [.int i0], h) Q = (vp_nar .boolean i0 = i0 ∧ Q (some (.int i0), h)) := t_zret k_259_939 r_259
theorem k_259_940 : lk 259 940 = some (.aload_n 1, 941, 1, 0, .null) := by decide +kernel
theorem x_259_940 : Tr sc d 259 (940, [l0, some (.ref xk), l2, l3], [], h) Q = Tr sc d 259 (941, [l0, some (.ref xk), l2, l3], [.ref xk], h) Q := t_aload_n k_259_940 rfl
theorem k_259_941 : lk 259 941 = some (.aload_n 0, 942, 0, 0, .null) := by decide +kernel
theorem x_259_941 : Tr sc d 259 (941, [some (.ref xk), l1, l2, l3], [.ref k0], h) Q = Tr sc d 259 (942, [some (.ref xk), l1, l2, l3], [.ref xk, .ref k0], h) Q := t_aload_n k_259_941 rfl
theorem k_259_942 : lk 259 942 = some (.iload_n 3, 943, 3, 0, .null) := by decide +kernel
theorem x_259_942 : Tr sc d 259 (942, [l0, l1, l2, some (.int x)], [.ref k1, .ref k0], h) Q = Tr sc d 259 (943, [l0, l1, l2, some (.int x)], [.int x, .ref k1, .ref k0], h) Q := t_iload_n k_259_942 rfl
theorem k_259_943 : lk 259 943 = some (.iconst 1, 944, 0, 0, .int 1) := by decide +kernel
theorem x_259_943 : Tr sc d 259 (943, [l0, l1, l2, l3], [.int i2, .ref k1, .ref k0], h) Q = Tr sc d 259 (944, [l0, l1, l2, l3], [.int 1, .int i2, .ref k1, .ref k0], h) Q := t_go k_259_943 rfl
theorem k_259_944 : lk 259 944 = some (.iadd, 945, 0, 0, .null) := by decide +kernel
theorem x_259_944 : Tr sc d 259 (944, [l0, l1, l2, l3], [.int i3, .int i2, .ref k1, .ref k0], h) Q = Tr sc d 259 (945, [l0, l1, l2, l3], [.int (i2 + i3), .ref k1, .ref k0], h) Q := t_go k_259_944 rfl
theorem k_259_945 : lk 259 945 = some (.iaload, 946, 0, 0, .null) := by decide +kernel
theorem x_259_945 : Tr sc d 259 (945, [l0, l1, l2, l3], [.int i2, .ref k1, .ref k0], h) Q = (iOk sc h k1 i2 ∧ Tr sc d 259 (946, [l0, l1, l2, l3], [.int (iRd sc h k1 i2), .ref k0], h) Q) := t_iald k_259_945
theorem k_259_946 : lk 259 946 = some (.aload_n 0, 947, 0, 0, .null) := by decide +kernel
theorem x_259_946 : Tr sc d 259 (946, [some (.ref xk), l1, l2, l3], [.int i1, .ref k0], h) Q = Tr sc d 259 (947, [some (.ref xk), l1, l2, l3], [.ref xk, .int i1, .ref k0], h) Q := t_aload_n k_259_946 rfl
theorem k_259_947 : lk 259 947 = some (.iload_n 3, 948, 3, 0, .null) := by decide +kernel
theorem x_259_947 : Tr sc d 259 (947, [l0, l1, l2, some (.int x)], [.ref k2, .int i1, .ref k0], h) Q = Tr sc d 259 (948, [l0, l1, l2, some (.int x)], [.int x, .ref k2, .int i1, .ref k0], h) Q := t_iload_n k_259_947 rfl
theorem k_259_948 : lk 259 948 = some (.iconst 2, 949, 0, 0, .int 2) := by decide +kernel
theorem x_259_948 : Tr sc d 259 (948, [l0, l1, l2, l3], [.int i3, .ref k2, .int i1, .ref k0], h) Q = Tr sc d 259 (949, [l0, l1, l2, l3], [.int 2, .int i3, .ref k2, .int i1, .ref k0], h) Q := t_go k_259_948 rfl
theorem k_259_949 : lk 259 949 = some (.iadd, 950, 0, 0, .null) := by decide +kernel
theorem x_259_949 : Tr sc d 259 (949, [l0, l1, l2, l3], [.int i4, .int i3, .ref k2, .int i1, .ref k0], h) Q = Tr sc d 259 (950, [l0, l1, l2, l3], [.int (i3 + i4), .ref k2, .int i1, .ref k0], h) Q := t_go k_259_949 rfl
theorem k_259_950 : lk 259 950 = some (.iaload, 951, 0, 0, .null) := by decide +kernel
theorem x_259_950 : Tr sc d 259 (950, [l0, l1, l2, l3], [.int i3, .ref k2, .int i1, .ref k0], h) Q = (iOk sc h k2 i3 ∧ Tr sc d 259 (951, [l0, l1, l2, l3], [.int (iRd sc h k2 i3), .int i1, .ref k0], h) Q) := t_iald k_259_950
theorem k_259_951 : lk 259 951 = some (.invokevirtual 91, 954, 115, 2, .null) := by decide +kernel
theorem x_259_951 : Tr sc (d + 1) 259 (951, [l0, l1, l2, l3], [.int i2, .int i1, .ref k0], h) Q = (okp h k0 9 = true ∧ Tr sc d 115 (ent0 115 [.ref k0, .int i1, .int i2] h) (fun z => Tr sc (d + 1) 259 (954, [l0, l1, l2, l3], z.1.toList ++ [], z.2) Q)) := t_cv (as := [.int i1, .int i2]) (r := []) k_259_951 rfl rfl (Nat.le_of_ble_eq_true rfl) (Nat.le_of_ble_eq_true rfl) (Nat.le_of_ble_eq_true rfl)
theorem k_259_954 : lk 259 954 = some (.aload_n 2, 955, 2, 0, .null) := by decide +kernel
theorem x_259_954 : Tr sc d 259 (954, [l0, l1, some (.ref xk), l3], [.int i0], h) Q = Tr sc d 259 (955, [l0, l1, some (.ref xk), l3], [.ref xk, .int i0], h) Q := t_aload_n k_259_954 rfl
theorem k_259_955 : lk 259 955 = some (.aload_n 0, 956, 0, 0, .null) := by decide +kernel
theorem x_259_955 : Tr sc d 259 (955, [some (.ref xk), l1, l2, l3], [.ref k1, .int i0], h) Q = Tr sc d 259 (956, [some (.ref xk), l1, l2, l3], [.ref xk, .ref k1, .int i0], h) Q := t_aload_n k_259_955 rfl
theorem k_259_956 : lk 259 956 = some (.iload_n 3, 957, 3, 0, .null) := by decide +kernel
theorem x_259_956 : Tr sc d 259 (956, [l0, l1, l2, some (.int x)], [.ref k2, .ref k1, .int i0], h) Q = Tr sc d 259 (957, [l0, l1, l2, some (.int x)], [.int x, .ref k2, .ref k1, .int i0], h) Q := t_iload_n k_259_956 rfl
theorem k_259_957 : lk 259 957 = some (.iconst 1, 958, 0, 0, .int 1) := by decide +kernel
theorem x_259_957 : Tr sc d 259 (957, [l0, l1, l2, l3], [.int i3, .ref k2, .ref k1, .int i0], h) Q = Tr sc d 259 (958, [l0, l1, l2, l3], [.int 1, .int i3, .ref k2, .ref k1, .int i0], h) Q := t_go k_259_957 rfl
theorem k_259_958 : lk 259 958 = some (.iadd, 959, 0, 0, .null) := by decide +kernel
theorem x_259_958 : Tr sc d 259 (958, [l0, l1, l2, l3], [.int i4, .int i3, .ref k2, .ref k1, .int i0], h) Q = Tr sc d 259 (959, [l0, l1, l2, l3], [.int (i3 + i4), .ref k2, .ref k1, .int i0], h) Q := t_go k_259_958 rfl
theorem k_259_959 : lk 259 959 = some (.iaload, 960, 0, 0, .null) := by decide +kernel
theorem x_259_959 : Tr sc d 259 (959, [l0, l1, l2, l3], [.int i3, .ref k2, .ref k1, .int i0], h) Q = (iOk sc h k2 i3 ∧ Tr sc d 259 (960, [l0, l1, l2, l3], [.int (iRd sc h k2 i3), .ref k1, .int i0], h) Q) := t_iald k_259_959
theorem k_259_960 : lk 259 960 = some (.aload_n 0, 961, 0, 0, .null) := by decide +kernel
theorem x_259_960 : Tr sc d 259 (960, [some (.ref xk), l1, l2, l3], [.int i2, .ref k1, .int i0], h) Q = Tr sc d 259 (961, [some (.ref xk), l1, l2, l3], [.ref xk, .int i2, .ref k1, .int i0], h) Q := t_aload_n k_259_960 rfl
theorem k_259_961 : lk 259 961 = some (.iload_n 3, 962, 3, 0, .null) := by decide +kernel
theorem x_259_961 : Tr sc d 259 (961, [l0, l1, l2, some (.int x)], [.ref k3, .int i2, .ref k1, .int i0], h) Q = Tr sc d 259 (962, [l0, l1, l2, some (.int x)], [.int x, .ref k3, .int i2, .ref k1, .int i0], h) Q := t_iload_n k_259_961 rfl
theorem k_259_962 : lk 259 962 = some (.iconst 2, 963, 0, 0, .int 2) := by decide +kernel
theorem x_259_962 : Tr sc d 259 (962, [l0, l1, l2, l3], [.int i4, .ref k3, .int i2, .ref k1, .int i0], h) Q = Tr sc d 259 (963, [l0, l1, l2, l3], [.int 2, .int i4, .ref k3, .int i2, .ref k1, .int i0], h) Q := t_go k_259_962 rfl
theorem k_259_963 : lk 259 963 = some (.iadd, 964, 0, 0, .null) := by decide +kernel
theorem x_259_963 : Tr sc d 259 (963, [l0, l1, l2, l3], [.int i5, .int i4, .ref k3, .int i2, .ref k1, .int i0], h) Q = Tr sc d 259 (964, [l0, l1, l2, l3], [.int (i4 + i5), .ref k3, .int i2, .ref k1, .int i0], h) Q := t_go k_259_963 rfl
theorem k_259_964 : lk 259 964 = some (.iaload, 965, 0, 0, .null) := by decide +kernel
theorem x_259_964 : Tr sc d 259 (964, [l0, l1, l2, l3], [.int i4, .ref k3, .int i2, .ref k1, .int i0], h) Q = (iOk sc h k3 i4 ∧ Tr sc d 259 (965, [l0, l1, l2, l3], [.int (iRd sc h k3 i4), .int i2, .ref k1, .int i0], h) Q) := t_iald k_259_964
theorem k_259_965 : lk 259 965 = some (.invokevirtual 94, 968, 201, 2, .null) := by decide +kernel
theorem x_259_965 : Tr sc (d + 1) 259 (965, [l0, l1, l2, l3], [.int i3, .int i2, .ref k1, .int i0], h) Q = (okp h k1 10 = true ∧ Tr sc d 201 (ent0 201 [.ref k1, .int i2, .int i3] h) (fun z => Tr sc (d + 1) 259 (968, [l0, l1, l2, l3], z.1.toList ++ [.int i0], z.2) Q)) := t_cv (as := [.int i2, .int i3]) (r := [.int i0]) k_259_965 rfl rfl (Nat.le_of_ble_eq_true rfl) (Nat.le_of_ble_eq_true rfl) (Nat.le_of_ble_eq_true rfl)
theorem k_259_968 : lk 259 968 = some (.if_icmp .eq 780, 971, 1748, 0, .null) := by decide +kernel
theorem x_259_968 : Tr sc d 259 (968, [l0, l1, l2, l3], [.int i1, .int i0], h) Q = if i0 = i1 then Tr sc d 259 (1748, [l0, l1, l2, l3], [], h) Q else Tr sc d 259 (971, [l0, l1, l2, l3], [], h) Q := t_if k_259_968 rfl
theorem k_259_971 : lk 259 971 = some (.iconst 0, 972, 0, 0, .int 0) := by decide +kernel
theorem x_259_971 : Tr sc d 259 (971, [l0, l1, l2, l3], [], h) Q = Tr sc d 259 (972, [l0, l1, l2, l3], [.int 0], h) Q := t_go k_259_971 rfl
theorem k_259_972 : lk 259 972 = some (.ireturn, 973, 0, 0, .null) := by decide +kernel
theorem x_259_972 : Tr sc d 259 (972, [l0, l1, l2, l3], [.int i0], h) Q = (vp_nar .boolean i0 = i0 ∧ Q (some (.int i0), h)) := t_zret k_259_972 r_259
theorem k_259_973 : lk 259 973 = some (.aload_n 1, 974, 1, 0, .null) := by decide +kernel
theorem x_259_973 : Tr sc d 259 (973, [l0, some (.ref xk), l2, l3], [], h) Q = Tr sc d 259 (974, [l0, some (.ref xk), l2, l3], [.ref xk], h) Q := t_aload_n k_259_973 rfl
theorem k_259_974 : lk 259 974 = some (.aload_n 0, 975, 0, 0, .null) := by decide +kernel
theorem x_259_974 : Tr sc d 259 (974, [some (.ref xk), l1, l2, l3], [.ref k0], h) Q = Tr sc d 259 (975, [some (.ref xk), l1, l2, l3], [.ref xk, .ref k0], h) Q := t_aload_n k_259_974 rfl
theorem k_259_975 : lk 259 975 = some (.iload_n 3, 976, 3, 0, .null) := by decide +kernel
theorem x_259_975 : Tr sc d 259 (975, [l0, l1, l2, some (.int x)], [.ref k1, .ref k0], h) Q = Tr sc d 259 (976, [l0, l1, l2, some (.int x)], [.int x, .ref k1, .ref k0], h) Q := t_iload_n k_259_975 rfl
theorem k_259_976 : lk 259 976 = some (.iconst 1, 977, 0, 0, .int 1) := by decide +kernel
theorem x_259_976 : Tr sc d 259 (976, [l0, l1, l2, l3], [.int i2, .ref k1, .ref k0], h) Q = Tr sc d 259 (977, [l0, l1, l2, l3], [.int 1, .int i2, .ref k1, .ref k0], h) Q := t_go k_259_976 rfl
theorem k_259_977 : lk 259 977 = some (.iadd, 978, 0, 0, .null) := by decide +kernel
theorem x_259_977 : Tr sc d 259 (977, [l0, l1, l2, l3], [.int i3, .int i2, .ref k1, .ref k0], h) Q = Tr sc d 259 (978, [l0, l1, l2, l3], [.int (i2 + i3), .ref k1, .ref k0], h) Q := t_go k_259_977 rfl
theorem k_259_978 : lk 259 978 = some (.iaload, 979, 0, 0, .null) := by decide +kernel
theorem x_259_978 : Tr sc d 259 (978, [l0, l1, l2, l3], [.int i2, .ref k1, .ref k0], h) Q = (iOk sc h k1 i2 ∧ Tr sc d 259 (979, [l0, l1, l2, l3], [.int (iRd sc h k1 i2), .ref k0], h) Q) := t_iald k_259_978
theorem k_259_979 : lk 259 979 = some (.aload_n 0, 980, 0, 0, .null) := by decide +kernel
theorem x_259_979 : Tr sc d 259 (979, [some (.ref xk), l1, l2, l3], [.int i1, .ref k0], h) Q = Tr sc d 259 (980, [some (.ref xk), l1, l2, l3], [.ref xk, .int i1, .ref k0], h) Q := t_aload_n k_259_979 rfl
theorem k_259_980 : lk 259 980 = some (.iload_n 3, 981, 3, 0, .null) := by decide +kernel
theorem x_259_980 : Tr sc d 259 (980, [l0, l1, l2, some (.int x)], [.ref k2, .int i1, .ref k0], h) Q = Tr sc d 259 (981, [l0, l1, l2, some (.int x)], [.int x, .ref k2, .int i1, .ref k0], h) Q := t_iload_n k_259_980 rfl
theorem k_259_981 : lk 259 981 = some (.iconst 2, 982, 0, 0, .int 2) := by decide +kernel
theorem x_259_981 : Tr sc d 259 (981, [l0, l1, l2, l3], [.int i3, .ref k2, .int i1, .ref k0], h) Q = Tr sc d 259 (982, [l0, l1, l2, l3], [.int 2, .int i3, .ref k2, .int i1, .ref k0], h) Q := t_go k_259_981 rfl
theorem k_259_982 : lk 259 982 = some (.iadd, 983, 0, 0, .null) := by decide +kernel
theorem x_259_982 : Tr sc d 259 (982, [l0, l1, l2, l3], [.int i4, .int i3, .ref k2, .int i1, .ref k0], h) Q = Tr sc d 259 (983, [l0, l1, l2, l3], [.int (i3 + i4), .ref k2, .int i1, .ref k0], h) Q := t_go k_259_982 rfl
theorem k_259_983 : lk 259 983 = some (.iaload, 984, 0, 0, .null) := by decide +kernel
theorem x_259_983 : Tr sc d 259 (983, [l0, l1, l2, l3], [.int i3, .ref k2, .int i1, .ref k0], h) Q = (iOk sc h k2 i3 ∧ Tr sc d 259 (984, [l0, l1, l2, l3], [.int (iRd sc h k2 i3), .int i1, .ref k0], h) Q) := t_iald k_259_983
theorem k_259_984 : lk 259 984 = some (.invokevirtual 95, 987, 116, 2, .null) := by decide +kernel
theorem x_259_984 : Tr sc (d + 1) 259 (984, [l0, l1, l2, l3], [.int i2, .int i1, .ref k0], h) Q = (okp h k0 9 = true ∧ Tr sc d 116 (ent0 116 [.ref k0, .int i1, .int i2] h) (fun z => Tr sc (d + 1) 259 (987, [l0, l1, l2, l3], z.1.toList ++ [], z.2) Q)) := t_cv (as := [.int i1, .int i2]) (r := []) k_259_984 rfl rfl (Nat.le_of_ble_eq_true rfl) (Nat.le_of_ble_eq_true rfl) (Nat.le_of_ble_eq_true rfl)
theorem k_259_987 : lk 259 987 = some (.aload_n 2, 988, 2, 0, .null) := by decide +kernel
theorem x_259_987 : Tr sc d 259 (987, [l0, l1, some (.ref xk), l3], [.int i0], h) Q = Tr sc d 259 (988, [l0, l1, some (.ref xk), l3], [.ref xk, .int i0], h) Q := t_aload_n k_259_987 rfl
theorem k_259_988 : lk 259 988 = some (.aload_n 0, 989, 0, 0, .null) := by decide +kernel
theorem x_259_988 : Tr sc d 259 (988, [some (.ref xk), l1, l2, l3], [.ref k1, .int i0], h) Q = Tr sc d 259 (989, [some (.ref xk), l1, l2, l3], [.ref xk, .ref k1, .int i0], h) Q := t_aload_n k_259_988 rfl
theorem k_259_989 : lk 259 989 = some (.iload_n 3, 990, 3, 0, .null) := by decide +kernel
theorem x_259_989 : Tr sc d 259 (989, [l0, l1, l2, some (.int x)], [.ref k2, .ref k1, .int i0], h) Q = Tr sc d 259 (990, [l0, l1, l2, some (.int x)], [.int x, .ref k2, .ref k1, .int i0], h) Q := t_iload_n k_259_989 rfl
theorem k_259_990 : lk 259 990 = some (.iconst 1, 991, 0, 0, .int 1) := by decide +kernel
theorem x_259_990 : Tr sc d 259 (990, [l0, l1, l2, l3], [.int i3, .ref k2, .ref k1, .int i0], h) Q = Tr sc d 259 (991, [l0, l1, l2, l3], [.int 1, .int i3, .ref k2, .ref k1, .int i0], h) Q := t_go k_259_990 rfl
theorem k_259_991 : lk 259 991 = some (.iadd, 992, 0, 0, .null) := by decide +kernel
theorem x_259_991 : Tr sc d 259 (991, [l0, l1, l2, l3], [.int i4, .int i3, .ref k2, .ref k1, .int i0], h) Q = Tr sc d 259 (992, [l0, l1, l2, l3], [.int (i3 + i4), .ref k2, .ref k1, .int i0], h) Q := t_go k_259_991 rfl
theorem k_259_992 : lk 259 992 = some (.iaload, 993, 0, 0, .null) := by decide +kernel
theorem x_259_992 : Tr sc d 259 (992, [l0, l1, l2, l3], [.int i3, .ref k2, .ref k1, .int i0], h) Q = (iOk sc h k2 i3 ∧ Tr sc d 259 (993, [l0, l1, l2, l3], [.int (iRd sc h k2 i3), .ref k1, .int i0], h) Q) := t_iald k_259_992
theorem k_259_993 : lk 259 993 = some (.aload_n 0, 994, 0, 0, .null) := by decide +kernel
theorem x_259_993 : Tr sc d 259 (993, [some (.ref xk), l1, l2, l3], [.int i2, .ref k1, .int i0], h) Q = Tr sc d 259 (994, [some (.ref xk), l1, l2, l3], [.ref xk, .int i2, .ref k1, .int i0], h) Q := t_aload_n k_259_993 rfl
theorem k_259_994 : lk 259 994 = some (.iload_n 3, 995, 3, 0, .null) := by decide +kernel
theorem x_259_994 : Tr sc d 259 (994, [l0, l1, l2, some (.int x)], [.ref k3, .int i2, .ref k1, .int i0], h) Q = Tr sc d 259 (995, [l0, l1, l2, some (.int x)], [.int x, .ref k3, .int i2, .ref k1, .int i0], h) Q := t_iload_n k_259_994 rfl
theorem k_259_995 : lk 259 995 = some (.iconst 2, 996, 0, 0, .int 2) := by decide +kernel
theorem x_259_995 : Tr sc d 259 (995, [l0, l1, l2, l3], [.int i4, .ref k3, .int i2, .ref k1, .int i0], h) Q = Tr sc d 259 (996, [l0, l1, l2, l3], [.int 2, .int i4, .ref k3, .int i2, .ref k1, .int i0], h) Q := t_go k_259_995 rfl
theorem k_259_996 : lk 259 996 = some (.iadd, 997, 0, 0, .null) := by decide +kernel
theorem x_259_996 : Tr sc d 259 (996, [l0, l1, l2, l3], [.int i5, .int i4, .ref k3, .int i2, .ref k1, .int i0], h) Q = Tr sc d 259 (997, [l0, l1, l2, l3], [.int (i4 + i5), .ref k3, .int i2, .ref k1, .int i0], h) Q := t_go k_259_996 rfl
theorem k_259_997 : lk 259 997 = some (.iaload, 998, 0, 0, .null) := by decide +kernel
theorem x_259_997 : Tr sc d 259 (997, [l0, l1, l2, l3], [.int i4, .ref k3, .int i2, .ref k1, .int i0], h) Q = (iOk sc h k3 i4 ∧ Tr sc d 259 (998, [l0, l1, l2, l3], [.int (iRd sc h k3 i4), .int i2, .ref k1, .int i0], h) Q) := t_iald k_259_997
theorem k_259_998 : lk 259 998 = some (.invokevirtual 98, 1001, 207, 2, .null) := by decide +kernel
theorem x_259_998 : Tr sc (d + 1) 259 (998, [l0, l1, l2, l3], [.int i3, .int i2, .ref k1, .int i0], h) Q = (okp h k1 10 = true ∧ Tr sc d 207 (ent0 207 [.ref k1, .int i2, .int i3] h) (fun z => Tr sc (d + 1) 259 (1001, [l0, l1, l2, l3], z.1.toList ++ [.int i0], z.2) Q)) := t_cv (as := [.int i2, .int i3]) (r := [.int i0]) k_259_998 rfl rfl (Nat.le_of_ble_eq_true rfl) (Nat.le_of_ble_eq_true rfl) (Nat.le_of_ble_eq_true rfl)
theorem k_259_1001 : lk 259 1001 = some (.if_icmp .eq 747, 1004, 1748, 0, .null) := by decide +kernel
theorem x_259_1001 : Tr sc d 259 (1001, [l0, l1, l2, l3], [.int i1, .int i0], h) Q = if i0 = i1 then Tr sc d 259 (1748, [l0, l1, l2, l3], [], h) Q else Tr sc d 259 (1004, [l0, l1, l2, l3], [], h) Q := t_if k_259_1001 rfl
theorem k_259_1004 : lk 259 1004 = some (.iconst 0, 1005, 0, 0, .int 0) := by decide +kernel
theorem x_259_1004 : Tr sc d 259 (1004, [l0, l1, l2, l3], [], h) Q = Tr sc d 259 (1005, [l0, l1, l2, l3], [.int 0], h) Q := t_go k_259_1004 rfl
theorem k_259_1005 : lk 259 1005 = some (.ireturn, 1006, 0, 0, .null) := by decide +kernel
theorem x_259_1005 : Tr sc d 259 (1005, [l0, l1, l2, l3], [.int i0], h) Q = (vp_nar .boolean i0 = i0 ∧ Q (some (.int i0), h)) := t_zret k_259_1005 r_259
theorem k_259_1006 : lk 259 1006 = some (.aload_n 1, 1007, 1, 0, .null) := by decide +kernel
theorem x_259_1006 : Tr sc d 259 (1006, [l0, some (.ref xk), l2, l3], [], h) Q = Tr sc d 259 (1007, [l0, some (.ref xk), l2, l3], [.ref xk], h) Q := t_aload_n k_259_1006 rfl
theorem k_259_1007 : lk 259 1007 = some (.aload_n 0, 1008, 0, 0, .null) := by decide +kernel
theorem x_259_1007 : Tr sc d 259 (1007, [some (.ref xk), l1, l2, l3], [.ref k0], h) Q = Tr sc d 259 (1008, [some (.ref xk), l1, l2, l3], [.ref xk, .ref k0], h) Q := t_aload_n k_259_1007 rfl
theorem k_259_1008 : lk 259 1008 = some (.iload_n 3, 1009, 3, 0, .null) := by decide +kernel
theorem x_259_1008 : Tr sc d 259 (1008, [l0, l1, l2, some (.int x)], [.ref k1, .ref k0], h) Q = Tr sc d 259 (1009, [l0, l1, l2, some (.int x)], [.int x, .ref k1, .ref k0], h) Q := t_iload_n k_259_1008 rfl
theorem k_259_1009 : lk 259 1009 = some (.iconst 1, 1010, 0, 0, .int 1) := by decide +kernel
theorem x_259_1009 : Tr sc d 259 (1009, [l0, l1, l2, l3], [.int i2, .ref k1, .ref k0], h) Q = Tr sc d 259 (1010, [l0, l1, l2, l3], [.int 1, .int i2, .ref k1, .ref k0], h) Q := t_go k_259_1009 rfl
theorem k_259_1010 : lk 259 1010 = some (.iadd, 1011, 0, 0, .null) := by decide +kernel
theorem x_259_1010 : Tr sc d 259 (1010, [l0, l1, l2, l3], [.int i3, .int i2, .ref k1, .ref k0], h) Q = Tr sc d 259 (1011, [l0, l1, l2, l3], [.int (i2 + i3), .ref k1, .ref k0], h) Q := t_go k_259_1010 rfl
theorem k_259_1011 : lk 259 1011 = some (.iaload, 1012, 0, 0, .null) := by decide +kernel
theorem x_259_1011 : Tr sc d 259 (1011, [l0, l1, l2, l3], [.int i2, .ref k1, .ref k0], h) Q = (iOk sc h k1 i2 ∧ Tr sc d 259 (1012, [l0, l1, l2, l3], [.int (iRd sc h k1 i2), .ref k0], h) Q) := t_iald k_259_1011
theorem k_259_1012 : lk 259 1012 = some (.aload_n 0, 1013, 0, 0, .null) := by decide +kernel
theorem x_259_1012 : Tr sc d 259 (1012, [some (.ref xk), l1, l2, l3], [.int i1, .ref k0], h) Q = Tr sc d 259 (1013, [some (.ref xk), l1, l2, l3], [.ref xk, .int i1, .ref k0], h) Q := t_aload_n k_259_1012 rfl
theorem k_259_1013 : lk 259 1013 = some (.iload_n 3, 1014, 3, 0, .null) := by decide +kernel
theorem x_259_1013 : Tr sc d 259 (1013, [l0, l1, l2, some (.int x)], [.ref k2, .int i1, .ref k0], h) Q = Tr sc d 259 (1014, [l0, l1, l2, some (.int x)], [.int x, .ref k2, .int i1, .ref k0], h) Q := t_iload_n k_259_1013 rfl
theorem k_259_1014 : lk 259 1014 = some (.iconst 2, 1015, 0, 0, .int 2) := by decide +kernel
theorem x_259_1014 : Tr sc d 259 (1014, [l0, l1, l2, l3], [.int i3, .ref k2, .int i1, .ref k0], h) Q = Tr sc d 259 (1015, [l0, l1, l2, l3], [.int 2, .int i3, .ref k2, .int i1, .ref k0], h) Q := t_go k_259_1014 rfl
theorem k_259_1015 : lk 259 1015 = some (.iadd, 1016, 0, 0, .null) := by decide +kernel
theorem x_259_1015 : Tr sc d 259 (1015, [l0, l1, l2, l3], [.int i4, .int i3, .ref k2, .int i1, .ref k0], h) Q = Tr sc d 259 (1016, [l0, l1, l2, l3], [.int (i3 + i4), .ref k2, .int i1, .ref k0], h) Q := t_go k_259_1015 rfl
theorem k_259_1016 : lk 259 1016 = some (.iaload, 1017, 0, 0, .null) := by decide +kernel
theorem x_259_1016 : Tr sc d 259 (1016, [l0, l1, l2, l3], [.int i3, .ref k2, .int i1, .ref k0], h) Q = (iOk sc h k2 i3 ∧ Tr sc d 259 (1017, [l0, l1, l2, l3], [.int (iRd sc h k2 i3), .int i1, .ref k0], h) Q) := t_iald k_259_1016
theorem k_259_1017 : lk 259 1017 = some (.aload_n 0, 1018, 0, 0, .null) := by decide +kernel
theorem x_259_1017 : Tr sc d 259 (1017, [some (.ref xk), l1, l2, l3], [.int i2, .int i1, .ref k0], h) Q = Tr sc d 259 (1018, [some (.ref xk), l1, l2, l3], [.ref xk, .int i2, .int i1, .ref k0], h) Q := t_aload_n k_259_1017 rfl
theorem k_259_1018 : lk 259 1018 = some (.iload_n 3, 1019, 3, 0, .null) := by decide +kernel
theorem x_259_1018 : Tr sc d 259 (1018, [l0, l1, l2, some (.int x)], [.ref k3, .int i2, .int i1, .ref k0], h) Q = Tr sc d 259 (1019, [l0, l1, l2, some (.int x)], [.int x, .ref k3, .int i2, .int i1, .ref k0], h) Q := t_iload_n k_259_1018 rfl
theorem k_259_1019 : lk 259 1019 = some (.iconst 3, 1020, 0, 0, .int 3) := by decide +kernel
theorem x_259_1019 : Tr sc d 259 (1019, [l0, l1, l2, l3], [.int i4, .ref k3, .int i2, .int i1, .ref k0], h) Q = Tr sc d 259 (1020, [l0, l1, l2, l3], [.int 3, .int i4, .ref k3, .int i2, .int i1, .ref k0], h) Q := t_go k_259_1019 rfl
theorem k_259_1020 : lk 259 1020 = some (.iadd, 1021, 0, 0, .null) := by decide +kernel
theorem x_259_1020 : Tr sc d 259 (1020, [l0, l1, l2, l3], [.int i5, .int i4, .ref k3, .int i2, .int i1, .ref k0], h) Q = Tr sc d 259 (1021, [l0, l1, l2, l3], [.int (i4 + i5), .ref k3, .int i2, .int i1, .ref k0], h) Q := t_go k_259_1020 rfl
theorem k_259_1021 : lk 259 1021 = some (.iaload, 1022, 0, 0, .null) := by decide +kernel
theorem x_259_1021 : Tr sc d 259 (1021, [l0, l1, l2, l3], [.int i4, .ref k3, .int i2, .int i1, .ref k0], h) Q = (iOk sc h k3 i4 ∧ Tr sc d 259 (1022, [l0, l1, l2, l3], [.int (iRd sc h k3 i4), .int i2, .int i1, .ref k0], h) Q) := t_iald k_259_1021
theorem k_259_1022 : lk 259 1022 = some (.aload_n 0, 1023, 0, 0, .null) := by decide +kernel
theorem x_259_1022 : Tr sc d 259 (1022, [some (.ref xk), l1, l2, l3], [.int i3, .int i2, .int i1, .ref k0], h) Q = Tr sc d 259 (1023, [some (.ref xk), l1, l2, l3], [.ref xk, .int i3, .int i2, .int i1, .ref k0], h) Q := t_aload_n k_259_1022 rfl
theorem k_259_1023 : lk 259 1023 = some (.iload_n 3, 1024, 3, 0, .null) := by decide +kernel
theorem x_259_1023 : Tr sc d 259 (1023, [l0, l1, l2, some (.int x)], [.ref k4, .int i3, .int i2, .int i1, .ref k0], h) Q = Tr sc d 259 (1024, [l0, l1, l2, some (.int x)], [.int x, .ref k4, .int i3, .int i2, .int i1, .ref k0], h) Q := t_iload_n k_259_1023 rfl
theorem k_259_1024 : lk 259 1024 = some (.iconst 4, 1025, 0, 0, .int 4) := by decide +kernel
theorem x_259_1024 : Tr sc d 259 (1024, [l0, l1, l2, l3], [.int i5, .ref k4, .int i3, .int i2, .int i1, .ref k0], h) Q = Tr sc d 259 (1025, [l0, l1, l2, l3], [.int 4, .int i5, .ref k4, .int i3, .int i2, .int i1, .ref k0], h) Q := t_go k_259_1024 rfl
theorem k_259_1025 : lk 259 1025 = some (.iadd, 1026, 0, 0, .null) := by decide +kernel
theorem x_259_1025 : Tr sc d 259 (1025, [l0, l1, l2, l3], [.int i6, .int i5, .ref k4, .int i3, .int i2, .int i1, .ref k0], h) Q = Tr sc d 259 (1026, [l0, l1, l2, l3], [.int (i5 + i6), .ref k4, .int i3, .int i2, .int i1, .ref k0], h) Q := t_go k_259_1025 rfl
theorem k_259_1026 : lk 259 1026 = some (.iaload, 1027, 0, 0, .null) := by decide +kernel
theorem x_259_1026 : Tr sc d 259 (1026, [l0, l1, l2, l3], [.int i5, .ref k4, .int i3, .int i2, .int i1, .ref k0], h) Q = (iOk sc h k4 i5 ∧ Tr sc d 259 (1027, [l0, l1, l2, l3], [.int (iRd sc h k4 i5), .int i3, .int i2, .int i1, .ref k0], h) Q) := t_iald k_259_1026
theorem k_259_1027 : lk 259 1027 = some (.invokevirtual 99, 1030, 117, 4, .null) := by decide +kernel
theorem x_259_1027 : Tr sc (d + 1) 259 (1027, [l0, l1, l2, l3], [.int i4, .int i3, .int i2, .int i1, .ref k0], h) Q = (okp h k0 9 = true ∧ Tr sc d 117 (ent0 117 [.ref k0, .int i1, .int i2, .int i3, .int i4] h) (fun z => Tr sc (d + 1) 259 (1030, [l0, l1, l2, l3], z.1.toList ++ [], z.2) Q)) := t_cv (as := [.int i1, .int i2, .int i3, .int i4]) (r := []) k_259_1027 rfl rfl (Nat.le_of_ble_eq_true rfl) (Nat.le_of_ble_eq_true rfl) (Nat.le_of_ble_eq_true rfl)
theorem k_259_1030 : lk 259 1030 = some (.aload_n 2, 1031, 2, 0, .null) := by decide +kernel
theorem x_259_1030 : Tr sc d 259 (1030, [l0, l1, some (.ref xk), l3], [.int i0], h) Q = Tr sc d 259 (1031, [l0, l1, some (.ref xk), l3], [.ref xk, .int i0], h) Q := t_aload_n k_259_1030 rfl
theorem k_259_1031 : lk 259 1031 = some (.aload_n 0, 1032, 0, 0, .null) := by decide +kernel
theorem x_259_1031 : Tr sc d 259 (1031, [some (.ref xk), l1, l2, l3], [.ref k1, .int i0], h) Q = Tr sc d 259 (1032, [some (.ref xk), l1, l2, l3], [.ref xk, .ref k1, .int i0], h) Q := t_aload_n k_259_1031 rfl
theorem k_259_1032 : lk 259 1032 = some (.iload_n 3, 1033, 3, 0, .null) := by decide +kernel
theorem x_259_1032 : Tr sc d 259 (1032, [l0, l1, l2, some (.int x)], [.ref k2, .ref k1, .int i0], h) Q = Tr sc d 259 (1033, [l0, l1, l2, some (.int x)], [.int x, .ref k2, .ref k1, .int i0], h) Q := t_iload_n k_259_1032 rfl
theorem k_259_1033 : lk 259 1033 = some (.iconst 1, 1034, 0, 0, .int 1) := by decide +kernel
theorem x_259_1033 : Tr sc d 259 (1033, [l0, l1, l2, l3], [.int i3, .ref k2, .ref k1, .int i0], h) Q = Tr sc d 259 (1034, [l0, l1, l2, l3], [.int 1, .int i3, .ref k2, .ref k1, .int i0], h) Q := t_go k_259_1033 rfl
theorem k_259_1034 : lk 259 1034 = some (.iadd, 1035, 0, 0, .null) := by decide +kernel
theorem x_259_1034 : Tr sc d 259 (1034, [l0, l1, l2, l3], [.int i4, .int i3, .ref k2, .ref k1, .int i0], h) Q = Tr sc d 259 (1035, [l0, l1, l2, l3], [.int (i3 + i4), .ref k2, .ref k1, .int i0], h) Q := t_go k_259_1034 rfl
theorem k_259_1035 : lk 259 1035 = some (.iaload, 1036, 0, 0, .null) := by decide +kernel
theorem x_259_1035 : Tr sc d 259 (1035, [l0, l1, l2, l3], [.int i3, .ref k2, .ref k1, .int i0], h) Q = (iOk sc h k2 i3 ∧ Tr sc d 259 (1036, [l0, l1, l2, l3], [.int (iRd sc h k2 i3), .ref k1, .int i0], h) Q) := t_iald k_259_1035
theorem k_259_1036 : lk 259 1036 = some (.aload_n 0, 1037, 0, 0, .null) := by decide +kernel
theorem x_259_1036 : Tr sc d 259 (1036, [some (.ref xk), l1, l2, l3], [.int i2, .ref k1, .int i0], h) Q = Tr sc d 259 (1037, [some (.ref xk), l1, l2, l3], [.ref xk, .int i2, .ref k1, .int i0], h) Q := t_aload_n k_259_1036 rfl
theorem k_259_1037 : lk 259 1037 = some (.iload_n 3, 1038, 3, 0, .null) := by decide +kernel
theorem x_259_1037 : Tr sc d 259 (1037, [l0, l1, l2, some (.int x)], [.ref k3, .int i2, .ref k1, .int i0], h) Q = Tr sc d 259 (1038, [l0, l1, l2, some (.int x)], [.int x, .ref k3, .int i2, .ref k1, .int i0], h) Q := t_iload_n k_259_1037 rfl
theorem k_259_1038 : lk 259 1038 = some (.iconst 2, 1039, 0, 0, .int 2) := by decide +kernel
theorem x_259_1038 : Tr sc d 259 (1038, [l0, l1, l2, l3], [.int i4, .ref k3, .int i2, .ref k1, .int i0], h) Q = Tr sc d 259 (1039, [l0, l1, l2, l3], [.int 2, .int i4, .ref k3, .int i2, .ref k1, .int i0], h) Q := t_go k_259_1038 rfl
theorem k_259_1039 : lk 259 1039 = some (.iadd, 1040, 0, 0, .null) := by decide +kernel
theorem x_259_1039 : Tr sc d 259 (1039, [l0, l1, l2, l3], [.int i5, .int i4, .ref k3, .int i2, .ref k1, .int i0], h) Q = Tr sc d 259 (1040, [l0, l1, l2, l3], [.int (i4 + i5), .ref k3, .int i2, .ref k1, .int i0], h) Q := t_go k_259_1039 rfl
theorem k_259_1040 : lk 259 1040 = some (.iaload, 1041, 0, 0, .null) := by decide +kernel
theorem x_259_1040 : Tr sc d 259 (1040, [l0, l1, l2, l3], [.int i4, .ref k3, .int i2, .ref k1, .int i0], h) Q = (iOk sc h k3 i4 ∧ Tr sc d 259 (1041, [l0, l1, l2, l3], [.int (iRd sc h k3 i4), .int i2, .ref k1, .int i0], h) Q) := t_iald k_259_1040
theorem k_259_1041 : lk 259 1041 = some (.aload_n 0, 1042, 0, 0, .null) := by decide +kernel
theorem x_259_1041 : Tr sc d 259 (1041, [some (.ref xk), l1, l2, l3], [.int i3, .int i2, .ref k1, .int i0], h) Q = Tr sc d 259 (1042, [some (.ref xk), l1, l2, l3], [.ref xk, .int i3, .int i2, .ref k1, .int i0], h) Q := t_aload_n k_259_1041 rfl
theorem k_259_1042 : lk 259 1042 = some (.iload_n 3, 1043, 3, 0, .null) := by decide +kernel
theorem x_259_1042 : Tr sc d 259 (1042, [l0, l1, l2, some (.int x)], [.ref k4, .int i3, .int i2, .ref k1, .int i0], h) Q = Tr sc d 259 (1043, [l0, l1, l2, some (.int x)], [.int x, .ref k4, .int i3, .int i2, .ref k1, .int i0], h) Q := t_iload_n k_259_1042 rfl
theorem k_259_1043 : lk 259 1043 = some (.iconst 3, 1044, 0, 0, .int 3) := by decide +kernel
theorem x_259_1043 : Tr sc d 259 (1043, [l0, l1, l2, l3], [.int i5, .ref k4, .int i3, .int i2, .ref k1, .int i0], h) Q = Tr sc d 259 (1044, [l0, l1, l2, l3], [.int 3, .int i5, .ref k4, .int i3, .int i2, .ref k1, .int i0], h) Q := t_go k_259_1043 rfl
theorem k_259_1044 : lk 259 1044 = some (.iadd, 1045, 0, 0, .null) := by decide +kernel
theorem x_259_1044 : Tr sc d 259 (1044, [l0, l1, l2, l3], [.int i6, .int i5, .ref k4, .int i3, .int i2, .ref k1, .int i0], h) Q = Tr sc d 259 (1045, [l0, l1, l2, l3], [.int (i5 + i6), .ref k4, .int i3, .int i2, .ref k1, .int i0], h) Q := t_go k_259_1044 rfl
theorem k_259_1045 : lk 259 1045 = some (.iaload, 1046, 0, 0, .null) := by decide +kernel
theorem x_259_1045 : Tr sc d 259 (1045, [l0, l1, l2, l3], [.int i5, .ref k4, .int i3, .int i2, .ref k1, .int i0], h) Q = (iOk sc h k4 i5 ∧ Tr sc d 259 (1046, [l0, l1, l2, l3], [.int (iRd sc h k4 i5), .int i3, .int i2, .ref k1, .int i0], h) Q) := t_iald k_259_1045
theorem k_259_1046 : lk 259 1046 = some (.aload_n 0, 1047, 0, 0, .null) := by decide +kernel
theorem x_259_1046 : Tr sc d 259 (1046, [some (.ref xk), l1, l2, l3], [.int i4, .int i3, .int i2, .ref k1, .int i0], h) Q = Tr sc d 259 (1047, [some (.ref xk), l1, l2, l3], [.ref xk, .int i4, .int i3, .int i2, .ref k1, .int i0], h) Q := t_aload_n k_259_1046 rfl
theorem k_259_1047 : lk 259 1047 = some (.iload_n 3, 1048, 3, 0, .null) := by decide +kernel
theorem x_259_1047 : Tr sc d 259 (1047, [l0, l1, l2, some (.int x)], [.ref k5, .int i4, .int i3, .int i2, .ref k1, .int i0], h) Q = Tr sc d 259 (1048, [l0, l1, l2, some (.int x)], [.int x, .ref k5, .int i4, .int i3, .int i2, .ref k1, .int i0], h) Q := t_iload_n k_259_1047 rfl
theorem k_259_1048 : lk 259 1048 = some (.iconst 4, 1049, 0, 0, .int 4) := by decide +kernel
theorem x_259_1048 : Tr sc d 259 (1048, [l0, l1, l2, l3], [.int i6, .ref k5, .int i4, .int i3, .int i2, .ref k1, .int i0], h) Q = Tr sc d 259 (1049, [l0, l1, l2, l3], [.int 4, .int i6, .ref k5, .int i4, .int i3, .int i2, .ref k1, .int i0], h) Q := t_go k_259_1048 rfl
theorem k_259_1049 : lk 259 1049 = some (.iadd, 1050, 0, 0, .null) := by decide +kernel
theorem x_259_1049 : Tr sc d 259 (1049, [l0, l1, l2, l3], [.int i7, .int i6, .ref k5, .int i4, .int i3, .int i2, .ref k1, .int i0], h) Q = Tr sc d 259 (1050, [l0, l1, l2, l3], [.int (i6 + i7), .ref k5, .int i4, .int i3, .int i2, .ref k1, .int i0], h) Q := t_go k_259_1049 rfl
theorem k_259_1050 : lk 259 1050 = some (.iaload, 1051, 0, 0, .null) := by decide +kernel
theorem x_259_1050 : Tr sc d 259 (1050, [l0, l1, l2, l3], [.int i6, .ref k5, .int i4, .int i3, .int i2, .ref k1, .int i0], h) Q = (iOk sc h k5 i6 ∧ Tr sc d 259 (1051, [l0, l1, l2, l3], [.int (iRd sc h k5 i6), .int i4, .int i3, .int i2, .ref k1, .int i0], h) Q) := t_iald k_259_1050
theorem k_259_1051 : lk 259 1051 = some (.invokevirtual 103, 1054, 208, 4, .null) := by decide +kernel
theorem x_259_1051 : Tr sc (d + 1) 259 (1051, [l0, l1, l2, l3], [.int i5, .int i4, .int i3, .int i2, .ref k1, .int i0], h) Q = (okp h k1 10 = true ∧ Tr sc d 208 (ent0 208 [.ref k1, .int i2, .int i3, .int i4, .int i5] h) (fun z => Tr sc (d + 1) 259 (1054, [l0, l1, l2, l3], z.1.toList ++ [.int i0], z.2) Q)) := t_cv (as := [.int i2, .int i3, .int i4, .int i5]) (r := [.int i0]) k_259_1051 rfl rfl (Nat.le_of_ble_eq_true rfl) (Nat.le_of_ble_eq_true rfl) (Nat.le_of_ble_eq_true rfl)
theorem k_259_1054 : lk 259 1054 = some (.if_icmp .eq 694, 1057, 1748, 0, .null) := by decide +kernel
theorem x_259_1054 : Tr sc d 259 (1054, [l0, l1, l2, l3], [.int i1, .int i0], h) Q = if i0 = i1 then Tr sc d 259 (1748, [l0, l1, l2, l3], [], h) Q else Tr sc d 259 (1057, [l0, l1, l2, l3], [], h) Q := t_if k_259_1054 rfl
theorem k_259_1057 : lk 259 1057 = some (.iconst 0, 1058, 0, 0, .int 0) := by decide +kernel
theorem x_259_1057 : Tr sc d 259 (1057, [l0, l1, l2, l3], [], h) Q = Tr sc d 259 (1058, [l0, l1, l2, l3], [.int 0], h) Q := t_go k_259_1057 rfl
theorem k_259_1058 : lk 259 1058 = some (.ireturn, 1059, 0, 0, .null) := by decide +kernel
theorem x_259_1058 : Tr sc d 259 (1058, [l0, l1, l2, l3], [.int i0], h) Q = (vp_nar .boolean i0 = i0 ∧ Q (some (.int i0), h)) := t_zret k_259_1058 r_259
theorem k_259_1059 : lk 259 1059 = some (.aload_n 1, 1060, 1, 0, .null) := by decide +kernel
theorem x_259_1059 : Tr sc d 259 (1059, [l0, some (.ref xk), l2, l3], [], h) Q = Tr sc d 259 (1060, [l0, some (.ref xk), l2, l3], [.ref xk], h) Q := t_aload_n k_259_1059 rfl
theorem k_259_1060 : lk 259 1060 = some (.aload_n 0, 1061, 0, 0, .null) := by decide +kernel
theorem x_259_1060 : Tr sc d 259 (1060, [some (.ref xk), l1, l2, l3], [.ref k0], h) Q = Tr sc d 259 (1061, [some (.ref xk), l1, l2, l3], [.ref xk, .ref k0], h) Q := t_aload_n k_259_1060 rfl
theorem k_259_1061 : lk 259 1061 = some (.iload_n 3, 1062, 3, 0, .null) := by decide +kernel
theorem x_259_1061 : Tr sc d 259 (1061, [l0, l1, l2, some (.int x)], [.ref k1, .ref k0], h) Q = Tr sc d 259 (1062, [l0, l1, l2, some (.int x)], [.int x, .ref k1, .ref k0], h) Q := t_iload_n k_259_1061 rfl
theorem k_259_1062 : lk 259 1062 = some (.iconst 1, 1063, 0, 0, .int 1) := by decide +kernel
theorem x_259_1062 : Tr sc d 259 (1062, [l0, l1, l2, l3], [.int i2, .ref k1, .ref k0], h) Q = Tr sc d 259 (1063, [l0, l1, l2, l3], [.int 1, .int i2, .ref k1, .ref k0], h) Q := t_go k_259_1062 rfl
theorem k_259_1063 : lk 259 1063 = some (.iadd, 1064, 0, 0, .null) := by decide +kernel
theorem x_259_1063 : Tr sc d 259 (1063, [l0, l1, l2, l3], [.int i3, .int i2, .ref k1, .ref k0], h) Q = Tr sc d 259 (1064, [l0, l1, l2, l3], [.int (i2 + i3), .ref k1, .ref k0], h) Q := t_go k_259_1063 rfl
theorem k_259_1064 : lk 259 1064 = some (.iaload, 1065, 0, 0, .null) := by decide +kernel
theorem x_259_1064 : Tr sc d 259 (1064, [l0, l1, l2, l3], [.int i2, .ref k1, .ref k0], h) Q = (iOk sc h k1 i2 ∧ Tr sc d 259 (1065, [l0, l1, l2, l3], [.int (iRd sc h k1 i2), .ref k0], h) Q) := t_iald k_259_1064
theorem k_259_1065 : lk 259 1065 = some (.aload_n 0, 1066, 0, 0, .null) := by decide +kernel
theorem x_259_1065 : Tr sc d 259 (1065, [some (.ref xk), l1, l2, l3], [.int i1, .ref k0], h) Q = Tr sc d 259 (1066, [some (.ref xk), l1, l2, l3], [.ref xk, .int i1, .ref k0], h) Q := t_aload_n k_259_1065 rfl
theorem k_259_1066 : lk 259 1066 = some (.iload_n 3, 1067, 3, 0, .null) := by decide +kernel
theorem x_259_1066 : Tr sc d 259 (1066, [l0, l1, l2, some (.int x)], [.ref k2, .int i1, .ref k0], h) Q = Tr sc d 259 (1067, [l0, l1, l2, some (.int x)], [.int x, .ref k2, .int i1, .ref k0], h) Q := t_iload_n k_259_1066 rfl
theorem k_259_1067 : lk 259 1067 = some (.iconst 2, 1068, 0, 0, .int 2) := by decide +kernel
theorem x_259_1067 : Tr sc d 259 (1067, [l0, l1, l2, l3], [.int i3, .ref k2, .int i1, .ref k0], h) Q = Tr sc d 259 (1068, [l0, l1, l2, l3], [.int 2, .int i3, .ref k2, .int i1, .ref k0], h) Q := t_go k_259_1067 rfl
theorem k_259_1068 : lk 259 1068 = some (.iadd, 1069, 0, 0, .null) := by decide +kernel
theorem x_259_1068 : Tr sc d 259 (1068, [l0, l1, l2, l3], [.int i4, .int i3, .ref k2, .int i1, .ref k0], h) Q = Tr sc d 259 (1069, [l0, l1, l2, l3], [.int (i3 + i4), .ref k2, .int i1, .ref k0], h) Q := t_go k_259_1068 rfl
theorem k_259_1069 : lk 259 1069 = some (.iaload, 1070, 0, 0, .null) := by decide +kernel
theorem x_259_1069 : Tr sc d 259 (1069, [l0, l1, l2, l3], [.int i3, .ref k2, .int i1, .ref k0], h) Q = (iOk sc h k2 i3 ∧ Tr sc d 259 (1070, [l0, l1, l2, l3], [.int (iRd sc h k2 i3), .int i1, .ref k0], h) Q) := t_iald k_259_1069
theorem k_259_1070 : lk 259 1070 = some (.aload_n 0, 1071, 0, 0, .null) := by decide +kernel
theorem x_259_1070 : Tr sc d 259 (1070, [some (.ref xk), l1, l2, l3], [.int i2, .int i1, .ref k0], h) Q = Tr sc d 259 (1071, [some (.ref xk), l1, l2, l3], [.ref xk, .int i2, .int i1, .ref k0], h) Q := t_aload_n k_259_1070 rfl
theorem k_259_1071 : lk 259 1071 = some (.iload_n 3, 1072, 3, 0, .null) := by decide +kernel
theorem x_259_1071 : Tr sc d 259 (1071, [l0, l1, l2, some (.int x)], [.ref k3, .int i2, .int i1, .ref k0], h) Q = Tr sc d 259 (1072, [l0, l1, l2, some (.int x)], [.int x, .ref k3, .int i2, .int i1, .ref k0], h) Q := t_iload_n k_259_1071 rfl
theorem k_259_1072 : lk 259 1072 = some (.iconst 3, 1073, 0, 0, .int 3) := by decide +kernel
theorem x_259_1072 : Tr sc d 259 (1072, [l0, l1, l2, l3], [.int i4, .ref k3, .int i2, .int i1, .ref k0], h) Q = Tr sc d 259 (1073, [l0, l1, l2, l3], [.int 3, .int i4, .ref k3, .int i2, .int i1, .ref k0], h) Q := t_go k_259_1072 rfl
theorem k_259_1073 : lk 259 1073 = some (.iadd, 1074, 0, 0, .null) := by decide +kernel
theorem x_259_1073 : Tr sc d 259 (1073, [l0, l1, l2, l3], [.int i5, .int i4, .ref k3, .int i2, .int i1, .ref k0], h) Q = Tr sc d 259 (1074, [l0, l1, l2, l3], [.int (i4 + i5), .ref k3, .int i2, .int i1, .ref k0], h) Q := t_go k_259_1073 rfl
theorem k_259_1074 : lk 259 1074 = some (.iaload, 1075, 0, 0, .null) := by decide +kernel
theorem x_259_1074 : Tr sc d 259 (1074, [l0, l1, l2, l3], [.int i4, .ref k3, .int i2, .int i1, .ref k0], h) Q = (iOk sc h k3 i4 ∧ Tr sc d 259 (1075, [l0, l1, l2, l3], [.int (iRd sc h k3 i4), .int i2, .int i1, .ref k0], h) Q) := t_iald k_259_1074
theorem k_259_1075 : lk 259 1075 = some (.invokevirtual 104, 1078, 118, 3, .null) := by decide +kernel
theorem x_259_1075 : Tr sc (d + 1) 259 (1075, [l0, l1, l2, l3], [.int i3, .int i2, .int i1, .ref k0], h) Q = (okp h k0 9 = true ∧ Tr sc d 118 (ent0 118 [.ref k0, .int i1, .int i2, .int i3] h) (fun z => Tr sc (d + 1) 259 (1078, [l0, l1, l2, l3], z.1.toList ++ [], z.2) Q)) := t_cv (as := [.int i1, .int i2, .int i3]) (r := []) k_259_1075 rfl rfl (Nat.le_of_ble_eq_true rfl) (Nat.le_of_ble_eq_true rfl) (Nat.le_of_ble_eq_true rfl)
theorem k_259_1078 : lk 259 1078 = some (.aload_n 2, 1079, 2, 0, .null) := by decide +kernel
theorem x_259_1078 : Tr sc d 259 (1078, [l0, l1, some (.ref xk), l3], [.int i0], h) Q = Tr sc d 259 (1079, [l0, l1, some (.ref xk), l3], [.ref xk, .int i0], h) Q := t_aload_n k_259_1078 rfl
theorem k_259_1079 : lk 259 1079 = some (.aload_n 0, 1080, 0, 0, .null) := by decide +kernel
theorem x_259_1079 : Tr sc d 259 (1079, [some (.ref xk), l1, l2, l3], [.ref k1, .int i0], h) Q = Tr sc d 259 (1080, [some (.ref xk), l1, l2, l3], [.ref xk, .ref k1, .int i0], h) Q := t_aload_n k_259_1079 rfl
theorem k_259_1080 : lk 259 1080 = some (.iload_n 3, 1081, 3, 0, .null) := by decide +kernel
theorem x_259_1080 : Tr sc d 259 (1080, [l0, l1, l2, some (.int x)], [.ref k2, .ref k1, .int i0], h) Q = Tr sc d 259 (1081, [l0, l1, l2, some (.int x)], [.int x, .ref k2, .ref k1, .int i0], h) Q := t_iload_n k_259_1080 rfl
theorem k_259_1081 : lk 259 1081 = some (.iconst 1, 1082, 0, 0, .int 1) := by decide +kernel
theorem x_259_1081 : Tr sc d 259 (1081, [l0, l1, l2, l3], [.int i3, .ref k2, .ref k1, .int i0], h) Q = Tr sc d 259 (1082, [l0, l1, l2, l3], [.int 1, .int i3, .ref k2, .ref k1, .int i0], h) Q := t_go k_259_1081 rfl
theorem k_259_1082 : lk 259 1082 = some (.iadd, 1083, 0, 0, .null) := by decide +kernel
theorem x_259_1082 : Tr sc d 259 (1082, [l0, l1, l2, l3], [.int i4, .int i3, .ref k2, .ref k1, .int i0], h) Q = Tr sc d 259 (1083, [l0, l1, l2, l3], [.int (i3 + i4), .ref k2, .ref k1, .int i0], h) Q := t_go k_259_1082 rfl
theorem k_259_1083 : lk 259 1083 = some (.iaload, 1084, 0, 0, .null) := by decide +kernel
theorem x_259_1083 : Tr sc d 259 (1083, [l0, l1, l2, l3], [.int i3, .ref k2, .ref k1, .int i0], h) Q = (iOk sc h k2 i3 ∧ Tr sc d 259 (1084, [l0, l1, l2, l3], [.int (iRd sc h k2 i3), .ref k1, .int i0], h) Q) := t_iald k_259_1083
theorem k_259_1084 : lk 259 1084 = some (.aload_n 0, 1085, 0, 0, .null) := by decide +kernel
theorem x_259_1084 : Tr sc d 259 (1084, [some (.ref xk), l1, l2, l3], [.int i2, .ref k1, .int i0], h) Q = Tr sc d 259 (1085, [some (.ref xk), l1, l2, l3], [.ref xk, .int i2, .ref k1, .int i0], h) Q := t_aload_n k_259_1084 rfl
theorem k_259_1085 : lk 259 1085 = some (.iload_n 3, 1086, 3, 0, .null) := by decide +kernel
theorem x_259_1085 : Tr sc d 259 (1085, [l0, l1, l2, some (.int x)], [.ref k3, .int i2, .ref k1, .int i0], h) Q = Tr sc d 259 (1086, [l0, l1, l2, some (.int x)], [.int x, .ref k3, .int i2, .ref k1, .int i0], h) Q := t_iload_n k_259_1085 rfl
theorem k_259_1086 : lk 259 1086 = some (.iconst 2, 1087, 0, 0, .int 2) := by decide +kernel
theorem x_259_1086 : Tr sc d 259 (1086, [l0, l1, l2, l3], [.int i4, .ref k3, .int i2, .ref k1, .int i0], h) Q = Tr sc d 259 (1087, [l0, l1, l2, l3], [.int 2, .int i4, .ref k3, .int i2, .ref k1, .int i0], h) Q := t_go k_259_1086 rfl
theorem k_259_1087 : lk 259 1087 = some (.iadd, 1088, 0, 0, .null) := by decide +kernel
theorem x_259_1087 : Tr sc d 259 (1087, [l0, l1, l2, l3], [.int i5, .int i4, .ref k3, .int i2, .ref k1, .int i0], h) Q = Tr sc d 259 (1088, [l0, l1, l2, l3], [.int (i4 + i5), .ref k3, .int i2, .ref k1, .int i0], h) Q := t_go k_259_1087 rfl
theorem k_259_1088 : lk 259 1088 = some (.iaload, 1089, 0, 0, .null) := by decide +kernel
theorem x_259_1088 : Tr sc d 259 (1088, [l0, l1, l2, l3], [.int i4, .ref k3, .int i2, .ref k1, .int i0], h) Q = (iOk sc h k3 i4 ∧ Tr sc d 259 (1089, [l0, l1, l2, l3], [.int (iRd sc h k3 i4), .int i2, .ref k1, .int i0], h) Q) := t_iald k_259_1088
theorem k_259_1089 : lk 259 1089 = some (.aload_n 0, 1090, 0, 0, .null) := by decide +kernel
theorem x_259_1089 : Tr sc d 259 (1089, [some (.ref xk), l1, l2, l3], [.int i3, .int i2, .ref k1, .int i0], h) Q = Tr sc d 259 (1090, [some (.ref xk), l1, l2, l3], [.ref xk, .int i3, .int i2, .ref k1, .int i0], h) Q := t_aload_n k_259_1089 rfl
theorem k_259_1090 : lk 259 1090 = some (.iload_n 3, 1091, 3, 0, .null) := by decide +kernel
theorem x_259_1090 : Tr sc d 259 (1090, [l0, l1, l2, some (.int x)], [.ref k4, .int i3, .int i2, .ref k1, .int i0], h) Q = Tr sc d 259 (1091, [l0, l1, l2, some (.int x)], [.int x, .ref k4, .int i3, .int i2, .ref k1, .int i0], h) Q := t_iload_n k_259_1090 rfl
theorem k_259_1091 : lk 259 1091 = some (.iconst 3, 1092, 0, 0, .int 3) := by decide +kernel
theorem x_259_1091 : Tr sc d 259 (1091, [l0, l1, l2, l3], [.int i5, .ref k4, .int i3, .int i2, .ref k1, .int i0], h) Q = Tr sc d 259 (1092, [l0, l1, l2, l3], [.int 3, .int i5, .ref k4, .int i3, .int i2, .ref k1, .int i0], h) Q := t_go k_259_1091 rfl
theorem k_259_1092 : lk 259 1092 = some (.iadd, 1093, 0, 0, .null) := by decide +kernel
theorem x_259_1092 : Tr sc d 259 (1092, [l0, l1, l2, l3], [.int i6, .int i5, .ref k4, .int i3, .int i2, .ref k1, .int i0], h) Q = Tr sc d 259 (1093, [l0, l1, l2, l3], [.int (i5 + i6), .ref k4, .int i3, .int i2, .ref k1, .int i0], h) Q := t_go k_259_1092 rfl
theorem k_259_1093 : lk 259 1093 = some (.iaload, 1094, 0, 0, .null) := by decide +kernel
theorem x_259_1093 : Tr sc d 259 (1093, [l0, l1, l2, l3], [.int i5, .ref k4, .int i3, .int i2, .ref k1, .int i0], h) Q = (iOk sc h k4 i5 ∧ Tr sc d 259 (1094, [l0, l1, l2, l3], [.int (iRd sc h k4 i5), .int i3, .int i2, .ref k1, .int i0], h) Q) := t_iald k_259_1093
theorem k_259_1094 : lk 259 1094 = some (.invokevirtual 107, 1097, 209, 3, .null) := by decide +kernel
theorem x_259_1094 : Tr sc (d + 1) 259 (1094, [l0, l1, l2, l3], [.int i4, .int i3, .int i2, .ref k1, .int i0], h) Q = (okp h k1 10 = true ∧ Tr sc d 209 (ent0 209 [.ref k1, .int i2, .int i3, .int i4] h) (fun z => Tr sc (d + 1) 259 (1097, [l0, l1, l2, l3], z.1.toList ++ [.int i0], z.2) Q)) := t_cv (as := [.int i2, .int i3, .int i4]) (r := [.int i0]) k_259_1094 rfl rfl (Nat.le_of_ble_eq_true rfl) (Nat.le_of_ble_eq_true rfl) (Nat.le_of_ble_eq_true rfl)
theorem k_259_1097 : lk 259 1097 = some (.if_icmp .eq 651, 1100, 1748, 0, .null) := by decide +kernel
theorem x_259_1097 : Tr sc d 259 (1097, [l0, l1, l2, l3], [.int i1, .int i0], h) Q = if i0 = i1 then Tr sc d 259 (1748, [l0, l1, l2, l3], [], h) Q else Tr sc d 259 (1100, [l0, l1, l2, l3], [], h) Q := t_if k_259_1097 rfl
theorem k_259_1100 : lk 259 1100 = some (.iconst 0, 1101, 0, 0, .int 0) := by decide +kernel
theorem x_259_1100 : Tr sc d 259 (1100, [l0, l1, l2, l3], [], h) Q = Tr sc d 259 (1101, [l0, l1, l2, l3], [.int 0], h) Q := t_go k_259_1100 rfl
theorem k_259_1101 : lk 259 1101 = some (.ireturn, 1102, 0, 0, .null) := by decide +kernel
theorem x_259_1101 : Tr sc d 259 (1101, [l0, l1, l2, l3], [.int i0], h) Q = (vp_nar .boolean i0 = i0 ∧ Q (some (.int i0), h)) := t_zret k_259_1101 r_259
theorem k_259_1102 : lk 259 1102 = some (.aload_n 1, 1103, 1, 0, .null) := by decide +kernel
theorem x_259_1102 : Tr sc d 259 (1102, [l0, some (.ref xk), l2, l3], [], h) Q = Tr sc d 259 (1103, [l0, some (.ref xk), l2, l3], [.ref xk], h) Q := t_aload_n k_259_1102 rfl
theorem k_259_1103 : lk 259 1103 = some (.aload_n 0, 1104, 0, 0, .null) := by decide +kernel
theorem x_259_1103 : Tr sc d 259 (1103, [some (.ref xk), l1, l2, l3], [.ref k0], h) Q = Tr sc d 259 (1104, [some (.ref xk), l1, l2, l3], [.ref xk, .ref k0], h) Q := t_aload_n k_259_1103 rfl
theorem k_259_1104 : lk 259 1104 = some (.iload_n 3, 1105, 3, 0, .null) := by decide +kernel
theorem x_259_1104 : Tr sc d 259 (1104, [l0, l1, l2, some (.int x)], [.ref k1, .ref k0], h) Q = Tr sc d 259 (1105, [l0, l1, l2, some (.int x)], [.int x, .ref k1, .ref k0], h) Q := t_iload_n k_259_1104 rfl
theorem k_259_1105 : lk 259 1105 = some (.iconst 1, 1106, 0, 0, .int 1) := by decide +kernel
theorem x_259_1105 : Tr sc d 259 (1105, [l0, l1, l2, l3], [.int i2, .ref k1, .ref k0], h) Q = Tr sc d 259 (1106, [l0, l1, l2, l3], [.int 1, .int i2, .ref k1, .ref k0], h) Q := t_go k_259_1105 rfl
theorem k_259_1106 : lk 259 1106 = some (.iadd, 1107, 0, 0, .null) := by decide +kernel
theorem x_259_1106 : Tr sc d 259 (1106, [l0, l1, l2, l3], [.int i3, .int i2, .ref k1, .ref k0], h) Q = Tr sc d 259 (1107, [l0, l1, l2, l3], [.int (i2 + i3), .ref k1, .ref k0], h) Q := t_go k_259_1106 rfl
theorem k_259_1107 : lk 259 1107 = some (.iaload, 1108, 0, 0, .null) := by decide +kernel
theorem x_259_1107 : Tr sc d 259 (1107, [l0, l1, l2, l3], [.int i2, .ref k1, .ref k0], h) Q = (iOk sc h k1 i2 ∧ Tr sc d 259 (1108, [l0, l1, l2, l3], [.int (iRd sc h k1 i2), .ref k0], h) Q) := t_iald k_259_1107
theorem k_259_1108 : lk 259 1108 = some (.invokevirtual 108, 1111, 119, 1, .null) := by decide +kernel
theorem x_259_1108 : Tr sc (d + 1) 259 (1108, [l0, l1, l2, l3], [.int i1, .ref k0], h) Q = (okp h k0 9 = true ∧ Tr sc d 119 (ent0 119 [.ref k0, .int i1] h) (fun z => Tr sc (d + 1) 259 (1111, [l0, l1, l2, l3], z.1.toList ++ [], z.2) Q)) := t_cv (as := [.int i1]) (r := []) k_259_1108 rfl rfl (Nat.le_of_ble_eq_true rfl) (Nat.le_of_ble_eq_true rfl) (Nat.le_of_ble_eq_true rfl)
theorem k_259_1111 : lk 259 1111 = some (.aload_n 2, 1112, 2, 0, .null) := by decide +kernel
theorem x_259_1111 : Tr sc d 259 (1111, [l0, l1, some (.ref xk), l3], [.int i0], h) Q = Tr sc d 259 (1112, [l0, l1, some (.ref xk), l3], [.ref xk, .int i0], h) Q := t_aload_n k_259_1111 rfl
theorem k_259_1112 : lk 259 1112 = some (.aload_n 0, 1113, 0, 0, .null) := by decide +kernel
theorem x_259_1112 : Tr sc d 259 (1112, [some (.ref xk), l1, l2, l3], [.ref k1, .int i0], h) Q = Tr sc d 259 (1113, [some (.ref xk), l1, l2, l3], [.ref xk, .ref k1, .int i0], h) Q := t_aload_n k_259_1112 rfl
theorem k_259_1113 : lk 259 1113 = some (.iload_n 3, 1114, 3, 0, .null) := by decide +kernel
theorem x_259_1113 : Tr sc d 259 (1113, [l0, l1, l2, some (.int x)], [.ref k2, .ref k1, .int i0], h) Q = Tr sc d 259 (1114, [l0, l1, l2, some (.int x)], [.int x, .ref k2, .ref k1, .int i0], h) Q := t_iload_n k_259_1113 rfl
theorem k_259_1114 : lk 259 1114 = some (.iconst 1, 1115, 0, 0, .int 1) := by decide +kernel
theorem x_259_1114 : Tr sc d 259 (1114, [l0, l1, l2, l3], [.int i3, .ref k2, .ref k1, .int i0], h) Q = Tr sc d 259 (1115, [l0, l1, l2, l3], [.int 1, .int i3, .ref k2, .ref k1, .int i0], h) Q := t_go k_259_1114 rfl
theorem k_259_1115 : lk 259 1115 = some (.iadd, 1116, 0, 0, .null) := by decide +kernel
theorem x_259_1115 : Tr sc d 259 (1115, [l0, l1, l2, l3], [.int i4, .int i3, .ref k2, .ref k1, .int i0], h) Q = Tr sc d 259 (1116, [l0, l1, l2, l3], [.int (i3 + i4), .ref k2, .ref k1, .int i0], h) Q := t_go k_259_1115 rfl
theorem k_259_1116 : lk 259 1116 = some (.iaload, 1117, 0, 0, .null) := by decide +kernel
theorem x_259_1116 : Tr sc d 259 (1116, [l0, l1, l2, l3], [.int i3, .ref k2, .ref k1, .int i0], h) Q = (iOk sc h k2 i3 ∧ Tr sc d 259 (1117, [l0, l1, l2, l3], [.int (iRd sc h k2 i3), .ref k1, .int i0], h) Q) := t_iald k_259_1116
theorem k_259_1117 : lk 259 1117 = some (.invokevirtual 111, 1120, 210, 1, .null) := by decide +kernel
theorem x_259_1117 : Tr sc (d + 1) 259 (1117, [l0, l1, l2, l3], [.int i2, .ref k1, .int i0], h) Q = (okp h k1 10 = true ∧ Tr sc d 210 (ent0 210 [.ref k1, .int i2] h) (fun z => Tr sc (d + 1) 259 (1120, [l0, l1, l2, l3], z.1.toList ++ [.int i0], z.2) Q)) := t_cv (as := [.int i2]) (r := [.int i0]) k_259_1117 rfl rfl (Nat.le_of_ble_eq_true rfl) (Nat.le_of_ble_eq_true rfl) (Nat.le_of_ble_eq_true rfl)
theorem k_259_1120 : lk 259 1120 = some (.if_icmp .eq 628, 1123, 1748, 0, .null) := by decide +kernel
theorem x_259_1120 : Tr sc d 259 (1120, [l0, l1, l2, l3], [.int i1, .int i0], h) Q = if i0 = i1 then Tr sc d 259 (1748, [l0, l1, l2, l3], [], h) Q else Tr sc d 259 (1123, [l0, l1, l2, l3], [], h) Q := t_if k_259_1120 rfl
theorem k_259_1123 : lk 259 1123 = some (.iconst 0, 1124, 0, 0, .int 0) := by decide +kernel
theorem x_259_1123 : Tr sc d 259 (1123, [l0, l1, l2, l3], [], h) Q = Tr sc d 259 (1124, [l0, l1, l2, l3], [.int 0], h) Q := t_go k_259_1123 rfl
theorem k_259_1124 : lk 259 1124 = some (.ireturn, 1125, 0, 0, .null) := by decide +kernel
theorem x_259_1124 : Tr sc d 259 (1124, [l0, l1, l2, l3], [.int i0], h) Q = (vp_nar .boolean i0 = i0 ∧ Q (some (.int i0), h)) := t_zret k_259_1124 r_259
theorem k_259_1125 : lk 259 1125 = some (.aload_n 1, 1126, 1, 0, .null) := by decide +kernel
theorem x_259_1125 : Tr sc d 259 (1125, [l0, some (.ref xk), l2, l3], [], h) Q = Tr sc d 259 (1126, [l0, some (.ref xk), l2, l3], [.ref xk], h) Q := t_aload_n k_259_1125 rfl
theorem k_259_1126 : lk 259 1126 = some (.aload_n 0, 1127, 0, 0, .null) := by decide +kernel
theorem x_259_1126 : Tr sc d 259 (1126, [some (.ref xk), l1, l2, l3], [.ref k0], h) Q = Tr sc d 259 (1127, [some (.ref xk), l1, l2, l3], [.ref xk, .ref k0], h) Q := t_aload_n k_259_1126 rfl
theorem k_259_1127 : lk 259 1127 = some (.iload_n 3, 1128, 3, 0, .null) := by decide +kernel
theorem x_259_1127 : Tr sc d 259 (1127, [l0, l1, l2, some (.int x)], [.ref k1, .ref k0], h) Q = Tr sc d 259 (1128, [l0, l1, l2, some (.int x)], [.int x, .ref k1, .ref k0], h) Q := t_iload_n k_259_1127 rfl
theorem k_259_1128 : lk 259 1128 = some (.iconst 1, 1129, 0, 0, .int 1) := by decide +kernel
theorem x_259_1128 : Tr sc d 259 (1128, [l0, l1, l2, l3], [.int i2, .ref k1, .ref k0], h) Q = Tr sc d 259 (1129, [l0, l1, l2, l3], [.int 1, .int i2, .ref k1, .ref k0], h) Q := t_go k_259_1128 rfl
theorem k_259_1129 : lk 259 1129 = some (.iadd, 1130, 0, 0, .null) := by decide +kernel
theorem x_259_1129 : Tr sc d 259 (1129, [l0, l1, l2, l3], [.int i3, .int i2, .ref k1, .ref k0], h) Q = Tr sc d 259 (1130, [l0, l1, l2, l3], [.int (i2 + i3), .ref k1, .ref k0], h) Q := t_go k_259_1129 rfl
theorem k_259_1130 : lk 259 1130 = some (.iaload, 1131, 0, 0, .null) := by decide +kernel
theorem x_259_1130 : Tr sc d 259 (1130, [l0, l1, l2, l3], [.int i2, .ref k1, .ref k0], h) Q = (iOk sc h k1 i2 ∧ Tr sc d 259 (1131, [l0, l1, l2, l3], [.int (iRd sc h k1 i2), .ref k0], h) Q) := t_iald k_259_1130
theorem k_259_1131 : lk 259 1131 = some (.invokevirtual 112, 1134, 120, 1, .null) := by decide +kernel
theorem x_259_1131 : Tr sc (d + 1) 259 (1131, [l0, l1, l2, l3], [.int i1, .ref k0], h) Q = (okp h k0 9 = true ∧ Tr sc d 120 (ent0 120 [.ref k0, .int i1] h) (fun z => Tr sc (d + 1) 259 (1134, [l0, l1, l2, l3], z.1.toList ++ [], z.2) Q)) := t_cv (as := [.int i1]) (r := []) k_259_1131 rfl rfl (Nat.le_of_ble_eq_true rfl) (Nat.le_of_ble_eq_true rfl) (Nat.le_of_ble_eq_true rfl)
theorem k_259_1134 : lk 259 1134 = some (.aload_n 2, 1135, 2, 0, .null) := by decide +kernel
theorem x_259_1134 : Tr sc d 259 (1134, [l0, l1, some (.ref xk), l3], [.int i0], h) Q = Tr sc d 259 (1135, [l0, l1, some (.ref xk), l3], [.ref xk, .int i0], h) Q := t_aload_n k_259_1134 rfl
theorem k_259_1135 : lk 259 1135 = some (.aload_n 0, 1136, 0, 0, .null) := by decide +kernel
theorem x_259_1135 : Tr sc d 259 (1135, [some (.ref xk), l1, l2, l3], [.ref k1, .int i0], h) Q = Tr sc d 259 (1136, [some (.ref xk), l1, l2, l3], [.ref xk, .ref k1, .int i0], h) Q := t_aload_n k_259_1135 rfl
theorem k_259_1136 : lk 259 1136 = some (.iload_n 3, 1137, 3, 0, .null) := by decide +kernel
theorem x_259_1136 : Tr sc d 259 (1136, [l0, l1, l2, some (.int x)], [.ref k2, .ref k1, .int i0], h) Q = Tr sc d 259 (1137, [l0, l1, l2, some (.int x)], [.int x, .ref k2, .ref k1, .int i0], h) Q := t_iload_n k_259_1136 rfl
theorem k_259_1137 : lk 259 1137 = some (.iconst 1, 1138, 0, 0, .int 1) := by decide +kernel
theorem x_259_1137 : Tr sc d 259 (1137, [l0, l1, l2, l3], [.int i3, .ref k2, .ref k1, .int i0], h) Q = Tr sc d 259 (1138, [l0, l1, l2, l3], [.int 1, .int i3, .ref k2, .ref k1, .int i0], h) Q := t_go k_259_1137 rfl
theorem k_259_1138 : lk 259 1138 = some (.iadd, 1139, 0, 0, .null) := by decide +kernel
theorem x_259_1138 : Tr sc d 259 (1138, [l0, l1, l2, l3], [.int i4, .int i3, .ref k2, .ref k1, .int i0], h) Q = Tr sc d 259 (1139, [l0, l1, l2, l3], [.int (i3 + i4), .ref k2, .ref k1, .int i0], h) Q := t_go k_259_1138 rfl
theorem k_259_1139 : lk 259 1139 = some (.iaload, 1140, 0, 0, .null) := by decide +kernel
theorem x_259_1139 : Tr sc d 259 (1139, [l0, l1, l2, l3], [.int i3, .ref k2, .ref k1, .int i0], h) Q = (iOk sc h k2 i3 ∧ Tr sc d 259 (1140, [l0, l1, l2, l3], [.int (iRd sc h k2 i3), .ref k1, .int i0], h) Q) := t_iald k_259_1139
theorem k_259_1140 : lk 259 1140 = some (.invokevirtual 115, 1143, 219, 1, .null) := by decide +kernel
theorem x_259_1140 : Tr sc (d + 1) 259 (1140, [l0, l1, l2, l3], [.int i2, .ref k1, .int i0], h) Q = (okp h k1 10 = true ∧ Tr sc d 219 (ent0 219 [.ref k1, .int i2] h) (fun z => Tr sc (d + 1) 259 (1143, [l0, l1, l2, l3], z.1.toList ++ [.int i0], z.2) Q)) := t_cv (as := [.int i2]) (r := [.int i0]) k_259_1140 rfl rfl (Nat.le_of_ble_eq_true rfl) (Nat.le_of_ble_eq_true rfl) (Nat.le_of_ble_eq_true rfl)
theorem k_259_1143 : lk 259 1143 = some (.if_icmp .eq 605, 1146, 1748, 0, .null) := by decide +kernel
theorem x_259_1143 : Tr sc d 259 (1143, [l0, l1, l2, l3], [.int i1, .int i0], h) Q = if i0 = i1 then Tr sc d 259 (1748, [l0, l1, l2, l3], [], h) Q else Tr sc d 259 (1146, [l0, l1, l2, l3], [], h) Q := t_if k_259_1143 rfl
theorem k_259_1146 : lk 259 1146 = some (.iconst 0, 1147, 0, 0, .int 0) := by decide +kernel
theorem x_259_1146 : Tr sc d 259 (1146, [l0, l1, l2, l3], [], h) Q = Tr sc d 259 (1147, [l0, l1, l2, l3], [.int 0], h) Q := t_go k_259_1146 rfl
theorem k_259_1147 : lk 259 1147 = some (.ireturn, 1148, 0, 0, .null) := by decide +kernel
theorem x_259_1147 : Tr sc d 259 (1147, [l0, l1, l2, l3], [.int i0], h) Q = (vp_nar .boolean i0 = i0 ∧ Q (some (.int i0), h)) := t_zret k_259_1147 r_259
theorem k_259_1148 : lk 259 1148 = some (.aload_n 1, 1149, 1, 0, .null) := by decide +kernel
theorem x_259_1148 : Tr sc d 259 (1148, [l0, some (.ref xk), l2, l3], [], h) Q = Tr sc d 259 (1149, [l0, some (.ref xk), l2, l3], [.ref xk], h) Q := t_aload_n k_259_1148 rfl
theorem k_259_1149 : lk 259 1149 = some (.aload_n 0, 1150, 0, 0, .null) := by decide +kernel
theorem x_259_1149 : Tr sc d 259 (1149, [some (.ref xk), l1, l2, l3], [.ref k0], h) Q = Tr sc d 259 (1150, [some (.ref xk), l1, l2, l3], [.ref xk, .ref k0], h) Q := t_aload_n k_259_1149 rfl
theorem k_259_1150 : lk 259 1150 = some (.iload_n 3, 1151, 3, 0, .null) := by decide +kernel
theorem x_259_1150 : Tr sc d 259 (1150, [l0, l1, l2, some (.int x)], [.ref k1, .ref k0], h) Q = Tr sc d 259 (1151, [l0, l1, l2, some (.int x)], [.int x, .ref k1, .ref k0], h) Q := t_iload_n k_259_1150 rfl
theorem k_259_1151 : lk 259 1151 = some (.iconst 1, 1152, 0, 0, .int 1) := by decide +kernel
theorem x_259_1151 : Tr sc d 259 (1151, [l0, l1, l2, l3], [.int i2, .ref k1, .ref k0], h) Q = Tr sc d 259 (1152, [l0, l1, l2, l3], [.int 1, .int i2, .ref k1, .ref k0], h) Q := t_go k_259_1151 rfl
theorem k_259_1152 : lk 259 1152 = some (.iadd, 1153, 0, 0, .null) := by decide +kernel
theorem x_259_1152 : Tr sc d 259 (1152, [l0, l1, l2, l3], [.int i3, .int i2, .ref k1, .ref k0], h) Q = Tr sc d 259 (1153, [l0, l1, l2, l3], [.int (i2 + i3), .ref k1, .ref k0], h) Q := t_go k_259_1152 rfl
theorem k_259_1153 : lk 259 1153 = some (.iaload, 1154, 0, 0, .null) := by decide +kernel
theorem x_259_1153 : Tr sc d 259 (1153, [l0, l1, l2, l3], [.int i2, .ref k1, .ref k0], h) Q = (iOk sc h k1 i2 ∧ Tr sc d 259 (1154, [l0, l1, l2, l3], [.int (iRd sc h k1 i2), .ref k0], h) Q) := t_iald k_259_1153
theorem k_259_1154 : lk 259 1154 = some (.aload_n 0, 1155, 0, 0, .null) := by decide +kernel
theorem x_259_1154 : Tr sc d 259 (1154, [some (.ref xk), l1, l2, l3], [.int i1, .ref k0], h) Q = Tr sc d 259 (1155, [some (.ref xk), l1, l2, l3], [.ref xk, .int i1, .ref k0], h) Q := t_aload_n k_259_1154 rfl
theorem k_259_1155 : lk 259 1155 = some (.iload_n 3, 1156, 3, 0, .null) := by decide +kernel
theorem x_259_1155 : Tr sc d 259 (1155, [l0, l1, l2, some (.int x)], [.ref k2, .int i1, .ref k0], h) Q = Tr sc d 259 (1156, [l0, l1, l2, some (.int x)], [.int x, .ref k2, .int i1, .ref k0], h) Q := t_iload_n k_259_1155 rfl
theorem k_259_1156 : lk 259 1156 = some (.iconst 2, 1157, 0, 0, .int 2) := by decide +kernel
theorem x_259_1156 : Tr sc d 259 (1156, [l0, l1, l2, l3], [.int i3, .ref k2, .int i1, .ref k0], h) Q = Tr sc d 259 (1157, [l0, l1, l2, l3], [.int 2, .int i3, .ref k2, .int i1, .ref k0], h) Q := t_go k_259_1156 rfl
theorem k_259_1157 : lk 259 1157 = some (.iadd, 1158, 0, 0, .null) := by decide +kernel
theorem x_259_1157 : Tr sc d 259 (1157, [l0, l1, l2, l3], [.int i4, .int i3, .ref k2, .int i1, .ref k0], h) Q = Tr sc d 259 (1158, [l0, l1, l2, l3], [.int (i3 + i4), .ref k2, .int i1, .ref k0], h) Q := t_go k_259_1157 rfl
theorem k_259_1158 : lk 259 1158 = some (.iaload, 1159, 0, 0, .null) := by decide +kernel
theorem x_259_1158 : Tr sc d 259 (1158, [l0, l1, l2, l3], [.int i3, .ref k2, .int i1, .ref k0], h) Q = (iOk sc h k2 i3 ∧ Tr sc d 259 (1159, [l0, l1, l2, l3], [.int (iRd sc h k2 i3), .int i1, .ref k0], h) Q) := t_iald k_259_1158
theorem k_259_1159 : lk 259 1159 = some (.aload_n 0, 1160, 0, 0, .null) := by decide +kernel
theorem x_259_1159 : Tr sc d 259 (1159, [some (.ref xk), l1, l2, l3], [.int i2, .int i1, .ref k0], h) Q = Tr sc d 259 (1160, [some (.ref xk), l1, l2, l3], [.ref xk, .int i2, .int i1, .ref k0], h) Q := t_aload_n k_259_1159 rfl
theorem k_259_1160 : lk 259 1160 = some (.iload_n 3, 1161, 3, 0, .null) := by decide +kernel
theorem x_259_1160 : Tr sc d 259 (1160, [l0, l1, l2, some (.int x)], [.ref k3, .int i2, .int i1, .ref k0], h) Q = Tr sc d 259 (1161, [l0, l1, l2, some (.int x)], [.int x, .ref k3, .int i2, .int i1, .ref k0], h) Q := t_iload_n k_259_1160 rfl
theorem k_259_1161 : lk 259 1161 = some (.iconst 3, 1162, 0, 0, .int 3) := by decide +kernel
theorem x_259_1161 : Tr sc d 259 (1161, [l0, l1, l2, l3], [.int i4, .ref k3, .int i2, .int i1, .ref k0], h) Q = Tr sc d 259 (1162, [l0, l1, l2, l3], [.int 3, .int i4, .ref k3, .int i2, .int i1, .ref k0], h) Q := t_go k_259_1161 rfl
theorem k_259_1162 : lk 259 1162 = some (.iadd, 1163, 0, 0, .null) := by decide +kernel
theorem x_259_1162 : Tr sc d 259 (1162, [l0, l1, l2, l3], [.int i5, .int i4, .ref k3, .int i2, .int i1, .ref k0], h) Q = Tr sc d 259 (1163, [l0, l1, l2, l3], [.int (i4 + i5), .ref k3, .int i2, .int i1, .ref k0], h) Q := t_go k_259_1162 rfl
theorem k_259_1163 : lk 259 1163 = some (.iaload, 1164, 0, 0, .null) := by decide +kernel
theorem x_259_1163 : Tr sc d 259 (1163, [l0, l1, l2, l3], [.int i4, .ref k3, .int i2, .int i1, .ref k0], h) Q = (iOk sc h k3 i4 ∧ Tr sc d 259 (1164, [l0, l1, l2, l3], [.int (iRd sc h k3 i4), .int i2, .int i1, .ref k0], h) Q) := t_iald k_259_1163
theorem k_259_1164 : lk 259 1164 = some (.invokevirtual 116, 1167, 121, 3, .null) := by decide +kernel
theorem x_259_1164 : Tr sc (d + 1) 259 (1164, [l0, l1, l2, l3], [.int i3, .int i2, .int i1, .ref k0], h) Q = (okp h k0 9 = true ∧ Tr sc d 121 (ent0 121 [.ref k0, .int i1, .int i2, .int i3] h) (fun z => Tr sc (d + 1) 259 (1167, [l0, l1, l2, l3], z.1.toList ++ [], z.2) Q)) := t_cv (as := [.int i1, .int i2, .int i3]) (r := []) k_259_1164 rfl rfl (Nat.le_of_ble_eq_true rfl) (Nat.le_of_ble_eq_true rfl) (Nat.le_of_ble_eq_true rfl)
theorem k_259_1167 : lk 259 1167 = some (.aload_n 2, 1168, 2, 0, .null) := by decide +kernel
theorem x_259_1167 : Tr sc d 259 (1167, [l0, l1, some (.ref xk), l3], [.int i0], h) Q = Tr sc d 259 (1168, [l0, l1, some (.ref xk), l3], [.ref xk, .int i0], h) Q := t_aload_n k_259_1167 rfl
theorem k_259_1168 : lk 259 1168 = some (.aload_n 0, 1169, 0, 0, .null) := by decide +kernel
theorem x_259_1168 : Tr sc d 259 (1168, [some (.ref xk), l1, l2, l3], [.ref k1, .int i0], h) Q = Tr sc d 259 (1169, [some (.ref xk), l1, l2, l3], [.ref xk, .ref k1, .int i0], h) Q := t_aload_n k_259_1168 rfl
theorem k_259_1169 : lk 259 1169 = some (.iload_n 3, 1170, 3, 0, .null) := by decide +kernel
theorem x_259_1169 : Tr sc d 259 (1169, [l0, l1, l2, some (.int x)], [.ref k2, .ref k1, .int i0], h) Q = Tr sc d 259 (1170, [l0, l1, l2, some (.int x)], [.int x, .ref k2, .ref k1, .int i0], h) Q := t_iload_n k_259_1169 rfl
theorem k_259_1170 : lk 259 1170 = some (.iconst 1, 1171, 0, 0, .int 1) := by decide +kernel
theorem x_259_1170 : Tr sc d 259 (1170, [l0, l1, l2, l3], [.int i3, .ref k2, .ref k1, .int i0], h) Q = Tr sc d 259 (1171, [l0, l1, l2, l3], [.int 1, .int i3, .ref k2, .ref k1, .int i0], h) Q := t_go k_259_1170 rfl
theorem k_259_1171 : lk 259 1171 = some (.iadd, 1172, 0, 0, .null) := by decide +kernel
theorem x_259_1171 : Tr sc d 259 (1171, [l0, l1, l2, l3], [.int i4, .int i3, .ref k2, .ref k1, .int i0], h) Q = Tr sc d 259 (1172, [l0, l1, l2, l3], [.int (i3 + i4), .ref k2, .ref k1, .int i0], h) Q := t_go k_259_1171 rfl
theorem k_259_1172 : lk 259 1172 = some (.iaload, 1173, 0, 0, .null) := by decide +kernel
theorem x_259_1172 : Tr sc d 259 (1172, [l0, l1, l2, l3], [.int i3, .ref k2, .ref k1, .int i0], h) Q = (iOk sc h k2 i3 ∧ Tr sc d 259 (1173, [l0, l1, l2, l3], [.int (iRd sc h k2 i3), .ref k1, .int i0], h) Q) := t_iald k_259_1172
theorem k_259_1173 : lk 259 1173 = some (.aload_n 0, 1174, 0, 0, .null) := by decide +kernel
theorem x_259_1173 : Tr sc d 259 (1173, [some (.ref xk), l1, l2, l3], [.int i2, .ref k1, .int i0], h) Q = Tr sc d 259 (1174, [some (.ref xk), l1, l2, l3], [.ref xk, .int i2, .ref k1, .int i0], h) Q := t_aload_n k_259_1173 rfl
theorem k_259_1174 : lk 259 1174 = some (.iload_n 3, 1175, 3, 0, .null) := by decide +kernel
theorem x_259_1174 : Tr sc d 259 (1174, [l0, l1, l2, some (.int x)], [.ref k3, .int i2, .ref k1, .int i0], h) Q = Tr sc d 259 (1175, [l0, l1, l2, some (.int x)], [.int x, .ref k3, .int i2, .ref k1, .int i0], h) Q := t_iload_n k_259_1174 rfl
theorem k_259_1175 : lk 259 1175 = some (.iconst 2, 1176, 0, 0, .int 2) := by decide +kernel
theorem x_259_1175 : Tr sc d 259 (1175, [l0, l1, l2, l3], [.int i4, .ref k3, .int i2, .ref k1, .int i0], h) Q = Tr sc d 259 (1176, [l0, l1, l2, l3], [.int 2, .int i4, .ref k3, .int i2, .ref k1, .int i0], h) Q := t_go k_259_1175 rfl
theorem k_259_1176 : lk 259 1176 = some (.iadd, 1177, 0, 0, .null) := by decide +kernel
theorem x_259_1176 : Tr sc d 259 (1176, [l0, l1, l2, l3], [.int i5, .int i4, .ref k3, .int i2, .ref k1, .int i0], h) Q = Tr sc d 259 (1177, [l0, l1, l2, l3], [.int (i4 + i5), .ref k3, .int i2, .ref k1, .int i0], h) Q := t_go k_259_1176 rfl
theorem k_259_1177 : lk 259 1177 = some (.iaload, 1178, 0, 0, .null) := by decide +kernel
theorem x_259_1177 : Tr sc d 259 (1177, [l0, l1, l2, l3], [.int i4, .ref k3, .int i2, .ref k1, .int i0], h) Q = (iOk sc h k3 i4 ∧ Tr sc d 259 (1178, [l0, l1, l2, l3], [.int (iRd sc h k3 i4), .int i2, .ref k1, .int i0], h) Q) := t_iald k_259_1177
theorem k_259_1178 : lk 259 1178 = some (.aload_n 0, 1179, 0, 0, .null) := by decide +kernel
theorem x_259_1178 : Tr sc d 259 (1178, [some (.ref xk), l1, l2, l3], [.int i3, .int i2, .ref k1, .int i0], h) Q = Tr sc d 259 (1179, [some (.ref xk), l1, l2, l3], [.ref xk, .int i3, .int i2, .ref k1, .int i0], h) Q := t_aload_n k_259_1178 rfl
theorem k_259_1179 : lk 259 1179 = some (.iload_n 3, 1180, 3, 0, .null) := by decide +kernel
theorem x_259_1179 : Tr sc d 259 (1179, [l0, l1, l2, some (.int x)], [.ref k4, .int i3, .int i2, .ref k1, .int i0], h) Q = Tr sc d 259 (1180, [l0, l1, l2, some (.int x)], [.int x, .ref k4, .int i3, .int i2, .ref k1, .int i0], h) Q := t_iload_n k_259_1179 rfl
theorem k_259_1180 : lk 259 1180 = some (.iconst 3, 1181, 0, 0, .int 3) := by decide +kernel
theorem x_259_1180 : Tr sc d 259 (1180, [l0, l1, l2, l3], [.int i5, .ref k4, .int i3, .int i2, .ref k1, .int i0], h) Q = Tr sc d 259 (1181, [l0, l1, l2, l3], [.int 3, .int i5, .ref k4, .int i3, .int i2, .ref k1, .int i0], h) Q := t_go k_259_1180 rfl
theorem k_259_1181 : lk 259 1181 = some (.iadd, 1182, 0, 0, .null) := by decide +kernel
theorem x_259_1181 : Tr sc d 259 (1181, [l0, l1, l2, l3], [.int i6, .int i5, .ref k4, .int i3, .int i2, .ref k1, .int i0], h) Q = Tr sc d 259 (1182, [l0, l1, l2, l3], [.int (i5 + i6), .ref k4, .int i3, .int i2, .ref k1, .int i0], h) Q := t_go k_259_1181 rfl
theorem k_259_1182 : lk 259 1182 = some (.iaload, 1183, 0, 0, .null) := by decide +kernel
theorem x_259_1182 : Tr sc d 259 (1182, [l0, l1, l2, l3], [.int i5, .ref k4, .int i3, .int i2, .ref k1, .int i0], h) Q = (iOk sc h k4 i5 ∧ Tr sc d 259 (1183, [l0, l1, l2, l3], [.int (iRd sc h k4 i5), .int i3, .int i2, .ref k1, .int i0], h) Q) := t_iald k_259_1182
theorem k_259_1183 : lk 259 1183 = some (.invokevirtual 119, 1186, 220, 3, .null) := by decide +kernel
theorem x_259_1183 : Tr sc (d + 1) 259 (1183, [l0, l1, l2, l3], [.int i4, .int i3, .int i2, .ref k1, .int i0], h) Q = (okp h k1 10 = true ∧ Tr sc d 220 (ent0 220 [.ref k1, .int i2, .int i3, .int i4] h) (fun z => Tr sc (d + 1) 259 (1186, [l0, l1, l2, l3], z.1.toList ++ [.int i0], z.2) Q)) := t_cv (as := [.int i2, .int i3, .int i4]) (r := [.int i0]) k_259_1183 rfl rfl (Nat.le_of_ble_eq_true rfl) (Nat.le_of_ble_eq_true rfl) (Nat.le_of_ble_eq_true rfl)
theorem k_259_1186 : lk 259 1186 = some (.if_icmp .eq 562, 1189, 1748, 0, .null) := by decide +kernel
theorem x_259_1186 : Tr sc d 259 (1186, [l0, l1, l2, l3], [.int i1, .int i0], h) Q = if i0 = i1 then Tr sc d 259 (1748, [l0, l1, l2, l3], [], h) Q else Tr sc d 259 (1189, [l0, l1, l2, l3], [], h) Q := t_if k_259_1186 rfl
theorem k_259_1189 : lk 259 1189 = some (.iconst 0, 1190, 0, 0, .int 0) := by decide +kernel
theorem x_259_1189 : Tr sc d 259 (1189, [l0, l1, l2, l3], [], h) Q = Tr sc d 259 (1190, [l0, l1, l2, l3], [.int 0], h) Q := t_go k_259_1189 rfl
theorem k_259_1190 : lk 259 1190 = some (.ireturn, 1191, 0, 0, .null) := by decide +kernel
theorem x_259_1190 : Tr sc d 259 (1190, [l0, l1, l2, l3], [.int i0], h) Q = (vp_nar .boolean i0 = i0 ∧ Q (some (.int i0), h)) := t_zret k_259_1190 r_259
theorem k_259_1191 : lk 259 1191 = some (.aload_n 1, 1192, 1, 0, .null) := by decide +kernel
theorem x_259_1191 : Tr sc d 259 (1191, [l0, some (.ref xk), l2, l3], [], h) Q = Tr sc d 259 (1192, [l0, some (.ref xk), l2, l3], [.ref xk], h) Q := t_aload_n k_259_1191 rfl
theorem k_259_1192 : lk 259 1192 = some (.aload_n 0, 1193, 0, 0, .null) := by decide +kernel
theorem x_259_1192 : Tr sc d 259 (1192, [some (.ref xk), l1, l2, l3], [.ref k0], h) Q = Tr sc d 259 (1193, [some (.ref xk), l1, l2, l3], [.ref xk, .ref k0], h) Q := t_aload_n k_259_1192 rfl
theorem k_259_1193 : lk 259 1193 = some (.iload_n 3, 1194, 3, 0, .null) := by decide +kernel
theorem x_259_1193 : Tr sc d 259 (1193, [l0, l1, l2, some (.int x)], [.ref k1, .ref k0], h) Q = Tr sc d 259 (1194, [l0, l1, l2, some (.int x)], [.int x, .ref k1, .ref k0], h) Q := t_iload_n k_259_1193 rfl
theorem k_259_1194 : lk 259 1194 = some (.iconst 1, 1195, 0, 0, .int 1) := by decide +kernel
theorem x_259_1194 : Tr sc d 259 (1194, [l0, l1, l2, l3], [.int i2, .ref k1, .ref k0], h) Q = Tr sc d 259 (1195, [l0, l1, l2, l3], [.int 1, .int i2, .ref k1, .ref k0], h) Q := t_go k_259_1194 rfl
theorem k_259_1195 : lk 259 1195 = some (.iadd, 1196, 0, 0, .null) := by decide +kernel
theorem x_259_1195 : Tr sc d 259 (1195, [l0, l1, l2, l3], [.int i3, .int i2, .ref k1, .ref k0], h) Q = Tr sc d 259 (1196, [l0, l1, l2, l3], [.int (i2 + i3), .ref k1, .ref k0], h) Q := t_go k_259_1195 rfl
theorem k_259_1196 : lk 259 1196 = some (.iaload, 1197, 0, 0, .null) := by decide +kernel
theorem x_259_1196 : Tr sc d 259 (1196, [l0, l1, l2, l3], [.int i2, .ref k1, .ref k0], h) Q = (iOk sc h k1 i2 ∧ Tr sc d 259 (1197, [l0, l1, l2, l3], [.int (iRd sc h k1 i2), .ref k0], h) Q) := t_iald k_259_1196
theorem k_259_1197 : lk 259 1197 = some (.aload_n 0, 1198, 0, 0, .null) := by decide +kernel
theorem x_259_1197 : Tr sc d 259 (1197, [some (.ref xk), l1, l2, l3], [.int i1, .ref k0], h) Q = Tr sc d 259 (1198, [some (.ref xk), l1, l2, l3], [.ref xk, .int i1, .ref k0], h) Q := t_aload_n k_259_1197 rfl
theorem k_259_1198 : lk 259 1198 = some (.iload_n 3, 1199, 3, 0, .null) := by decide +kernel
theorem x_259_1198 : Tr sc d 259 (1198, [l0, l1, l2, some (.int x)], [.ref k2, .int i1, .ref k0], h) Q = Tr sc d 259 (1199, [l0, l1, l2, some (.int x)], [.int x, .ref k2, .int i1, .ref k0], h) Q := t_iload_n k_259_1198 rfl
theorem k_259_1199 : lk 259 1199 = some (.iconst 2, 1200, 0, 0, .int 2) := by decide +kernel
theorem x_259_1199 : Tr sc d 259 (1199, [l0, l1, l2, l3], [.int i3, .ref k2, .int i1, .ref k0], h) Q = Tr sc d 259 (1200, [l0, l1, l2, l3], [.int 2, .int i3, .ref k2, .int i1, .ref k0], h) Q := t_go k_259_1199 rfl
theorem k_259_1200 : lk 259 1200 = some (.iadd, 1201, 0, 0, .null) := by decide +kernel
theorem x_259_1200 : Tr sc d 259 (1200, [l0, l1, l2, l3], [.int i4, .int i3, .ref k2, .int i1, .ref k0], h) Q = Tr sc d 259 (1201, [l0, l1, l2, l3], [.int (i3 + i4), .ref k2, .int i1, .ref k0], h) Q := t_go k_259_1200 rfl
theorem k_259_1201 : lk 259 1201 = some (.iaload, 1202, 0, 0, .null) := by decide +kernel
theorem x_259_1201 : Tr sc d 259 (1201, [l0, l1, l2, l3], [.int i3, .ref k2, .int i1, .ref k0], h) Q = (iOk sc h k2 i3 ∧ Tr sc d 259 (1202, [l0, l1, l2, l3], [.int (iRd sc h k2 i3), .int i1, .ref k0], h) Q) := t_iald k_259_1201
theorem k_259_1202 : lk 259 1202 = some (.invokevirtual 120, 1205, 122, 2, .null) := by decide +kernel
theorem x_259_1202 : Tr sc (d + 1) 259 (1202, [l0, l1, l2, l3], [.int i2, .int i1, .ref k0], h) Q = (okp h k0 9 = true ∧ Tr sc d 122 (ent0 122 [.ref k0, .int i1, .int i2] h) (fun z => Tr sc (d + 1) 259 (1205, [l0, l1, l2, l3], z.1.toList ++ [], z.2) Q)) := t_cv (as := [.int i1, .int i2]) (r := []) k_259_1202 rfl rfl (Nat.le_of_ble_eq_true rfl) (Nat.le_of_ble_eq_true rfl) (Nat.le_of_ble_eq_true rfl)
theorem k_259_1205 : lk 259 1205 = some (.aload_n 2, 1206, 2, 0, .null) := by decide +kernel
theorem x_259_1205 : Tr sc d 259 (1205, [l0, l1, some (.ref xk), l3], [.int i0], h) Q = Tr sc d 259 (1206, [l0, l1, some (.ref xk), l3], [.ref xk, .int i0], h) Q := t_aload_n k_259_1205 rfl
theorem k_259_1206 : lk 259 1206 = some (.aload_n 0, 1207, 0, 0, .null) := by decide +kernel
theorem x_259_1206 : Tr sc d 259 (1206, [some (.ref xk), l1, l2, l3], [.ref k1, .int i0], h) Q = Tr sc d 259 (1207, [some (.ref xk), l1, l2, l3], [.ref xk, .ref k1, .int i0], h) Q := t_aload_n k_259_1206 rfl
theorem k_259_1207 : lk 259 1207 = some (.iload_n 3, 1208, 3, 0, .null) := by decide +kernel
theorem x_259_1207 : Tr sc d 259 (1207, [l0, l1, l2, some (.int x)], [.ref k2, .ref k1, .int i0], h) Q = Tr sc d 259 (1208, [l0, l1, l2, some (.int x)], [.int x, .ref k2, .ref k1, .int i0], h) Q := t_iload_n k_259_1207 rfl
theorem k_259_1208 : lk 259 1208 = some (.iconst 1, 1209, 0, 0, .int 1) := by decide +kernel
theorem x_259_1208 : Tr sc d 259 (1208, [l0, l1, l2, l3], [.int i3, .ref k2, .ref k1, .int i0], h) Q = Tr sc d 259 (1209, [l0, l1, l2, l3], [.int 1, .int i3, .ref k2, .ref k1, .int i0], h) Q := t_go k_259_1208 rfl
theorem k_259_1209 : lk 259 1209 = some (.iadd, 1210, 0, 0, .null) := by decide +kernel
theorem x_259_1209 : Tr sc d 259 (1209, [l0, l1, l2, l3], [.int i4, .int i3, .ref k2, .ref k1, .int i0], h) Q = Tr sc d 259 (1210, [l0, l1, l2, l3], [.int (i3 + i4), .ref k2, .ref k1, .int i0], h) Q := t_go k_259_1209 rfl
theorem k_259_1210 : lk 259 1210 = some (.iaload, 1211, 0, 0, .null) := by decide +kernel
theorem x_259_1210 : Tr sc d 259 (1210, [l0, l1, l2, l3], [.int i3, .ref k2, .ref k1, .int i0], h) Q = (iOk sc h k2 i3 ∧ Tr sc d 259 (1211, [l0, l1, l2, l3], [.int (iRd sc h k2 i3), .ref k1, .int i0], h) Q) := t_iald k_259_1210
theorem k_259_1211 : lk 259 1211 = some (.aload_n 0, 1212, 0, 0, .null) := by decide +kernel
theorem x_259_1211 : Tr sc d 259 (1211, [some (.ref xk), l1, l2, l3], [.int i2, .ref k1, .int i0], h) Q = Tr sc d 259 (1212, [some (.ref xk), l1, l2, l3], [.ref xk, .int i2, .ref k1, .int i0], h) Q := t_aload_n k_259_1211 rfl
theorem k_259_1212 : lk 259 1212 = some (.iload_n 3, 1213, 3, 0, .null) := by decide +kernel
theorem x_259_1212 : Tr sc d 259 (1212, [l0, l1, l2, some (.int x)], [.ref k3, .int i2, .ref k1, .int i0], h) Q = Tr sc d 259 (1213, [l0, l1, l2, some (.int x)], [.int x, .ref k3, .int i2, .ref k1, .int i0], h) Q := t_iload_n k_259_1212 rfl
theorem k_259_1213 : lk 259 1213 = some (.iconst 2, 1214, 0, 0, .int 2) := by decide +kernel
theorem x_259_1213 : Tr sc d 259 (1213, [l0, l1, l2, l3], [.int i4, .ref k3, .int i2, .ref k1, .int i0], h) Q = Tr sc d 259 (1214, [l0, l1, l2, l3], [.int 2, .int i4, .ref k3, .int i2, .ref k1, .int i0], h) Q := t_go k_259_1213 rfl
theorem k_259_1214 : lk 259 1214 = some (.iadd, 1215, 0, 0, .null) := by decide +kernel
theorem x_259_1214 : Tr sc d 259 (1214, [l0, l1, l2, l3], [.int i5, .int i4, .ref k3, .int i2, .ref k1, .int i0], h) Q = Tr sc d 259 (1215, [l0, l1, l2, l3], [.int (i4 + i5), .ref k3, .int i2, .ref k1, .int i0], h) Q := t_go k_259_1214 rfl
theorem k_259_1215 : lk 259 1215 = some (.iaload, 1216, 0, 0, .null) := by decide +kernel
theorem x_259_1215 : Tr sc d 259 (1215, [l0, l1, l2, l3], [.int i4, .ref k3, .int i2, .ref k1, .int i0], h) Q = (iOk sc h k3 i4 ∧ Tr sc d 259 (1216, [l0, l1, l2, l3], [.int (iRd sc h k3 i4), .int i2, .ref k1, .int i0], h) Q) := t_iald k_259_1215
theorem k_259_1216 : lk 259 1216 = some (.invokevirtual 123, 1219, 222, 2, .null) := by decide +kernel
theorem x_259_1216 : Tr sc (d + 1) 259 (1216, [l0, l1, l2, l3], [.int i3, .int i2, .ref k1, .int i0], h) Q = (okp h k1 10 = true ∧ Tr sc d 222 (ent0 222 [.ref k1, .int i2, .int i3] h) (fun z => Tr sc (d + 1) 259 (1219, [l0, l1, l2, l3], z.1.toList ++ [.int i0], z.2) Q)) := t_cv (as := [.int i2, .int i3]) (r := [.int i0]) k_259_1216 rfl rfl (Nat.le_of_ble_eq_true rfl) (Nat.le_of_ble_eq_true rfl) (Nat.le_of_ble_eq_true rfl)
theorem k_259_1219 : lk 259 1219 = some (.if_icmp .eq 529, 1222, 1748, 0, .null) := by decide +kernel
theorem x_259_1219 : Tr sc d 259 (1219, [l0, l1, l2, l3], [.int i1, .int i0], h) Q = if i0 = i1 then Tr sc d 259 (1748, [l0, l1, l2, l3], [], h) Q else Tr sc d 259 (1222, [l0, l1, l2, l3], [], h) Q := t_if k_259_1219 rfl
theorem k_259_1222 : lk 259 1222 = some (.iconst 0, 1223, 0, 0, .int 0) := by decide +kernel
theorem x_259_1222 : Tr sc d 259 (1222, [l0, l1, l2, l3], [], h) Q = Tr sc d 259 (1223, [l0, l1, l2, l3], [.int 0], h) Q := t_go k_259_1222 rfl
theorem k_259_1223 : lk 259 1223 = some (.ireturn, 1224, 0, 0, .null) := by decide +kernel
theorem x_259_1223 : Tr sc d 259 (1223, [l0, l1, l2, l3], [.int i0], h) Q = (vp_nar .boolean i0 = i0 ∧ Q (some (.int i0), h)) := t_zret k_259_1223 r_259
theorem k_259_1224 : lk 259 1224 = some (.aload_n 1, 1225, 1, 0, .null) := by decide +kernel
theorem x_259_1224 : Tr sc d 259 (1224, [l0, some (.ref xk), l2, l3], [], h) Q = Tr sc d 259 (1225, [l0, some (.ref xk), l2, l3], [.ref xk], h) Q := t_aload_n k_259_1224 rfl
theorem k_259_1225 : lk 259 1225 = some (.aload_n 0, 1226, 0, 0, .null) := by decide +kernel
theorem x_259_1225 : Tr sc d 259 (1225, [some (.ref xk), l1, l2, l3], [.ref k0], h) Q = Tr sc d 259 (1226, [some (.ref xk), l1, l2, l3], [.ref xk, .ref k0], h) Q := t_aload_n k_259_1225 rfl
theorem k_259_1226 : lk 259 1226 = some (.iload_n 3, 1227, 3, 0, .null) := by decide +kernel
theorem x_259_1226 : Tr sc d 259 (1226, [l0, l1, l2, some (.int x)], [.ref k1, .ref k0], h) Q = Tr sc d 259 (1227, [l0, l1, l2, some (.int x)], [.int x, .ref k1, .ref k0], h) Q := t_iload_n k_259_1226 rfl
theorem k_259_1227 : lk 259 1227 = some (.iconst 1, 1228, 0, 0, .int 1) := by decide +kernel
theorem x_259_1227 : Tr sc d 259 (1227, [l0, l1, l2, l3], [.int i2, .ref k1, .ref k0], h) Q = Tr sc d 259 (1228, [l0, l1, l2, l3], [.int 1, .int i2, .ref k1, .ref k0], h) Q := t_go k_259_1227 rfl
theorem k_259_1228 : lk 259 1228 = some (.iadd, 1229, 0, 0, .null) := by decide +kernel
theorem x_259_1228 : Tr sc d 259 (1228, [l0, l1, l2, l3], [.int i3, .int i2, .ref k1, .ref k0], h) Q = Tr sc d 259 (1229, [l0, l1, l2, l3], [.int (i2 + i3), .ref k1, .ref k0], h) Q := t_go k_259_1228 rfl
theorem k_259_1229 : lk 259 1229 = some (.iaload, 1230, 0, 0, .null) := by decide +kernel
theorem x_259_1229 : Tr sc d 259 (1229, [l0, l1, l2, l3], [.int i2, .ref k1, .ref k0], h) Q = (iOk sc h k1 i2 ∧ Tr sc d 259 (1230, [l0, l1, l2, l3], [.int (iRd sc h k1 i2), .ref k0], h) Q) := t_iald k_259_1229
theorem k_259_1230 : lk 259 1230 = some (.invokevirtual 124, 1233, 123, 1, .null) := by decide +kernel
theorem x_259_1230 : Tr sc (d + 1) 259 (1230, [l0, l1, l2, l3], [.int i1, .ref k0], h) Q = (okp h k0 9 = true ∧ Tr sc d 123 (ent0 123 [.ref k0, .int i1] h) (fun z => Tr sc (d + 1) 259 (1233, [l0, l1, l2, l3], z.1.toList ++ [], z.2) Q)) := t_cv (as := [.int i1]) (r := []) k_259_1230 rfl rfl (Nat.le_of_ble_eq_true rfl) (Nat.le_of_ble_eq_true rfl) (Nat.le_of_ble_eq_true rfl)
theorem k_259_1233 : lk 259 1233 = some (.aload_n 2, 1234, 2, 0, .null) := by decide +kernel
theorem x_259_1233 : Tr sc d 259 (1233, [l0, l1, some (.ref xk), l3], [.int i0], h) Q = Tr sc d 259 (1234, [l0, l1, some (.ref xk), l3], [.ref xk, .int i0], h) Q := t_aload_n k_259_1233 rfl
theorem k_259_1234 : lk 259 1234 = some (.aload_n 0, 1235, 0, 0, .null) := by decide +kernel
theorem x_259_1234 : Tr sc d 259 (1234, [some (.ref xk), l1, l2, l3], [.ref k1, .int i0], h) Q = Tr sc d 259 (1235, [some (.ref xk), l1, l2, l3], [.ref xk, .ref k1, .int i0], h) Q := t_aload_n k_259_1234 rfl
theorem k_259_1235 : lk 259 1235 = some (.iload_n 3, 1236, 3, 0, .null) := by decide +kernel
theorem x_259_1235 : Tr sc d 259 (1235, [l0, l1, l2, some (.int x)], [.ref k2, .ref k1, .int i0], h) Q = Tr sc d 259 (1236, [l0, l1, l2, some (.int x)], [.int x, .ref k2, .ref k1, .int i0], h) Q := t_iload_n k_259_1235 rfl
theorem k_259_1236 : lk 259 1236 = some (.iconst 1, 1237, 0, 0, .int 1) := by decide +kernel
theorem x_259_1236 : Tr sc d 259 (1236, [l0, l1, l2, l3], [.int i3, .ref k2, .ref k1, .int i0], h) Q = Tr sc d 259 (1237, [l0, l1, l2, l3], [.int 1, .int i3, .ref k2, .ref k1, .int i0], h) Q := t_go k_259_1236 rfl
theorem k_259_1237 : lk 259 1237 = some (.iadd, 1238, 0, 0, .null) := by decide +kernel
theorem x_259_1237 : Tr sc d 259 (1237, [l0, l1, l2, l3], [.int i4, .int i3, .ref k2, .ref k1, .int i0], h) Q = Tr sc d 259 (1238, [l0, l1, l2, l3], [.int (i3 + i4), .ref k2, .ref k1, .int i0], h) Q := t_go k_259_1237 rfl
theorem k_259_1238 : lk 259 1238 = some (.iaload, 1239, 0, 0, .null) := by decide +kernel
theorem x_259_1238 : Tr sc d 259 (1238, [l0, l1, l2, l3], [.int i3, .ref k2, .ref k1, .int i0], h) Q = (iOk sc h k2 i3 ∧ Tr sc d 259 (1239, [l0, l1, l2, l3], [.int (iRd sc h k2 i3), .ref k1, .int i0], h) Q) := t_iald k_259_1238
theorem k_259_1239 : lk 259 1239 = some (.invokevirtual 127, 1242, 223, 1, .null) := by decide +kernel
theorem x_259_1239 : Tr sc (d + 1) 259 (1239, [l0, l1, l2, l3], [.int i2, .ref k1, .int i0], h) Q = (okp h k1 10 = true ∧ Tr sc d 223 (ent0 223 [.ref k1, .int i2] h) (fun z => Tr sc (d + 1) 259 (1242, [l0, l1, l2, l3], z.1.toList ++ [.int i0], z.2) Q)) := t_cv (as := [.int i2]) (r := [.int i0]) k_259_1239 rfl rfl (Nat.le_of_ble_eq_true rfl) (Nat.le_of_ble_eq_true rfl) (Nat.le_of_ble_eq_true rfl)
theorem k_259_1242 : lk 259 1242 = some (.if_icmp .eq 506, 1245, 1748, 0, .null) := by decide +kernel
theorem x_259_1242 : Tr sc d 259 (1242, [l0, l1, l2, l3], [.int i1, .int i0], h) Q = if i0 = i1 then Tr sc d 259 (1748, [l0, l1, l2, l3], [], h) Q else Tr sc d 259 (1245, [l0, l1, l2, l3], [], h) Q := t_if k_259_1242 rfl
theorem k_259_1245 : lk 259 1245 = some (.iconst 0, 1246, 0, 0, .int 0) := by decide +kernel
theorem x_259_1245 : Tr sc d 259 (1245, [l0, l1, l2, l3], [], h) Q = Tr sc d 259 (1246, [l0, l1, l2, l3], [.int 0], h) Q := t_go k_259_1245 rfl
theorem k_259_1246 : lk 259 1246 = some (.ireturn, 1247, 0, 0, .null) := by decide +kernel
theorem x_259_1246 : Tr sc d 259 (1246, [l0, l1, l2, l3], [.int i0], h) Q = (vp_nar .boolean i0 = i0 ∧ Q (some (.int i0), h)) := t_zret k_259_1246 r_259
theorem k_259_1247 : lk 259 1247 = some (.aload_n 1, 1248, 1, 0, .null) := by decide +kernel
theorem x_259_1247 : Tr sc d 259 (1247, [l0, some (.ref xk), l2, l3], [], h) Q = Tr sc d 259 (1248, [l0, some (.ref xk), l2, l3], [.ref xk], h) Q := t_aload_n k_259_1247 rfl
theorem k_259_1248 : lk 259 1248 = some (.aload_n 0, 1249, 0, 0, .null) := by decide +kernel
theorem x_259_1248 : Tr sc d 259 (1248, [some (.ref xk), l1, l2, l3], [.ref k0], h) Q = Tr sc d 259 (1249, [some (.ref xk), l1, l2, l3], [.ref xk, .ref k0], h) Q := t_aload_n k_259_1248 rfl
theorem k_259_1249 : lk 259 1249 = some (.iload_n 3, 1250, 3, 0, .null) := by decide +kernel
theorem x_259_1249 : Tr sc d 259 (1249, [l0, l1, l2, some (.int x)], [.ref k1, .ref k0], h) Q = Tr sc d 259 (1250, [l0, l1, l2, some (.int x)], [.int x, .ref k1, .ref k0], h) Q := t_iload_n k_259_1249 rfl
theorem k_259_1250 : lk 259 1250 = some (.iconst 1, 1251, 0, 0, .int 1) := by decide +kernel
theorem x_259_1250 : Tr sc d 259 (1250, [l0, l1, l2, l3], [.int i2, .ref k1, .ref k0], h) Q = Tr sc d 259 (1251, [l0, l1, l2, l3], [.int 1, .int i2, .ref k1, .ref k0], h) Q := t_go k_259_1250 rfl
theorem k_259_1251 : lk 259 1251 = some (.iadd, 1252, 0, 0, .null) := by decide +kernel
theorem x_259_1251 : Tr sc d 259 (1251, [l0, l1, l2, l3], [.int i3, .int i2, .ref k1, .ref k0], h) Q = Tr sc d 259 (1252, [l0, l1, l2, l3], [.int (i2 + i3), .ref k1, .ref k0], h) Q := t_go k_259_1251 rfl
theorem k_259_1252 : lk 259 1252 = some (.iaload, 1253, 0, 0, .null) := by decide +kernel
theorem x_259_1252 : Tr sc d 259 (1252, [l0, l1, l2, l3], [.int i2, .ref k1, .ref k0], h) Q = (iOk sc h k1 i2 ∧ Tr sc d 259 (1253, [l0, l1, l2, l3], [.int (iRd sc h k1 i2), .ref k0], h) Q) := t_iald k_259_1252
theorem k_259_1253 : lk 259 1253 = some (.aload_n 0, 1254, 0, 0, .null) := by decide +kernel
theorem x_259_1253 : Tr sc d 259 (1253, [some (.ref xk), l1, l2, l3], [.int i1, .ref k0], h) Q = Tr sc d 259 (1254, [some (.ref xk), l1, l2, l3], [.ref xk, .int i1, .ref k0], h) Q := t_aload_n k_259_1253 rfl
theorem k_259_1254 : lk 259 1254 = some (.iload_n 3, 1255, 3, 0, .null) := by decide +kernel
theorem x_259_1254 : Tr sc d 259 (1254, [l0, l1, l2, some (.int x)], [.ref k2, .int i1, .ref k0], h) Q = Tr sc d 259 (1255, [l0, l1, l2, some (.int x)], [.int x, .ref k2, .int i1, .ref k0], h) Q := t_iload_n k_259_1254 rfl
theorem k_259_1255 : lk 259 1255 = some (.iconst 2, 1256, 0, 0, .int 2) := by decide +kernel
theorem x_259_1255 : Tr sc d 259 (1255, [l0, l1, l2, l3], [.int i3, .ref k2, .int i1, .ref k0], h) Q = Tr sc d 259 (1256, [l0, l1, l2, l3], [.int 2, .int i3, .ref k2, .int i1, .ref k0], h) Q := t_go k_259_1255 rfl
theorem k_259_1256 : lk 259 1256 = some (.iadd, 1257, 0, 0, .null) := by decide +kernel
theorem x_259_1256 : Tr sc d 259 (1256, [l0, l1, l2, l3], [.int i4, .int i3, .ref k2, .int i1, .ref k0], h) Q = Tr sc d 259 (1257, [l0, l1, l2, l3], [.int (i3 + i4), .ref k2, .int i1, .ref k0], h) Q := t_go k_259_1256 rfl
theorem k_259_1257 : lk 259 1257 = some (.iaload, 1258, 0, 0, .null) := by decide +kernel
theorem x_259_1257 : Tr sc d 259 (1257, [l0, l1, l2, l3], [.int i3, .ref k2, .int i1, .ref k0], h) Q = (iOk sc h k2 i3 ∧ Tr sc d 259 (1258, [l0, l1, l2, l3], [.int (iRd sc h k2 i3), .int i1, .ref k0], h) Q) := t_iald k_259_1257
theorem k_259_1258 : lk 259 1258 = some (.invokevirtual 128, 1261, 124, 2, .null) := by decide +kernel
theorem x_259_1258 : Tr sc (d + 1) 259 (1258, [l0, l1, l2, l3], [.int i2, .int i1, .ref k0], h) Q = (okp h k0 9 = true ∧ Tr sc d 124 (ent0 124 [.ref k0, .int i1, .int i2] h) (fun z => Tr sc (d + 1) 259 (1261, [l0, l1, l2, l3], z.1.toList ++ [], z.2) Q)) := t_cv (as := [.int i1, .int i2]) (r := []) k_259_1258 rfl rfl (Nat.le_of_ble_eq_true rfl) (Nat.le_of_ble_eq_true rfl) (Nat.le_of_ble_eq_true rfl)
theorem k_259_1261 : lk 259 1261 = some (.aload_n 2, 1262, 2, 0, .null) := by decide +kernel
theorem x_259_1261 : Tr sc d 259 (1261, [l0, l1, some (.ref xk), l3], [.int i0], h) Q = Tr sc d 259 (1262, [l0, l1, some (.ref xk), l3], [.ref xk, .int i0], h) Q := t_aload_n k_259_1261 rfl
theorem k_259_1262 : lk 259 1262 = some (.aload_n 0, 1263, 0, 0, .null) := by decide +kernel
theorem x_259_1262 : Tr sc d 259 (1262, [some (.ref xk), l1, l2, l3], [.ref k1, .int i0], h) Q = Tr sc d 259 (1263, [some (.ref xk), l1, l2, l3], [.ref xk, .ref k1, .int i0], h) Q := t_aload_n k_259_1262 rfl
theorem k_259_1263 : lk 259 1263 = some (.iload_n 3, 1264, 3, 0, .null) := by decide +kernel
theorem x_259_1263 : Tr sc d 259 (1263, [l0, l1, l2, some (.int x)], [.ref k2, .ref k1, .int i0], h) Q = Tr sc d 259 (1264, [l0, l1, l2, some (.int x)], [.int x, .ref k2, .ref k1, .int i0], h) Q := t_iload_n k_259_1263 rfl
theorem k_259_1264 : lk 259 1264 = some (.iconst 1, 1265, 0, 0, .int 1) := by decide +kernel
theorem x_259_1264 : Tr sc d 259 (1264, [l0, l1, l2, l3], [.int i3, .ref k2, .ref k1, .int i0], h) Q = Tr sc d 259 (1265, [l0, l1, l2, l3], [.int 1, .int i3, .ref k2, .ref k1, .int i0], h) Q := t_go k_259_1264 rfl
theorem k_259_1265 : lk 259 1265 = some (.iadd, 1266, 0, 0, .null) := by decide +kernel
theorem x_259_1265 : Tr sc d 259 (1265, [l0, l1, l2, l3], [.int i4, .int i3, .ref k2, .ref k1, .int i0], h) Q = Tr sc d 259 (1266, [l0, l1, l2, l3], [.int (i3 + i4), .ref k2, .ref k1, .int i0], h) Q := t_go k_259_1265 rfl
theorem k_259_1266 : lk 259 1266 = some (.iaload, 1267, 0, 0, .null) := by decide +kernel
theorem x_259_1266 : Tr sc d 259 (1266, [l0, l1, l2, l3], [.int i3, .ref k2, .ref k1, .int i0], h) Q = (iOk sc h k2 i3 ∧ Tr sc d 259 (1267, [l0, l1, l2, l3], [.int (iRd sc h k2 i3), .ref k1, .int i0], h) Q) := t_iald k_259_1266
theorem k_259_1267 : lk 259 1267 = some (.aload_n 0, 1268, 0, 0, .null) := by decide +kernel
theorem x_259_1267 : Tr sc d 259 (1267, [some (.ref xk), l1, l2, l3], [.int i2, .ref k1, .int i0], h) Q = Tr sc d 259 (1268, [some (.ref xk), l1, l2, l3], [.ref xk, .int i2, .ref k1, .int i0], h) Q := t_aload_n k_259_1267 rfl
theorem k_259_1268 : lk 259 1268 = some (.iload_n 3, 1269, 3, 0, .null) := by decide +kernel
theorem x_259_1268 : Tr sc d 259 (1268, [l0, l1, l2, some (.int x)], [.ref k3, .int i2, .ref k1, .int i0], h) Q = Tr sc d 259 (1269, [l0, l1, l2, some (.int x)], [.int x, .ref k3, .int i2, .ref k1, .int i0], h) Q := t_iload_n k_259_1268 rfl
theorem k_259_1269 : lk 259 1269 = some (.iconst 2, 1270, 0, 0, .int 2) := by decide +kernel
theorem x_259_1269 : Tr sc d 259 (1269, [l0, l1, l2, l3], [.int i4, .ref k3, .int i2, .ref k1, .int i0], h) Q = Tr sc d 259 (1270, [l0, l1, l2, l3], [.int 2, .int i4, .ref k3, .int i2, .ref k1, .int i0], h) Q := t_go k_259_1269 rfl
theorem k_259_1270 : lk 259 1270 = some (.iadd, 1271, 0, 0, .null) := by decide +kernel
theorem x_259_1270 : Tr sc d 259 (1270, [l0, l1, l2, l3], [.int i5, .int i4, .ref k3, .int i2, .ref k1, .int i0], h) Q = Tr sc d 259 (1271, [l0, l1, l2, l3], [.int (i4 + i5), .ref k3, .int i2, .ref k1, .int i0], h) Q := t_go k_259_1270 rfl
theorem k_259_1271 : lk 259 1271 = some (.iaload, 1272, 0, 0, .null) := by decide +kernel
theorem x_259_1271 : Tr sc d 259 (1271, [l0, l1, l2, l3], [.int i4, .ref k3, .int i2, .ref k1, .int i0], h) Q = (iOk sc h k3 i4 ∧ Tr sc d 259 (1272, [l0, l1, l2, l3], [.int (iRd sc h k3 i4), .int i2, .ref k1, .int i0], h) Q) := t_iald k_259_1271
theorem k_259_1272 : lk 259 1272 = some (.invokevirtual 131, 1275, 228, 2, .null) := by decide +kernel
theorem x_259_1272 : Tr sc (d + 1) 259 (1272, [l0, l1, l2, l3], [.int i3, .int i2, .ref k1, .int i0], h) Q = (okp h k1 10 = true ∧ Tr sc d 228 (ent0 228 [.ref k1, .int i2, .int i3] h) (fun z => Tr sc (d + 1) 259 (1275, [l0, l1, l2, l3], z.1.toList ++ [.int i0], z.2) Q)) := t_cv (as := [.int i2, .int i3]) (r := [.int i0]) k_259_1272 rfl rfl (Nat.le_of_ble_eq_true rfl) (Nat.le_of_ble_eq_true rfl) (Nat.le_of_ble_eq_true rfl)
theorem k_259_1275 : lk 259 1275 = some (.if_icmp .eq 473, 1278, 1748, 0, .null) := by decide +kernel
theorem x_259_1275 : Tr sc d 259 (1275, [l0, l1, l2, l3], [.int i1, .int i0], h) Q = if i0 = i1 then Tr sc d 259 (1748, [l0, l1, l2, l3], [], h) Q else Tr sc d 259 (1278, [l0, l1, l2, l3], [], h) Q := t_if k_259_1275 rfl
theorem k_259_1278 : lk 259 1278 = some (.iconst 0, 1279, 0, 0, .int 0) := by decide +kernel
theorem x_259_1278 : Tr sc d 259 (1278, [l0, l1, l2, l3], [], h) Q = Tr sc d 259 (1279, [l0, l1, l2, l3], [.int 0], h) Q := t_go k_259_1278 rfl
theorem k_259_1279 : lk 259 1279 = some (.ireturn, 1280, 0, 0, .null) := by decide +kernel
theorem x_259_1279 : Tr sc d 259 (1279, [l0, l1, l2, l3], [.int i0], h) Q = (vp_nar .boolean i0 = i0 ∧ Q (some (.int i0), h)) := t_zret k_259_1279 r_259
theorem k_259_1280 : lk 259 1280 = some (.aload_n 1, 1281, 1, 0, .null) := by decide +kernel
theorem x_259_1280 : Tr sc d 259 (1280, [l0, some (.ref xk), l2, l3], [], h) Q = Tr sc d 259 (1281, [l0, some (.ref xk), l2, l3], [.ref xk], h) Q := t_aload_n k_259_1280 rfl
theorem k_259_1281 : lk 259 1281 = some (.aload_n 0, 1282, 0, 0, .null) := by decide +kernel
theorem x_259_1281 : Tr sc d 259 (1281, [some (.ref xk), l1, l2, l3], [.ref k0], h) Q = Tr sc d 259 (1282, [some (.ref xk), l1, l2, l3], [.ref xk, .ref k0], h) Q := t_aload_n k_259_1281 rfl
theorem k_259_1282 : lk 259 1282 = some (.iload_n 3, 1283, 3, 0, .null) := by decide +kernel
theorem x_259_1282 : Tr sc d 259 (1282, [l0, l1, l2, some (.int x)], [.ref k1, .ref k0], h) Q = Tr sc d 259 (1283, [l0, l1, l2, some (.int x)], [.int x, .ref k1, .ref k0], h) Q := t_iload_n k_259_1282 rfl
theorem k_259_1283 : lk 259 1283 = some (.iconst 1, 1284, 0, 0, .int 1) := by decide +kernel
theorem x_259_1283 : Tr sc d 259 (1283, [l0, l1, l2, l3], [.int i2, .ref k1, .ref k0], h) Q = Tr sc d 259 (1284, [l0, l1, l2, l3], [.int 1, .int i2, .ref k1, .ref k0], h) Q := t_go k_259_1283 rfl
theorem k_259_1284 : lk 259 1284 = some (.iadd, 1285, 0, 0, .null) := by decide +kernel
theorem x_259_1284 : Tr sc d 259 (1284, [l0, l1, l2, l3], [.int i3, .int i2, .ref k1, .ref k0], h) Q = Tr sc d 259 (1285, [l0, l1, l2, l3], [.int (i2 + i3), .ref k1, .ref k0], h) Q := t_go k_259_1284 rfl
theorem k_259_1285 : lk 259 1285 = some (.iaload, 1286, 0, 0, .null) := by decide +kernel
theorem x_259_1285 : Tr sc d 259 (1285, [l0, l1, l2, l3], [.int i2, .ref k1, .ref k0], h) Q = (iOk sc h k1 i2 ∧ Tr sc d 259 (1286, [l0, l1, l2, l3], [.int (iRd sc h k1 i2), .ref k0], h) Q) := t_iald k_259_1285
theorem k_259_1286 : lk 259 1286 = some (.aload_n 0, 1287, 0, 0, .null) := by decide +kernel
theorem x_259_1286 : Tr sc d 259 (1286, [some (.ref xk), l1, l2, l3], [.int i1, .ref k0], h) Q = Tr sc d 259 (1287, [some (.ref xk), l1, l2, l3], [.ref xk, .int i1, .ref k0], h) Q := t_aload_n k_259_1286 rfl
theorem k_259_1287 : lk 259 1287 = some (.iload_n 3, 1288, 3, 0, .null) := by decide +kernel
theorem x_259_1287 : Tr sc d 259 (1287, [l0, l1, l2, some (.int x)], [.ref k2, .int i1, .ref k0], h) Q = Tr sc d 259 (1288, [l0, l1, l2, some (.int x)], [.int x, .ref k2, .int i1, .ref k0], h) Q := t_iload_n k_259_1287 rfl
theorem k_259_1288 : lk 259 1288 = some (.iconst 2, 1289, 0, 0, .int 2) := by decide +kernel
theorem x_259_1288 : Tr sc d 259 (1288, [l0, l1, l2, l3], [.int i3, .ref k2, .int i1, .ref k0], h) Q = Tr sc d 259 (1289, [l0, l1, l2, l3], [.int 2, .int i3, .ref k2, .int i1, .ref k0], h) Q := t_go k_259_1288 rfl
theorem k_259_1289 : lk 259 1289 = some (.iadd, 1290, 0, 0, .null) := by decide +kernel
theorem x_259_1289 : Tr sc d 259 (1289, [l0, l1, l2, l3], [.int i4, .int i3, .ref k2, .int i1, .ref k0], h) Q = Tr sc d 259 (1290, [l0, l1, l2, l3], [.int (i3 + i4), .ref k2, .int i1, .ref k0], h) Q := t_go k_259_1289 rfl
theorem k_259_1290 : lk 259 1290 = some (.iaload, 1291, 0, 0, .null) := by decide +kernel
theorem x_259_1290 : Tr sc d 259 (1290, [l0, l1, l2, l3], [.int i3, .ref k2, .int i1, .ref k0], h) Q = (iOk sc h k2 i3 ∧ Tr sc d 259 (1291, [l0, l1, l2, l3], [.int (iRd sc h k2 i3), .int i1, .ref k0], h) Q) := t_iald k_259_1290
theorem k_259_1291 : lk 259 1291 = some (.invokevirtual 132, 1294, 125, 2, .null) := by decide +kernel
theorem x_259_1291 : Tr sc (d + 1) 259 (1291, [l0, l1, l2, l3], [.int i2, .int i1, .ref k0], h) Q = (okp h k0 9 = true ∧ Tr sc d 125 (ent0 125 [.ref k0, .int i1, .int i2] h) (fun z => Tr sc (d + 1) 259 (1294, [l0, l1, l2, l3], z.1.toList ++ [], z.2) Q)) := t_cv (as := [.int i1, .int i2]) (r := []) k_259_1291 rfl rfl (Nat.le_of_ble_eq_true rfl) (Nat.le_of_ble_eq_true rfl) (Nat.le_of_ble_eq_true rfl)
theorem k_259_1294 : lk 259 1294 = some (.aload_n 2, 1295, 2, 0, .null) := by decide +kernel
theorem x_259_1294 : Tr sc d 259 (1294, [l0, l1, some (.ref xk), l3], [.int i0], h) Q = Tr sc d 259 (1295, [l0, l1, some (.ref xk), l3], [.ref xk, .int i0], h) Q := t_aload_n k_259_1294 rfl
theorem k_259_1295 : lk 259 1295 = some (.aload_n 0, 1296, 0, 0, .null) := by decide +kernel
theorem x_259_1295 : Tr sc d 259 (1295, [some (.ref xk), l1, l2, l3], [.ref k1, .int i0], h) Q = Tr sc d 259 (1296, [some (.ref xk), l1, l2, l3], [.ref xk, .ref k1, .int i0], h) Q := t_aload_n k_259_1295 rfl
theorem k_259_1296 : lk 259 1296 = some (.iload_n 3, 1297, 3, 0, .null) := by decide +kernel
theorem x_259_1296 : Tr sc d 259 (1296, [l0, l1, l2, some (.int x)], [.ref k2, .ref k1, .int i0], h) Q = Tr sc d 259 (1297, [l0, l1, l2, some (.int x)], [.int x, .ref k2, .ref k1, .int i0], h) Q := t_iload_n k_259_1296 rfl
theorem k_259_1297 : lk 259 1297 = some (.iconst 1, 1298, 0, 0, .int 1) := by decide +kernel
theorem x_259_1297 : Tr sc d 259 (1297, [l0, l1, l2, l3], [.int i3, .ref k2, .ref k1, .int i0], h) Q = Tr sc d 259 (1298, [l0, l1, l2, l3], [.int 1, .int i3, .ref k2, .ref k1, .int i0], h) Q := t_go k_259_1297 rfl
theorem k_259_1298 : lk 259 1298 = some (.iadd, 1299, 0, 0, .null) := by decide +kernel
theorem x_259_1298 : Tr sc d 259 (1298, [l0, l1, l2, l3], [.int i4, .int i3, .ref k2, .ref k1, .int i0], h) Q = Tr sc d 259 (1299, [l0, l1, l2, l3], [.int (i3 + i4), .ref k2, .ref k1, .int i0], h) Q := t_go k_259_1298 rfl
theorem k_259_1299 : lk 259 1299 = some (.iaload, 1300, 0, 0, .null) := by decide +kernel
theorem x_259_1299 : Tr sc d 259 (1299, [l0, l1, l2, l3], [.int i3, .ref k2, .ref k1, .int i0], h) Q = (iOk sc h k2 i3 ∧ Tr sc d 259 (1300, [l0, l1, l2, l3], [.int (iRd sc h k2 i3), .ref k1, .int i0], h) Q) := t_iald k_259_1299
theorem k_259_1300 : lk 259 1300 = some (.aload_n 0, 1301, 0, 0, .null) := by decide +kernel
theorem x_259_1300 : Tr sc d 259 (1300, [some (.ref xk), l1, l2, l3], [.int i2, .ref k1, .int i0], h) Q = Tr sc d 259 (1301, [some (.ref xk), l1, l2, l3], [.ref xk, .int i2, .ref k1, .int i0], h) Q := t_aload_n k_259_1300 rfl
theorem k_259_1301 : lk 259 1301 = some (.iload_n 3, 1302, 3, 0, .null) := by decide +kernel
theorem x_259_1301 : Tr sc d 259 (1301, [l0, l1, l2, some (.int x)], [.ref k3, .int i2, .ref k1, .int i0], h) Q = Tr sc d 259 (1302, [l0, l1, l2, some (.int x)], [.int x, .ref k3, .int i2, .ref k1, .int i0], h) Q := t_iload_n k_259_1301 rfl
theorem k_259_1302 : lk 259 1302 = some (.iconst 2, 1303, 0, 0, .int 2) := by decide +kernel
theorem x_259_1302 : Tr sc d 259 (1302, [l0, l1, l2, l3], [.int i4, .ref k3, .int i2, .ref k1, .int i0], h) Q = Tr sc d 259 (1303, [l0, l1, l2, l3], [.int 2, .int i4, .ref k3, .int i2, .ref k1, .int i0], h) Q := t_go k_259_1302 rfl
theorem k_259_1303 : lk 259 1303 = some (.iadd, 1304, 0, 0, .null) := by decide +kernel
theorem x_259_1303 : Tr sc d 259 (1303, [l0, l1, l2, l3], [.int i5, .int i4, .ref k3, .int i2, .ref k1, .int i0], h) Q = Tr sc d 259 (1304, [l0, l1, l2, l3], [.int (i4 + i5), .ref k3, .int i2, .ref k1, .int i0], h) Q := t_go k_259_1303 rfl
theorem k_259_1304 : lk 259 1304 = some (.iaload, 1305, 0, 0, .null) := by decide +kernel
theorem x_259_1304 : Tr sc d 259 (1304, [l0, l1, l2, l3], [.int i4, .ref k3, .int i2, .ref k1, .int i0], h) Q = (iOk sc h k3 i4 ∧ Tr sc d 259 (1305, [l0, l1, l2, l3], [.int (iRd sc h k3 i4), .int i2, .ref k1, .int i0], h) Q) := t_iald k_259_1304
theorem k_259_1305 : lk 259 1305 = some (.invokevirtual 135, 1308, 229, 2, .null) := by decide +kernel
theorem x_259_1305 : Tr sc (d + 1) 259 (1305, [l0, l1, l2, l3], [.int i3, .int i2, .ref k1, .int i0], h) Q = (okp h k1 10 = true ∧ Tr sc d 229 (ent0 229 [.ref k1, .int i2, .int i3] h) (fun z => Tr sc (d + 1) 259 (1308, [l0, l1, l2, l3], z.1.toList ++ [.int i0], z.2) Q)) := t_cv (as := [.int i2, .int i3]) (r := [.int i0]) k_259_1305 rfl rfl (Nat.le_of_ble_eq_true rfl) (Nat.le_of_ble_eq_true rfl) (Nat.le_of_ble_eq_true rfl)
theorem k_259_1308 : lk 259 1308 = some (.if_icmp .eq 440, 1311, 1748, 0, .null) := by decide +kernel
theorem x_259_1308 : Tr sc d 259 (1308, [l0, l1, l2, l3], [.int i1, .int i0], h) Q = if i0 = i1 then Tr sc d 259 (1748, [l0, l1, l2, l3], [], h) Q else Tr sc d 259 (1311, [l0, l1, l2, l3], [], h) Q := t_if k_259_1308 rfl
theorem k_259_1311 : lk 259 1311 = some (.iconst 0, 1312, 0, 0, .int 0) := by decide +kernel
theorem x_259_1311 : Tr sc d 259 (1311, [l0, l1, l2, l3], [], h) Q = Tr sc d 259 (1312, [l0, l1, l2, l3], [.int 0], h) Q := t_go k_259_1311 rfl
theorem k_259_1312 : lk 259 1312 = some (.ireturn, 1313, 0, 0, .null) := by decide +kernel
theorem x_259_1312 : Tr sc d 259 (1312, [l0, l1, l2, l3], [.int i0], h) Q = (vp_nar .boolean i0 = i0 ∧ Q (some (.int i0), h)) := t_zret k_259_1312 r_259
theorem k_259_1313 : lk 259 1313 = some (.aload_n 1, 1314, 1, 0, .null) := by decide +kernel
theorem x_259_1313 : Tr sc d 259 (1313, [l0, some (.ref xk), l2, l3], [], h) Q = Tr sc d 259 (1314, [l0, some (.ref xk), l2, l3], [.ref xk], h) Q := t_aload_n k_259_1313 rfl
theorem k_259_1314 : lk 259 1314 = some (.aload_n 0, 1315, 0, 0, .null) := by decide +kernel
theorem x_259_1314 : Tr sc d 259 (1314, [some (.ref xk), l1, l2, l3], [.ref k0], h) Q = Tr sc d 259 (1315, [some (.ref xk), l1, l2, l3], [.ref xk, .ref k0], h) Q := t_aload_n k_259_1314 rfl
theorem k_259_1315 : lk 259 1315 = some (.iload_n 3, 1316, 3, 0, .null) := by decide +kernel
theorem x_259_1315 : Tr sc d 259 (1315, [l0, l1, l2, some (.int x)], [.ref k1, .ref k0], h) Q = Tr sc d 259 (1316, [l0, l1, l2, some (.int x)], [.int x, .ref k1, .ref k0], h) Q := t_iload_n k_259_1315 rfl
theorem k_259_1316 : lk 259 1316 = some (.iconst 1, 1317, 0, 0, .int 1) := by decide +kernel
theorem x_259_1316 : Tr sc d 259 (1316, [l0, l1, l2, l3], [.int i2, .ref k1, .ref k0], h) Q = Tr sc d 259 (1317, [l0, l1, l2, l3], [.int 1, .int i2, .ref k1, .ref k0], h) Q := t_go k_259_1316 rfl
theorem k_259_1317 : lk 259 1317 = some (.iadd, 1318, 0, 0, .null) := by decide +kernel
theorem x_259_1317 : Tr sc d 259 (1317, [l0, l1, l2, l3], [.int i3, .int i2, .ref k1, .ref k0], h) Q = Tr sc d 259 (1318, [l0, l1, l2, l3], [.int (i2 + i3), .ref k1, .ref k0], h) Q := t_go k_259_1317 rfl
theorem k_259_1318 : lk 259 1318 = some (.iaload, 1319, 0, 0, .null) := by decide +kernel
theorem x_259_1318 : Tr sc d 259 (1318, [l0, l1, l2, l3], [.int i2, .ref k1, .ref k0], h) Q = (iOk sc h k1 i2 ∧ Tr sc d 259 (1319, [l0, l1, l2, l3], [.int (iRd sc h k1 i2), .ref k0], h) Q) := t_iald k_259_1318
theorem k_259_1319 : lk 259 1319 = some (.aload_n 0, 1320, 0, 0, .null) := by decide +kernel
theorem x_259_1319 : Tr sc d 259 (1319, [some (.ref xk), l1, l2, l3], [.int i1, .ref k0], h) Q = Tr sc d 259 (1320, [some (.ref xk), l1, l2, l3], [.ref xk, .int i1, .ref k0], h) Q := t_aload_n k_259_1319 rfl
theorem k_259_1320 : lk 259 1320 = some (.iload_n 3, 1321, 3, 0, .null) := by decide +kernel
theorem x_259_1320 : Tr sc d 259 (1320, [l0, l1, l2, some (.int x)], [.ref k2, .int i1, .ref k0], h) Q = Tr sc d 259 (1321, [l0, l1, l2, some (.int x)], [.int x, .ref k2, .int i1, .ref k0], h) Q := t_iload_n k_259_1320 rfl
theorem k_259_1321 : lk 259 1321 = some (.iconst 2, 1322, 0, 0, .int 2) := by decide +kernel
theorem x_259_1321 : Tr sc d 259 (1321, [l0, l1, l2, l3], [.int i3, .ref k2, .int i1, .ref k0], h) Q = Tr sc d 259 (1322, [l0, l1, l2, l3], [.int 2, .int i3, .ref k2, .int i1, .ref k0], h) Q := t_go k_259_1321 rfl
theorem k_259_1322 : lk 259 1322 = some (.iadd, 1323, 0, 0, .null) := by decide +kernel
theorem x_259_1322 : Tr sc d 259 (1322, [l0, l1, l2, l3], [.int i4, .int i3, .ref k2, .int i1, .ref k0], h) Q = Tr sc d 259 (1323, [l0, l1, l2, l3], [.int (i3 + i4), .ref k2, .int i1, .ref k0], h) Q := t_go k_259_1322 rfl
theorem k_259_1323 : lk 259 1323 = some (.iaload, 1324, 0, 0, .null) := by decide +kernel
theorem x_259_1323 : Tr sc d 259 (1323, [l0, l1, l2, l3], [.int i3, .ref k2, .int i1, .ref k0], h) Q = (iOk sc h k2 i3 ∧ Tr sc d 259 (1324, [l0, l1, l2, l3], [.int (iRd sc h k2 i3), .int i1, .ref k0], h) Q) := t_iald k_259_1323
theorem k_259_1324 : lk 259 1324 = some (.aload_n 0, 1325, 0, 0, .null) := by decide +kernel
theorem x_259_1324 : Tr sc d 259 (1324, [some (.ref xk), l1, l2, l3], [.int i2, .int i1, .ref k0], h) Q = Tr sc d 259 (1325, [some (.ref xk), l1, l2, l3], [.ref xk, .int i2, .int i1, .ref k0], h) Q := t_aload_n k_259_1324 rfl
theorem k_259_1325 : lk 259 1325 = some (.iload_n 3, 1326, 3, 0, .null) := by decide +kernel
theorem x_259_1325 : Tr sc d 259 (1325, [l0, l1, l2, some (.int x)], [.ref k3, .int i2, .int i1, .ref k0], h) Q = Tr sc d 259 (1326, [l0, l1, l2, some (.int x)], [.int x, .ref k3, .int i2, .int i1, .ref k0], h) Q := t_iload_n k_259_1325 rfl
theorem k_259_1326 : lk 259 1326 = some (.iconst 3, 1327, 0, 0, .int 3) := by decide +kernel
theorem x_259_1326 : Tr sc d 259 (1326, [l0, l1, l2, l3], [.int i4, .ref k3, .int i2, .int i1, .ref k0], h) Q = Tr sc d 259 (1327, [l0, l1, l2, l3], [.int 3, .int i4, .ref k3, .int i2, .int i1, .ref k0], h) Q := t_go k_259_1326 rfl
theorem k_259_1327 : lk 259 1327 = some (.iadd, 1328, 0, 0, .null) := by decide +kernel
theorem x_259_1327 : Tr sc d 259 (1327, [l0, l1, l2, l3], [.int i5, .int i4, .ref k3, .int i2, .int i1, .ref k0], h) Q = Tr sc d 259 (1328, [l0, l1, l2, l3], [.int (i4 + i5), .ref k3, .int i2, .int i1, .ref k0], h) Q := t_go k_259_1327 rfl
theorem k_259_1328 : lk 259 1328 = some (.iaload, 1329, 0, 0, .null) := by decide +kernel
theorem x_259_1328 : Tr sc d 259 (1328, [l0, l1, l2, l3], [.int i4, .ref k3, .int i2, .int i1, .ref k0], h) Q = (iOk sc h k3 i4 ∧ Tr sc d 259 (1329, [l0, l1, l2, l3], [.int (iRd sc h k3 i4), .int i2, .int i1, .ref k0], h) Q) := t_iald k_259_1328
theorem k_259_1329 : lk 259 1329 = some (.aload_n 0, 1330, 0, 0, .null) := by decide +kernel
theorem x_259_1329 : Tr sc d 259 (1329, [some (.ref xk), l1, l2, l3], [.int i3, .int i2, .int i1, .ref k0], h) Q = Tr sc d 259 (1330, [some (.ref xk), l1, l2, l3], [.ref xk, .int i3, .int i2, .int i1, .ref k0], h) Q := t_aload_n k_259_1329 rfl
theorem k_259_1330 : lk 259 1330 = some (.iload_n 3, 1331, 3, 0, .null) := by decide +kernel
theorem x_259_1330 : Tr sc d 259 (1330, [l0, l1, l2, some (.int x)], [.ref k4, .int i3, .int i2, .int i1, .ref k0], h) Q = Tr sc d 259 (1331, [l0, l1, l2, some (.int x)], [.int x, .ref k4, .int i3, .int i2, .int i1, .ref k0], h) Q := t_iload_n k_259_1330 rfl
theorem k_259_1331 : lk 259 1331 = some (.iconst 4, 1332, 0, 0, .int 4) := by decide +kernel
theorem x_259_1331 : Tr sc d 259 (1331, [l0, l1, l2, l3], [.int i5, .ref k4, .int i3, .int i2, .int i1, .ref k0], h) Q = Tr sc d 259 (1332, [l0, l1, l2, l3], [.int 4, .int i5, .ref k4, .int i3, .int i2, .int i1, .ref k0], h) Q := t_go k_259_1331 rfl
theorem k_259_1332 : lk 259 1332 = some (.iadd, 1333, 0, 0, .null) := by decide +kernel
theorem x_259_1332 : Tr sc d 259 (1332, [l0, l1, l2, l3], [.int i6, .int i5, .ref k4, .int i3, .int i2, .int i1, .ref k0], h) Q = Tr sc d 259 (1333, [l0, l1, l2, l3], [.int (i5 + i6), .ref k4, .int i3, .int i2, .int i1, .ref k0], h) Q := t_go k_259_1332 rfl
theorem k_259_1333 : lk 259 1333 = some (.iaload, 1334, 0, 0, .null) := by decide +kernel
theorem x_259_1333 : Tr sc d 259 (1333, [l0, l1, l2, l3], [.int i5, .ref k4, .int i3, .int i2, .int i1, .ref k0], h) Q = (iOk sc h k4 i5 ∧ Tr sc d 259 (1334, [l0, l1, l2, l3], [.int (iRd sc h k4 i5), .int i3, .int i2, .int i1, .ref k0], h) Q) := t_iald k_259_1333
theorem k_259_1334 : lk 259 1334 = some (.invokevirtual 136, 1337, 126, 4, .null) := by decide +kernel
theorem x_259_1334 : Tr sc (d + 1) 259 (1334, [l0, l1, l2, l3], [.int i4, .int i3, .int i2, .int i1, .ref k0], h) Q = (okp h k0 9 = true ∧ Tr sc d 126 (ent0 126 [.ref k0, .int i1, .int i2, .int i3, .int i4] h) (fun z => Tr sc (d + 1) 259 (1337, [l0, l1, l2, l3], z.1.toList ++ [], z.2) Q)) := t_cv (as := [.int i1, .int i2, .int i3, .int i4]) (r := []) k_259_1334 rfl rfl (Nat.le_of_ble_eq_true rfl) (Nat.le_of_ble_eq_true rfl) (Nat.le_of_ble_eq_true rfl)
theorem k_259_1337 : lk 259 1337 = some (.aload_n 2, 1338, 2, 0, .null) := by decide +kernel
theorem x_259_1337 : Tr sc d 259 (1337, [l0, l1, some (.ref xk), l3], [.int i0], h) Q = Tr sc d 259 (1338, [l0, l1, some (.ref xk), l3], [.ref xk, .int i0], h) Q := t_aload_n k_259_1337 rfl
theorem k_259_1338 : lk 259 1338 = some (.aload_n 0, 1339, 0, 0, .null) := by decide +kernel
theorem x_259_1338 : Tr sc d 259 (1338, [some (.ref xk), l1, l2, l3], [.ref k1, .int i0], h) Q = Tr sc d 259 (1339, [some (.ref xk), l1, l2, l3], [.ref xk, .ref k1, .int i0], h) Q := t_aload_n k_259_1338 rfl
theorem k_259_1339 : lk 259 1339 = some (.iload_n 3, 1340, 3, 0, .null) := by decide +kernel
theorem x_259_1339 : Tr sc d 259 (1339, [l0, l1, l2, some (.int x)], [.ref k2, .ref k1, .int i0], h) Q = Tr sc d 259 (1340, [l0, l1, l2, some (.int x)], [.int x, .ref k2, .ref k1, .int i0], h) Q := t_iload_n k_259_1339 rfl
theorem k_259_1340 : lk 259 1340 = some (.iconst 1, 1341, 0, 0, .int 1) := by decide +kernel
theorem x_259_1340 : Tr sc d 259 (1340, [l0, l1, l2, l3], [.int i3, .ref k2, .ref k1, .int i0], h) Q = Tr sc d 259 (1341, [l0, l1, l2, l3], [.int 1, .int i3, .ref k2, .ref k1, .int i0], h) Q := t_go k_259_1340 rfl
theorem k_259_1341 : lk 259 1341 = some (.iadd, 1342, 0, 0, .null) := by decide +kernel
theorem x_259_1341 : Tr sc d 259 (1341, [l0, l1, l2, l3], [.int i4, .int i3, .ref k2, .ref k1, .int i0], h) Q = Tr sc d 259 (1342, [l0, l1, l2, l3], [.int (i3 + i4), .ref k2, .ref k1, .int i0], h) Q := t_go k_259_1341 rfl
theorem k_259_1342 : lk 259 1342 = some (.iaload, 1343, 0, 0, .null) := by decide +kernel
theorem x_259_1342 : Tr sc d 259 (1342, [l0, l1, l2, l3], [.int i3, .ref k2, .ref k1, .int i0], h) Q = (iOk sc h k2 i3 ∧ Tr sc d 259 (1343, [l0, l1, l2, l3], [.int (iRd sc h k2 i3), .ref k1, .int i0], h) Q) := t_iald k_259_1342
theorem k_259_1343 : lk 259 1343 = some (.aload_n 0, 1344, 0, 0, .null) := by decide +kernel
theorem x_259_1343 : Tr sc d 259 (1343, [some (.ref xk), l1, l2, l3], [.int i2, .ref k1, .int i0], h) Q = Tr sc d 259 (1344, [some (.ref xk), l1, l2, l3], [.ref xk, .int i2, .ref k1, .int i0], h) Q := t_aload_n k_259_1343 rfl
theorem k_259_1344 : lk 259 1344 = some (.iload_n 3, 1345, 3, 0, .null) := by decide +kernel
theorem x_259_1344 : Tr sc d 259 (1344, [l0, l1, l2, some (.int x)], [.ref k3, .int i2, .ref k1, .int i0], h) Q = Tr sc d 259 (1345, [l0, l1, l2, some (.int x)], [.int x, .ref k3, .int i2, .ref k1, .int i0], h) Q := t_iload_n k_259_1344 rfl
theorem k_259_1345 : lk 259 1345 = some (.iconst 2, 1346, 0, 0, .int 2) := by decide +kernel
theorem x_259_1345 : Tr sc d 259 (1345, [l0, l1, l2, l3], [.int i4, .ref k3, .int i2, .ref k1, .int i0], h) Q = Tr sc d 259 (1346, [l0, l1, l2, l3], [.int 2, .int i4, .ref k3, .int i2, .ref k1, .int i0], h) Q := t_go k_259_1345 rfl
theorem k_259_1346 : lk 259 1346 = some (.iadd, 1347, 0, 0, .null) := by decide +kernel
theorem x_259_1346 : Tr sc d 259 (1346, [l0, l1, l2, l3], [.int i5, .int i4, .ref k3, .int i2, .ref k1, .int i0], h) Q = Tr sc d 259 (1347, [l0, l1, l2, l3], [.int (i4 + i5), .ref k3, .int i2, .ref k1, .int i0], h) Q := t_go k_259_1346 rfl
theorem k_259_1347 : lk 259 1347 = some (.iaload, 1348, 0, 0, .null) := by decide +kernel
theorem x_259_1347 : Tr sc d 259 (1347, [l0, l1, l2, l3], [.int i4, .ref k3, .int i2, .ref k1, .int i0], h) Q = (iOk sc h k3 i4 ∧ Tr sc d 259 (1348, [l0, l1, l2, l3], [.int (iRd sc h k3 i4), .int i2, .ref k1, .int i0], h) Q) := t_iald k_259_1347
theorem k_259_1348 : lk 259 1348 = some (.aload_n 0, 1349, 0, 0, .null) := by decide +kernel
theorem x_259_1348 : Tr sc d 259 (1348, [some (.ref xk), l1, l2, l3], [.int i3, .int i2, .ref k1, .int i0], h) Q = Tr sc d 259 (1349, [some (.ref xk), l1, l2, l3], [.ref xk, .int i3, .int i2, .ref k1, .int i0], h) Q := t_aload_n k_259_1348 rfl
theorem k_259_1349 : lk 259 1349 = some (.iload_n 3, 1350, 3, 0, .null) := by decide +kernel
theorem x_259_1349 : Tr sc d 259 (1349, [l0, l1, l2, some (.int x)], [.ref k4, .int i3, .int i2, .ref k1, .int i0], h) Q = Tr sc d 259 (1350, [l0, l1, l2, some (.int x)], [.int x, .ref k4, .int i3, .int i2, .ref k1, .int i0], h) Q := t_iload_n k_259_1349 rfl
theorem k_259_1350 : lk 259 1350 = some (.iconst 3, 1351, 0, 0, .int 3) := by decide +kernel
theorem x_259_1350 : Tr sc d 259 (1350, [l0, l1, l2, l3], [.int i5, .ref k4, .int i3, .int i2, .ref k1, .int i0], h) Q = Tr sc d 259 (1351, [l0, l1, l2, l3], [.int 3, .int i5, .ref k4, .int i3, .int i2, .ref k1, .int i0], h) Q := t_go k_259_1350 rfl
theorem k_259_1351 : lk 259 1351 = some (.iadd, 1352, 0, 0, .null) := by decide +kernel
theorem x_259_1351 : Tr sc d 259 (1351, [l0, l1, l2, l3], [.int i6, .int i5, .ref k4, .int i3, .int i2, .ref k1, .int i0], h) Q = Tr sc d 259 (1352, [l0, l1, l2, l3], [.int (i5 + i6), .ref k4, .int i3, .int i2, .ref k1, .int i0], h) Q := t_go k_259_1351 rfl
theorem k_259_1352 : lk 259 1352 = some (.iaload, 1353, 0, 0, .null) := by decide +kernel
theorem x_259_1352 : Tr sc d 259 (1352, [l0, l1, l2, l3], [.int i5, .ref k4, .int i3, .int i2, .ref k1, .int i0], h) Q = (iOk sc h k4 i5 ∧ Tr sc d 259 (1353, [l0, l1, l2, l3], [.int (iRd sc h k4 i5), .int i3, .int i2, .ref k1, .int i0], h) Q) := t_iald k_259_1352
theorem k_259_1353 : lk 259 1353 = some (.aload_n 0, 1354, 0, 0, .null) := by decide +kernel
theorem x_259_1353 : Tr sc d 259 (1353, [some (.ref xk), l1, l2, l3], [.int i4, .int i3, .int i2, .ref k1, .int i0], h) Q = Tr sc d 259 (1354, [some (.ref xk), l1, l2, l3], [.ref xk, .int i4, .int i3, .int i2, .ref k1, .int i0], h) Q := t_aload_n k_259_1353 rfl
theorem k_259_1354 : lk 259 1354 = some (.iload_n 3, 1355, 3, 0, .null) := by decide +kernel
theorem x_259_1354 : Tr sc d 259 (1354, [l0, l1, l2, some (.int x)], [.ref k5, .int i4, .int i3, .int i2, .ref k1, .int i0], h) Q = Tr sc d 259 (1355, [l0, l1, l2, some (.int x)], [.int x, .ref k5, .int i4, .int i3, .int i2, .ref k1, .int i0], h) Q := t_iload_n k_259_1354 rfl
theorem k_259_1355 : lk 259 1355 = some (.iconst 4, 1356, 0, 0, .int 4) := by decide +kernel
theorem x_259_1355 : Tr sc d 259 (1355, [l0, l1, l2, l3], [.int i6, .ref k5, .int i4, .int i3, .int i2, .ref k1, .int i0], h) Q = Tr sc d 259 (1356, [l0, l1, l2, l3], [.int 4, .int i6, .ref k5, .int i4, .int i3, .int i2, .ref k1, .int i0], h) Q := t_go k_259_1355 rfl
theorem k_259_1356 : lk 259 1356 = some (.iadd, 1357, 0, 0, .null) := by decide +kernel
theorem x_259_1356 : Tr sc d 259 (1356, [l0, l1, l2, l3], [.int i7, .int i6, .ref k5, .int i4, .int i3, .int i2, .ref k1, .int i0], h) Q = Tr sc d 259 (1357, [l0, l1, l2, l3], [.int (i6 + i7), .ref k5, .int i4, .int i3, .int i2, .ref k1, .int i0], h) Q := t_go k_259_1356 rfl
theorem k_259_1357 : lk 259 1357 = some (.iaload, 1358, 0, 0, .null) := by decide +kernel
theorem x_259_1357 : Tr sc d 259 (1357, [l0, l1, l2, l3], [.int i6, .ref k5, .int i4, .int i3, .int i2, .ref k1, .int i0], h) Q = (iOk sc h k5 i6 ∧ Tr sc d 259 (1358, [l0, l1, l2, l3], [.int (iRd sc h k5 i6), .int i4, .int i3, .int i2, .ref k1, .int i0], h) Q) := t_iald k_259_1357
theorem k_259_1358 : lk 259 1358 = some (.invokevirtual 139, 1361, 233, 4, .null) := by decide +kernel
theorem x_259_1358 : Tr sc (d + 1) 259 (1358, [l0, l1, l2, l3], [.int i5, .int i4, .int i3, .int i2, .ref k1, .int i0], h) Q = (okp h k1 10 = true ∧ Tr sc d 233 (ent0 233 [.ref k1, .int i2, .int i3, .int i4, .int i5] h) (fun z => Tr sc (d + 1) 259 (1361, [l0, l1, l2, l3], z.1.toList ++ [.int i0], z.2) Q)) := t_cv (as := [.int i2, .int i3, .int i4, .int i5]) (r := [.int i0]) k_259_1358 rfl rfl (Nat.le_of_ble_eq_true rfl) (Nat.le_of_ble_eq_true rfl) (Nat.le_of_ble_eq_true rfl)
theorem k_259_1361 : lk 259 1361 = some (.if_icmp .eq 387, 1364, 1748, 0, .null) := by decide +kernel
theorem x_259_1361 : Tr sc d 259 (1361, [l0, l1, l2, l3], [.int i1, .int i0], h) Q = if i0 = i1 then Tr sc d 259 (1748, [l0, l1, l2, l3], [], h) Q else Tr sc d 259 (1364, [l0, l1, l2, l3], [], h) Q := t_if k_259_1361 rfl
theorem k_259_1364 : lk 259 1364 = some (.iconst 0, 1365, 0, 0, .int 0) := by decide +kernel
theorem x_259_1364 : Tr sc d 259 (1364, [l0, l1, l2, l3], [], h) Q = Tr sc d 259 (1365, [l0, l1, l2, l3], [.int 0], h) Q := t_go k_259_1364 rfl
theorem k_259_1365 : lk 259 1365 = some (.ireturn, 1366, 0, 0, .null) := by decide +kernel
theorem x_259_1365 : Tr sc d 259 (1365, [l0, l1, l2, l3], [.int i0], h) Q = (vp_nar .boolean i0 = i0 ∧ Q (some (.int i0), h)) := t_zret k_259_1365 r_259
theorem k_259_1366 : lk 259 1366 = some (.aload_n 1, 1367, 1, 0, .null) := by decide +kernel
theorem x_259_1366 : Tr sc d 259 (1366, [l0, some (.ref xk), l2, l3], [], h) Q = Tr sc d 259 (1367, [l0, some (.ref xk), l2, l3], [.ref xk], h) Q := t_aload_n k_259_1366 rfl
theorem k_259_1367 : lk 259 1367 = some (.aload_n 0, 1368, 0, 0, .null) := by decide +kernel
theorem x_259_1367 : Tr sc d 259 (1367, [some (.ref xk), l1, l2, l3], [.ref k0], h) Q = Tr sc d 259 (1368, [some (.ref xk), l1, l2, l3], [.ref xk, .ref k0], h) Q := t_aload_n k_259_1367 rfl
theorem k_259_1368 : lk 259 1368 = some (.iload_n 3, 1369, 3, 0, .null) := by decide +kernel
theorem x_259_1368 : Tr sc d 259 (1368, [l0, l1, l2, some (.int x)], [.ref k1, .ref k0], h) Q = Tr sc d 259 (1369, [l0, l1, l2, some (.int x)], [.int x, .ref k1, .ref k0], h) Q := t_iload_n k_259_1368 rfl
theorem k_259_1369 : lk 259 1369 = some (.iconst 1, 1370, 0, 0, .int 1) := by decide +kernel
theorem x_259_1369 : Tr sc d 259 (1369, [l0, l1, l2, l3], [.int i2, .ref k1, .ref k0], h) Q = Tr sc d 259 (1370, [l0, l1, l2, l3], [.int 1, .int i2, .ref k1, .ref k0], h) Q := t_go k_259_1369 rfl
theorem k_259_1370 : lk 259 1370 = some (.iadd, 1371, 0, 0, .null) := by decide +kernel
theorem x_259_1370 : Tr sc d 259 (1370, [l0, l1, l2, l3], [.int i3, .int i2, .ref k1, .ref k0], h) Q = Tr sc d 259 (1371, [l0, l1, l2, l3], [.int (i2 + i3), .ref k1, .ref k0], h) Q := t_go k_259_1370 rfl
theorem k_259_1371 : lk 259 1371 = some (.iaload, 1372, 0, 0, .null) := by decide +kernel
theorem x_259_1371 : Tr sc d 259 (1371, [l0, l1, l2, l3], [.int i2, .ref k1, .ref k0], h) Q = (iOk sc h k1 i2 ∧ Tr sc d 259 (1372, [l0, l1, l2, l3], [.int (iRd sc h k1 i2), .ref k0], h) Q) := t_iald k_259_1371
theorem k_259_1372 : lk 259 1372 = some (.aload_n 0, 1373, 0, 0, .null) := by decide +kernel
theorem x_259_1372 : Tr sc d 259 (1372, [some (.ref xk), l1, l2, l3], [.int i1, .ref k0], h) Q = Tr sc d 259 (1373, [some (.ref xk), l1, l2, l3], [.ref xk, .int i1, .ref k0], h) Q := t_aload_n k_259_1372 rfl
theorem k_259_1373 : lk 259 1373 = some (.iload_n 3, 1374, 3, 0, .null) := by decide +kernel
theorem x_259_1373 : Tr sc d 259 (1373, [l0, l1, l2, some (.int x)], [.ref k2, .int i1, .ref k0], h) Q = Tr sc d 259 (1374, [l0, l1, l2, some (.int x)], [.int x, .ref k2, .int i1, .ref k0], h) Q := t_iload_n k_259_1373 rfl
theorem k_259_1374 : lk 259 1374 = some (.iconst 2, 1375, 0, 0, .int 2) := by decide +kernel
theorem x_259_1374 : Tr sc d 259 (1374, [l0, l1, l2, l3], [.int i3, .ref k2, .int i1, .ref k0], h) Q = Tr sc d 259 (1375, [l0, l1, l2, l3], [.int 2, .int i3, .ref k2, .int i1, .ref k0], h) Q := t_go k_259_1374 rfl
theorem k_259_1375 : lk 259 1375 = some (.iadd, 1376, 0, 0, .null) := by decide +kernel
theorem x_259_1375 : Tr sc d 259 (1375, [l0, l1, l2, l3], [.int i4, .int i3, .ref k2, .int i1, .ref k0], h) Q = Tr sc d 259 (1376, [l0, l1, l2, l3], [.int (i3 + i4), .ref k2, .int i1, .ref k0], h) Q := t_go k_259_1375 rfl
theorem k_259_1376 : lk 259 1376 = some (.iaload, 1377, 0, 0, .null) := by decide +kernel
theorem x_259_1376 : Tr sc d 259 (1376, [l0, l1, l2, l3], [.int i3, .ref k2, .int i1, .ref k0], h) Q = (iOk sc h k2 i3 ∧ Tr sc d 259 (1377, [l0, l1, l2, l3], [.int (iRd sc h k2 i3), .int i1, .ref k0], h) Q) := t_iald k_259_1376
theorem k_259_1377 : lk 259 1377 = some (.invokevirtual 140, 1380, 127, 2, .null) := by decide +kernel
theorem x_259_1377 : Tr sc (d + 1) 259 (1377, [l0, l1, l2, l3], [.int i2, .int i1, .ref k0], h) Q = (okp h k0 9 = true ∧ Tr sc d 127 (ent0 127 [.ref k0, .int i1, .int i2] h) (fun z => Tr sc (d + 1) 259 (1380, [l0, l1, l2, l3], z.1.toList ++ [], z.2) Q)) := t_cv (as := [.int i1, .int i2]) (r := []) k_259_1377 rfl rfl (Nat.le_of_ble_eq_true rfl) (Nat.le_of_ble_eq_true rfl) (Nat.le_of_ble_eq_true rfl)
theorem k_259_1380 : lk 259 1380 = some (.aload_n 2, 1381, 2, 0, .null) := by decide +kernel
theorem x_259_1380 : Tr sc d 259 (1380, [l0, l1, some (.ref xk), l3], [.int i0], h) Q = Tr sc d 259 (1381, [l0, l1, some (.ref xk), l3], [.ref xk, .int i0], h) Q := t_aload_n k_259_1380 rfl
theorem k_259_1381 : lk 259 1381 = some (.aload_n 0, 1382, 0, 0, .null) := by decide +kernel
theorem x_259_1381 : Tr sc d 259 (1381, [some (.ref xk), l1, l2, l3], [.ref k1, .int i0], h) Q = Tr sc d 259 (1382, [some (.ref xk), l1, l2, l3], [.ref xk, .ref k1, .int i0], h) Q := t_aload_n k_259_1381 rfl
theorem k_259_1382 : lk 259 1382 = some (.iload_n 3, 1383, 3, 0, .null) := by decide +kernel
theorem x_259_1382 : Tr sc d 259 (1382, [l0, l1, l2, some (.int x)], [.ref k2, .ref k1, .int i0], h) Q = Tr sc d 259 (1383, [l0, l1, l2, some (.int x)], [.int x, .ref k2, .ref k1, .int i0], h) Q := t_iload_n k_259_1382 rfl
theorem k_259_1383 : lk 259 1383 = some (.iconst 1, 1384, 0, 0, .int 1) := by decide +kernel
theorem x_259_1383 : Tr sc d 259 (1383, [l0, l1, l2, l3], [.int i3, .ref k2, .ref k1, .int i0], h) Q = Tr sc d 259 (1384, [l0, l1, l2, l3], [.int 1, .int i3, .ref k2, .ref k1, .int i0], h) Q := t_go k_259_1383 rfl
theorem k_259_1384 : lk 259 1384 = some (.iadd, 1385, 0, 0, .null) := by decide +kernel
theorem x_259_1384 : Tr sc d 259 (1384, [l0, l1, l2, l3], [.int i4, .int i3, .ref k2, .ref k1, .int i0], h) Q = Tr sc d 259 (1385, [l0, l1, l2, l3], [.int (i3 + i4), .ref k2, .ref k1, .int i0], h) Q := t_go k_259_1384 rfl
theorem k_259_1385 : lk 259 1385 = some (.iaload, 1386, 0, 0, .null) := by decide +kernel
theorem x_259_1385 : Tr sc d 259 (1385, [l0, l1, l2, l3], [.int i3, .ref k2, .ref k1, .int i0], h) Q = (iOk sc h k2 i3 ∧ Tr sc d 259 (1386, [l0, l1, l2, l3], [.int (iRd sc h k2 i3), .ref k1, .int i0], h) Q) := t_iald k_259_1385
theorem k_259_1386 : lk 259 1386 = some (.aload_n 0, 1387, 0, 0, .null) := by decide +kernel
theorem x_259_1386 : Tr sc d 259 (1386, [some (.ref xk), l1, l2, l3], [.int i2, .ref k1, .int i0], h) Q = Tr sc d 259 (1387, [some (.ref xk), l1, l2, l3], [.ref xk, .int i2, .ref k1, .int i0], h) Q := t_aload_n k_259_1386 rfl
theorem k_259_1387 : lk 259 1387 = some (.iload_n 3, 1388, 3, 0, .null) := by decide +kernel
theorem x_259_1387 : Tr sc d 259 (1387, [l0, l1, l2, some (.int x)], [.ref k3, .int i2, .ref k1, .int i0], h) Q = Tr sc d 259 (1388, [l0, l1, l2, some (.int x)], [.int x, .ref k3, .int i2, .ref k1, .int i0], h) Q := t_iload_n k_259_1387 rfl
theorem k_259_1388 : lk 259 1388 = some (.iconst 2, 1389, 0, 0, .int 2) := by decide +kernel
theorem x_259_1388 : Tr sc d 259 (1388, [l0, l1, l2, l3], [.int i4, .ref k3, .int i2, .ref k1, .int i0], h) Q = Tr sc d 259 (1389, [l0, l1, l2, l3], [.int 2, .int i4, .ref k3, .int i2, .ref k1, .int i0], h) Q := t_go k_259_1388 rfl
theorem k_259_1389 : lk 259 1389 = some (.iadd, 1390, 0, 0, .null) := by decide +kernel
theorem x_259_1389 : Tr sc d 259 (1389, [l0, l1, l2, l3], [.int i5, .int i4, .ref k3, .int i2, .ref k1, .int i0], h) Q = Tr sc d 259 (1390, [l0, l1, l2, l3], [.int (i4 + i5), .ref k3, .int i2, .ref k1, .int i0], h) Q := t_go k_259_1389 rfl
theorem k_259_1390 : lk 259 1390 = some (.iaload, 1391, 0, 0, .null) := by decide +kernel
theorem x_259_1390 : Tr sc d 259 (1390, [l0, l1, l2, l3], [.int i4, .ref k3, .int i2, .ref k1, .int i0], h) Q = (iOk sc h k3 i4 ∧ Tr sc d 259 (1391, [l0, l1, l2, l3], [.int (iRd sc h k3 i4), .int i2, .ref k1, .int i0], h) Q) := t_iald k_259_1390
theorem k_259_1391 : lk 259 1391 = some (.invokevirtual 143, 1394, 235, 2, .null) := by decide +kernel
theorem x_259_1391 : Tr sc (d + 1) 259 (1391, [l0, l1, l2, l3], [.int i3, .int i2, .ref k1, .int i0], h) Q = (okp h k1 10 = true ∧ Tr sc d 235 (ent0 235 [.ref k1, .int i2, .int i3] h) (fun z => Tr sc (d + 1) 259 (1394, [l0, l1, l2, l3], z.1.toList ++ [.int i0], z.2) Q)) := t_cv (as := [.int i2, .int i3]) (r := [.int i0]) k_259_1391 rfl rfl (Nat.le_of_ble_eq_true rfl) (Nat.le_of_ble_eq_true rfl) (Nat.le_of_ble_eq_true rfl)
theorem k_259_1394 : lk 259 1394 = some (.if_icmp .eq 354, 1397, 1748, 0, .null) := by decide +kernel
theorem x_259_1394 : Tr sc d 259 (1394, [l0, l1, l2, l3], [.int i1, .int i0], h) Q = if i0 = i1 then Tr sc d 259 (1748, [l0, l1, l2, l3], [], h) Q else Tr sc d 259 (1397, [l0, l1, l2, l3], [], h) Q := t_if k_259_1394 rfl
theorem k_259_1397 : lk 259 1397 = some (.iconst 0, 1398, 0, 0, .int 0) := by decide +kernel
theorem x_259_1397 : Tr sc d 259 (1397, [l0, l1, l2, l3], [], h) Q = Tr sc d 259 (1398, [l0, l1, l2, l3], [.int 0], h) Q := t_go k_259_1397 rfl
theorem k_259_1398 : lk 259 1398 = some (.ireturn, 1399, 0, 0, .null) := by decide +kernel
theorem x_259_1398 : Tr sc d 259 (1398, [l0, l1, l2, l3], [.int i0], h) Q = (vp_nar .boolean i0 = i0 ∧ Q (some (.int i0), h)) := t_zret k_259_1398 r_259
theorem k_259_1399 : lk 259 1399 = some (.aload_n 1, 1400, 1, 0, .null) := by decide +kernel
theorem x_259_1399 : Tr sc d 259 (1399, [l0, some (.ref xk), l2, l3], [], h) Q = Tr sc d 259 (1400, [l0, some (.ref xk), l2, l3], [.ref xk], h) Q := t_aload_n k_259_1399 rfl
theorem k_259_1400 : lk 259 1400 = some (.aload_n 0, 1401, 0, 0, .null) := by decide +kernel
theorem x_259_1400 : Tr sc d 259 (1400, [some (.ref xk), l1, l2, l3], [.ref k0], h) Q = Tr sc d 259 (1401, [some (.ref xk), l1, l2, l3], [.ref xk, .ref k0], h) Q := t_aload_n k_259_1400 rfl
theorem k_259_1401 : lk 259 1401 = some (.iload_n 3, 1402, 3, 0, .null) := by decide +kernel
theorem x_259_1401 : Tr sc d 259 (1401, [l0, l1, l2, some (.int x)], [.ref k1, .ref k0], h) Q = Tr sc d 259 (1402, [l0, l1, l2, some (.int x)], [.int x, .ref k1, .ref k0], h) Q := t_iload_n k_259_1401 rfl
theorem k_259_1402 : lk 259 1402 = some (.iconst 1, 1403, 0, 0, .int 1) := by decide +kernel
theorem x_259_1402 : Tr sc d 259 (1402, [l0, l1, l2, l3], [.int i2, .ref k1, .ref k0], h) Q = Tr sc d 259 (1403, [l0, l1, l2, l3], [.int 1, .int i2, .ref k1, .ref k0], h) Q := t_go k_259_1402 rfl
theorem k_259_1403 : lk 259 1403 = some (.iadd, 1404, 0, 0, .null) := by decide +kernel
theorem x_259_1403 : Tr sc d 259 (1403, [l0, l1, l2, l3], [.int i3, .int i2, .ref k1, .ref k0], h) Q = Tr sc d 259 (1404, [l0, l1, l2, l3], [.int (i2 + i3), .ref k1, .ref k0], h) Q := t_go k_259_1403 rfl
theorem k_259_1404 : lk 259 1404 = some (.iaload, 1405, 0, 0, .null) := by decide +kernel
theorem x_259_1404 : Tr sc d 259 (1404, [l0, l1, l2, l3], [.int i2, .ref k1, .ref k0], h) Q = (iOk sc h k1 i2 ∧ Tr sc d 259 (1405, [l0, l1, l2, l3], [.int (iRd sc h k1 i2), .ref k0], h) Q) := t_iald k_259_1404
theorem k_259_1405 : lk 259 1405 = some (.aload_n 0, 1406, 0, 0, .null) := by decide +kernel
theorem x_259_1405 : Tr sc d 259 (1405, [some (.ref xk), l1, l2, l3], [.int i1, .ref k0], h) Q = Tr sc d 259 (1406, [some (.ref xk), l1, l2, l3], [.ref xk, .int i1, .ref k0], h) Q := t_aload_n k_259_1405 rfl
theorem k_259_1406 : lk 259 1406 = some (.iload_n 3, 1407, 3, 0, .null) := by decide +kernel
theorem x_259_1406 : Tr sc d 259 (1406, [l0, l1, l2, some (.int x)], [.ref k2, .int i1, .ref k0], h) Q = Tr sc d 259 (1407, [l0, l1, l2, some (.int x)], [.int x, .ref k2, .int i1, .ref k0], h) Q := t_iload_n k_259_1406 rfl
theorem k_259_1407 : lk 259 1407 = some (.iconst 2, 1408, 0, 0, .int 2) := by decide +kernel
theorem x_259_1407 : Tr sc d 259 (1407, [l0, l1, l2, l3], [.int i3, .ref k2, .int i1, .ref k0], h) Q = Tr sc d 259 (1408, [l0, l1, l2, l3], [.int 2, .int i3, .ref k2, .int i1, .ref k0], h) Q := t_go k_259_1407 rfl
theorem k_259_1408 : lk 259 1408 = some (.iadd, 1409, 0, 0, .null) := by decide +kernel
theorem x_259_1408 : Tr sc d 259 (1408, [l0, l1, l2, l3], [.int i4, .int i3, .ref k2, .int i1, .ref k0], h) Q = Tr sc d 259 (1409, [l0, l1, l2, l3], [.int (i3 + i4), .ref k2, .int i1, .ref k0], h) Q := t_go k_259_1408 rfl
theorem k_259_1409 : lk 259 1409 = some (.iaload, 1410, 0, 0, .null) := by decide +kernel
theorem x_259_1409 : Tr sc d 259 (1409, [l0, l1, l2, l3], [.int i3, .ref k2, .int i1, .ref k0], h) Q = (iOk sc h k2 i3 ∧ Tr sc d 259 (1410, [l0, l1, l2, l3], [.int (iRd sc h k2 i3), .int i1, .ref k0], h) Q) := t_iald k_259_1409
theorem k_259_1410 : lk 259 1410 = some (.ifCond .eq 7, 1413, 1417, 0, .null) := by decide +kernel
theorem x_259_1410 : Tr sc d 259 (1410, [l0, l1, l2, l3], [.int i2, .int i1, .ref k0], h) Q = if i2 = 0 then Tr sc d 259 (1417, [l0, l1, l2, l3], [.int i1, .ref k0], h) Q else Tr sc d 259 (1413, [l0, l1, l2, l3], [.int i1, .ref k0], h) Q := t_if k_259_1410 rfl
theorem k_259_1413 : lk 259 1413 = some (.iconst 1, 1414, 0, 0, .int 1) := by decide +kernel
theorem x_259_1413 : Tr sc d 259 (1413, [l0, l1, l2, l3], [.int i1, .ref k0], h) Q = Tr sc d 259 (1414, [l0, l1, l2, l3], [.int 1, .int i1, .ref k0], h) Q := t_go k_259_1413 rfl
theorem k_259_1414 : lk 259 1414 = some (.goto 4, 1417, 1418, 0, .null) := by decide +kernel
theorem x_259_1414 : Tr sc d 259 (1414, [l0, l1, l2, l3], [.int i2, .int i1, .ref k0], h) Q = Tr sc d 259 (1418, [l0, l1, l2, l3], [.int i2, .int i1, .ref k0], h) Q := t_go k_259_1414 rfl
theorem k_259_1417 : lk 259 1417 = some (.iconst 0, 1418, 0, 0, .int 0) := by decide +kernel
theorem x_259_1417 : Tr sc d 259 (1417, [l0, l1, l2, l3], [.int i1, .ref k0], h) Q = Tr sc d 259 (1418, [l0, l1, l2, l3], [.int 0, .int i1, .ref k0], h) Q := t_go k_259_1417 rfl
theorem k_259_1418 : lk 259 1418 = some (.invokevirtual 144, 1421, 128, 2, .null) := by decide +kernel
theorem x_259_1418 : Tr sc (d + 1) 259 (1418, [l0, l1, l2, l3], [.int i2, .int i1, .ref k0], h) Q = (okp h k0 9 = true ∧ Tr sc d 128 (ent0 128 [.ref k0, .int i1, .int i2] h) (fun z => Tr sc (d + 1) 259 (1421, [l0, l1, l2, l3], z.1.toList ++ [], z.2) Q)) := t_cv (as := [.int i1, .int i2]) (r := []) k_259_1418 rfl rfl (Nat.le_of_ble_eq_true rfl) (Nat.le_of_ble_eq_true rfl) (Nat.le_of_ble_eq_true rfl)
theorem k_259_1421 : lk 259 1421 = some (.aload_n 2, 1422, 2, 0, .null) := by decide +kernel
theorem x_259_1421 : Tr sc d 259 (1421, [l0, l1, some (.ref xk), l3], [.int i0], h) Q = Tr sc d 259 (1422, [l0, l1, some (.ref xk), l3], [.ref xk, .int i0], h) Q := t_aload_n k_259_1421 rfl
theorem k_259_1422 : lk 259 1422 = some (.aload_n 0, 1423, 0, 0, .null) := by decide +kernel
theorem x_259_1422 : Tr sc d 259 (1422, [some (.ref xk), l1, l2, l3], [.ref k1, .int i0], h) Q = Tr sc d 259 (1423, [some (.ref xk), l1, l2, l3], [.ref xk, .ref k1, .int i0], h) Q := t_aload_n k_259_1422 rfl
theorem k_259_1423 : lk 259 1423 = some (.iload_n 3, 1424, 3, 0, .null) := by decide +kernel
theorem x_259_1423 : Tr sc d 259 (1423, [l0, l1, l2, some (.int x)], [.ref k2, .ref k1, .int i0], h) Q = Tr sc d 259 (1424, [l0, l1, l2, some (.int x)], [.int x, .ref k2, .ref k1, .int i0], h) Q := t_iload_n k_259_1423 rfl
theorem k_259_1424 : lk 259 1424 = some (.iconst 1, 1425, 0, 0, .int 1) := by decide +kernel
theorem x_259_1424 : Tr sc d 259 (1424, [l0, l1, l2, l3], [.int i3, .ref k2, .ref k1, .int i0], h) Q = Tr sc d 259 (1425, [l0, l1, l2, l3], [.int 1, .int i3, .ref k2, .ref k1, .int i0], h) Q := t_go k_259_1424 rfl
theorem k_259_1425 : lk 259 1425 = some (.iadd, 1426, 0, 0, .null) := by decide +kernel
theorem x_259_1425 : Tr sc d 259 (1425, [l0, l1, l2, l3], [.int i4, .int i3, .ref k2, .ref k1, .int i0], h) Q = Tr sc d 259 (1426, [l0, l1, l2, l3], [.int (i3 + i4), .ref k2, .ref k1, .int i0], h) Q := t_go k_259_1425 rfl
theorem k_259_1426 : lk 259 1426 = some (.iaload, 1427, 0, 0, .null) := by decide +kernel
theorem x_259_1426 : Tr sc d 259 (1426, [l0, l1, l2, l3], [.int i3, .ref k2, .ref k1, .int i0], h) Q = (iOk sc h k2 i3 ∧ Tr sc d 259 (1427, [l0, l1, l2, l3], [.int (iRd sc h k2 i3), .ref k1, .int i0], h) Q) := t_iald k_259_1426
theorem k_259_1427 : lk 259 1427 = some (.aload_n 0, 1428, 0, 0, .null) := by decide +kernel
theorem x_259_1427 : Tr sc d 259 (1427, [some (.ref xk), l1, l2, l3], [.int i2, .ref k1, .int i0], h) Q = Tr sc d 259 (1428, [some (.ref xk), l1, l2, l3], [.ref xk, .int i2, .ref k1, .int i0], h) Q := t_aload_n k_259_1427 rfl
theorem k_259_1428 : lk 259 1428 = some (.iload_n 3, 1429, 3, 0, .null) := by decide +kernel
theorem x_259_1428 : Tr sc d 259 (1428, [l0, l1, l2, some (.int x)], [.ref k3, .int i2, .ref k1, .int i0], h) Q = Tr sc d 259 (1429, [l0, l1, l2, some (.int x)], [.int x, .ref k3, .int i2, .ref k1, .int i0], h) Q := t_iload_n k_259_1428 rfl
theorem k_259_1429 : lk 259 1429 = some (.iconst 2, 1430, 0, 0, .int 2) := by decide +kernel
theorem x_259_1429 : Tr sc d 259 (1429, [l0, l1, l2, l3], [.int i4, .ref k3, .int i2, .ref k1, .int i0], h) Q = Tr sc d 259 (1430, [l0, l1, l2, l3], [.int 2, .int i4, .ref k3, .int i2, .ref k1, .int i0], h) Q := t_go k_259_1429 rfl
theorem k_259_1430 : lk 259 1430 = some (.iadd, 1431, 0, 0, .null) := by decide +kernel
theorem x_259_1430 : Tr sc d 259 (1430, [l0, l1, l2, l3], [.int i5, .int i4, .ref k3, .int i2, .ref k1, .int i0], h) Q = Tr sc d 259 (1431, [l0, l1, l2, l3], [.int (i4 + i5), .ref k3, .int i2, .ref k1, .int i0], h) Q := t_go k_259_1430 rfl
theorem k_259_1431 : lk 259 1431 = some (.iaload, 1432, 0, 0, .null) := by decide +kernel
theorem x_259_1431 : Tr sc d 259 (1431, [l0, l1, l2, l3], [.int i4, .ref k3, .int i2, .ref k1, .int i0], h) Q = (iOk sc h k3 i4 ∧ Tr sc d 259 (1432, [l0, l1, l2, l3], [.int (iRd sc h k3 i4), .int i2, .ref k1, .int i0], h) Q) := t_iald k_259_1431
theorem k_259_1432 : lk 259 1432 = some (.ifCond .eq 7, 1435, 1439, 0, .null) := by decide +kernel
theorem x_259_1432 : Tr sc d 259 (1432, [l0, l1, l2, l3], [.int i3, .int i2, .ref k1, .int i0], h) Q = if i3 = 0 then Tr sc d 259 (1439, [l0, l1, l2, l3], [.int i2, .ref k1, .int i0], h) Q else Tr sc d 259 (1435, [l0, l1, l2, l3], [.int i2, .ref k1, .int i0], h) Q := t_if k_259_1432 rfl
theorem k_259_1435 : lk 259 1435 = some (.iconst 1, 1436, 0, 0, .int 1) := by decide +kernel
theorem x_259_1435 : Tr sc d 259 (1435, [l0, l1, l2, l3], [.int i2, .ref k1, .int i0], h) Q = Tr sc d 259 (1436, [l0, l1, l2, l3], [.int 1, .int i2, .ref k1, .int i0], h) Q := t_go k_259_1435 rfl
theorem k_259_1436 : lk 259 1436 = some (.goto 4, 1439, 1440, 0, .null) := by decide +kernel
theorem x_259_1436 : Tr sc d 259 (1436, [l0, l1, l2, l3], [.int i3, .int i2, .ref k1, .int i0], h) Q = Tr sc d 259 (1440, [l0, l1, l2, l3], [.int i3, .int i2, .ref k1, .int i0], h) Q := t_go k_259_1436 rfl
theorem k_259_1439 : lk 259 1439 = some (.iconst 0, 1440, 0, 0, .int 0) := by decide +kernel
theorem x_259_1439 : Tr sc d 259 (1439, [l0, l1, l2, l3], [.int i2, .ref k1, .int i0], h) Q = Tr sc d 259 (1440, [l0, l1, l2, l3], [.int 0, .int i2, .ref k1, .int i0], h) Q := t_go k_259_1439 rfl
theorem k_259_1440 : lk 259 1440 = some (.invokevirtual 148, 1443, 236, 2, .null) := by decide +kernel
theorem x_259_1440 : Tr sc (d + 1) 259 (1440, [l0, l1, l2, l3], [.int i3, .int i2, .ref k1, .int i0], h) Q = (okp h k1 10 = true ∧ Tr sc d 236 (ent0 236 [.ref k1, .int i2, .int i3] h) (fun z => Tr sc (d + 1) 259 (1443, [l0, l1, l2, l3], z.1.toList ++ [.int i0], z.2) Q)) := t_cv (as := [.int i2, .int i3]) (r := [.int i0]) k_259_1440 rfl rfl (Nat.le_of_ble_eq_true rfl) (Nat.le_of_ble_eq_true rfl) (Nat.le_of_ble_eq_true rfl)
theorem k_259_1443 : lk 259 1443 = some (.if_icmp .eq 305, 1446, 1748, 0, .null) := by decide +kernel
theorem x_259_1443 : Tr sc d 259 (1443, [l0, l1, l2, l3], [.int i1, .int i0], h) Q = if i0 = i1 then Tr sc d 259 (1748, [l0, l1, l2, l3], [], h) Q else Tr sc d 259 (1446, [l0, l1, l2, l3], [], h) Q := t_if k_259_1443 rfl
theorem k_259_1446 : lk 259 1446 = some (.iconst 0, 1447, 0, 0, .int 0) := by decide +kernel
theorem x_259_1446 : Tr sc d 259 (1446, [l0, l1, l2, l3], [], h) Q = Tr sc d 259 (1447, [l0, l1, l2, l3], [.int 0], h) Q := t_go k_259_1446 rfl
theorem k_259_1447 : lk 259 1447 = some (.ireturn, 1448, 0, 0, .null) := by decide +kernel
theorem x_259_1447 : Tr sc d 259 (1447, [l0, l1, l2, l3], [.int i0], h) Q = (vp_nar .boolean i0 = i0 ∧ Q (some (.int i0), h)) := t_zret k_259_1447 r_259
theorem k_259_1448 : lk 259 1448 = some (.aload_n 1, 1449, 1, 0, .null) := by decide +kernel
theorem x_259_1448 : Tr sc d 259 (1448, [l0, some (.ref xk), l2, l3], [], h) Q = Tr sc d 259 (1449, [l0, some (.ref xk), l2, l3], [.ref xk], h) Q := t_aload_n k_259_1448 rfl
theorem k_259_1449 : lk 259 1449 = some (.aload_n 0, 1450, 0, 0, .null) := by decide +kernel
theorem x_259_1449 : Tr sc d 259 (1449, [some (.ref xk), l1, l2, l3], [.ref k0], h) Q = Tr sc d 259 (1450, [some (.ref xk), l1, l2, l3], [.ref xk, .ref k0], h) Q := t_aload_n k_259_1449 rfl
theorem k_259_1450 : lk 259 1450 = some (.iload_n 3, 1451, 3, 0, .null) := by decide +kernel
theorem x_259_1450 : Tr sc d 259 (1450, [l0, l1, l2, some (.int x)], [.ref k1, .ref k0], h) Q = Tr sc d 259 (1451, [l0, l1, l2, some (.int x)], [.int x, .ref k1, .ref k0], h) Q := t_iload_n k_259_1450 rfl
theorem k_259_1451 : lk 259 1451 = some (.iconst 1, 1452, 0, 0, .int 1) := by decide +kernel
theorem x_259_1451 : Tr sc d 259 (1451, [l0, l1, l2, l3], [.int i2, .ref k1, .ref k0], h) Q = Tr sc d 259 (1452, [l0, l1, l2, l3], [.int 1, .int i2, .ref k1, .ref k0], h) Q := t_go k_259_1451 rfl
theorem k_259_1452 : lk 259 1452 = some (.iadd, 1453, 0, 0, .null) := by decide +kernel
theorem x_259_1452 : Tr sc d 259 (1452, [l0, l1, l2, l3], [.int i3, .int i2, .ref k1, .ref k0], h) Q = Tr sc d 259 (1453, [l0, l1, l2, l3], [.int (i2 + i3), .ref k1, .ref k0], h) Q := t_go k_259_1452 rfl
theorem k_259_1453 : lk 259 1453 = some (.iaload, 1454, 0, 0, .null) := by decide +kernel
theorem x_259_1453 : Tr sc d 259 (1453, [l0, l1, l2, l3], [.int i2, .ref k1, .ref k0], h) Q = (iOk sc h k1 i2 ∧ Tr sc d 259 (1454, [l0, l1, l2, l3], [.int (iRd sc h k1 i2), .ref k0], h) Q) := t_iald k_259_1453
theorem k_259_1454 : lk 259 1454 = some (.aload_n 0, 1455, 0, 0, .null) := by decide +kernel
theorem x_259_1454 : Tr sc d 259 (1454, [some (.ref xk), l1, l2, l3], [.int i1, .ref k0], h) Q = Tr sc d 259 (1455, [some (.ref xk), l1, l2, l3], [.ref xk, .int i1, .ref k0], h) Q := t_aload_n k_259_1454 rfl
theorem k_259_1455 : lk 259 1455 = some (.iload_n 3, 1456, 3, 0, .null) := by decide +kernel
theorem x_259_1455 : Tr sc d 259 (1455, [l0, l1, l2, some (.int x)], [.ref k2, .int i1, .ref k0], h) Q = Tr sc d 259 (1456, [l0, l1, l2, some (.int x)], [.int x, .ref k2, .int i1, .ref k0], h) Q := t_iload_n k_259_1455 rfl
theorem k_259_1456 : lk 259 1456 = some (.iconst 2, 1457, 0, 0, .int 2) := by decide +kernel
theorem x_259_1456 : Tr sc d 259 (1456, [l0, l1, l2, l3], [.int i3, .ref k2, .int i1, .ref k0], h) Q = Tr sc d 259 (1457, [l0, l1, l2, l3], [.int 2, .int i3, .ref k2, .int i1, .ref k0], h) Q := t_go k_259_1456 rfl
theorem k_259_1457 : lk 259 1457 = some (.iadd, 1458, 0, 0, .null) := by decide +kernel
theorem x_259_1457 : Tr sc d 259 (1457, [l0, l1, l2, l3], [.int i4, .int i3, .ref k2, .int i1, .ref k0], h) Q = Tr sc d 259 (1458, [l0, l1, l2, l3], [.int (i3 + i4), .ref k2, .int i1, .ref k0], h) Q := t_go k_259_1457 rfl
theorem k_259_1458 : lk 259 1458 = some (.iaload, 1459, 0, 0, .null) := by decide +kernel
theorem x_259_1458 : Tr sc d 259 (1458, [l0, l1, l2, l3], [.int i3, .ref k2, .int i1, .ref k0], h) Q = (iOk sc h k2 i3 ∧ Tr sc d 259 (1459, [l0, l1, l2, l3], [.int (iRd sc h k2 i3), .int i1, .ref k0], h) Q) := t_iald k_259_1458
theorem k_259_1459 : lk 259 1459 = some (.aload_n 0, 1460, 0, 0, .null) := by decide +kernel
theorem x_259_1459 : Tr sc d 259 (1459, [some (.ref xk), l1, l2, l3], [.int i2, .int i1, .ref k0], h) Q = Tr sc d 259 (1460, [some (.ref xk), l1, l2, l3], [.ref xk, .int i2, .int i1, .ref k0], h) Q := t_aload_n k_259_1459 rfl
theorem k_259_1460 : lk 259 1460 = some (.iload_n 3, 1461, 3, 0, .null) := by decide +kernel
theorem x_259_1460 : Tr sc d 259 (1460, [l0, l1, l2, some (.int x)], [.ref k3, .int i2, .int i1, .ref k0], h) Q = Tr sc d 259 (1461, [l0, l1, l2, some (.int x)], [.int x, .ref k3, .int i2, .int i1, .ref k0], h) Q := t_iload_n k_259_1460 rfl
theorem k_259_1461 : lk 259 1461 = some (.iconst 3, 1462, 0, 0, .int 3) := by decide +kernel
theorem x_259_1461 : Tr sc d 259 (1461, [l0, l1, l2, l3], [.int i4, .ref k3, .int i2, .int i1, .ref k0], h) Q = Tr sc d 259 (1462, [l0, l1, l2, l3], [.int 3, .int i4, .ref k3, .int i2, .int i1, .ref k0], h) Q := t_go k_259_1461 rfl
theorem k_259_1462 : lk 259 1462 = some (.iadd, 1463, 0, 0, .null) := by decide +kernel
theorem x_259_1462 : Tr sc d 259 (1462, [l0, l1, l2, l3], [.int i5, .int i4, .ref k3, .int i2, .int i1, .ref k0], h) Q = Tr sc d 259 (1463, [l0, l1, l2, l3], [.int (i4 + i5), .ref k3, .int i2, .int i1, .ref k0], h) Q := t_go k_259_1462 rfl
theorem k_259_1463 : lk 259 1463 = some (.iaload, 1464, 0, 0, .null) := by decide +kernel
theorem x_259_1463 : Tr sc d 259 (1463, [l0, l1, l2, l3], [.int i4, .ref k3, .int i2, .int i1, .ref k0], h) Q = (iOk sc h k3 i4 ∧ Tr sc d 259 (1464, [l0, l1, l2, l3], [.int (iRd sc h k3 i4), .int i2, .int i1, .ref k0], h) Q) := t_iald k_259_1463
theorem k_259_1464 : lk 259 1464 = some (.aload_n 0, 1465, 0, 0, .null) := by decide +kernel
theorem x_259_1464 : Tr sc d 259 (1464, [some (.ref xk), l1, l2, l3], [.int i3, .int i2, .int i1, .ref k0], h) Q = Tr sc d 259 (1465, [some (.ref xk), l1, l2, l3], [.ref xk, .int i3, .int i2, .int i1, .ref k0], h) Q := t_aload_n k_259_1464 rfl
theorem k_259_1465 : lk 259 1465 = some (.iload_n 3, 1466, 3, 0, .null) := by decide +kernel
theorem x_259_1465 : Tr sc d 259 (1465, [l0, l1, l2, some (.int x)], [.ref k4, .int i3, .int i2, .int i1, .ref k0], h) Q = Tr sc d 259 (1466, [l0, l1, l2, some (.int x)], [.int x, .ref k4, .int i3, .int i2, .int i1, .ref k0], h) Q := t_iload_n k_259_1465 rfl
theorem k_259_1466 : lk 259 1466 = some (.iconst 4, 1467, 0, 0, .int 4) := by decide +kernel
theorem x_259_1466 : Tr sc d 259 (1466, [l0, l1, l2, l3], [.int i5, .ref k4, .int i3, .int i2, .int i1, .ref k0], h) Q = Tr sc d 259 (1467, [l0, l1, l2, l3], [.int 4, .int i5, .ref k4, .int i3, .int i2, .int i1, .ref k0], h) Q := t_go k_259_1466 rfl
theorem k_259_1467 : lk 259 1467 = some (.iadd, 1468, 0, 0, .null) := by decide +kernel
theorem x_259_1467 : Tr sc d 259 (1467, [l0, l1, l2, l3], [.int i6, .int i5, .ref k4, .int i3, .int i2, .int i1, .ref k0], h) Q = Tr sc d 259 (1468, [l0, l1, l2, l3], [.int (i5 + i6), .ref k4, .int i3, .int i2, .int i1, .ref k0], h) Q := t_go k_259_1467 rfl
theorem k_259_1468 : lk 259 1468 = some (.iaload, 1469, 0, 0, .null) := by decide +kernel
theorem x_259_1468 : Tr sc d 259 (1468, [l0, l1, l2, l3], [.int i5, .ref k4, .int i3, .int i2, .int i1, .ref k0], h) Q = (iOk sc h k4 i5 ∧ Tr sc d 259 (1469, [l0, l1, l2, l3], [.int (iRd sc h k4 i5), .int i3, .int i2, .int i1, .ref k0], h) Q) := t_iald k_259_1468
theorem k_259_1469 : lk 259 1469 = some (.invokevirtual 149, 1472, 129, 4, .null) := by decide +kernel
theorem x_259_1469 : Tr sc (d + 1) 259 (1469, [l0, l1, l2, l3], [.int i4, .int i3, .int i2, .int i1, .ref k0], h) Q = (okp h k0 9 = true ∧ Tr sc d 129 (ent0 129 [.ref k0, .int i1, .int i2, .int i3, .int i4] h) (fun z => Tr sc (d + 1) 259 (1472, [l0, l1, l2, l3], z.1.toList ++ [], z.2) Q)) := t_cv (as := [.int i1, .int i2, .int i3, .int i4]) (r := []) k_259_1469 rfl rfl (Nat.le_of_ble_eq_true rfl) (Nat.le_of_ble_eq_true rfl) (Nat.le_of_ble_eq_true rfl)
theorem k_259_1472 : lk 259 1472 = some (.aload_n 2, 1473, 2, 0, .null) := by decide +kernel
theorem x_259_1472 : Tr sc d 259 (1472, [l0, l1, some (.ref xk), l3], [.int i0], h) Q = Tr sc d 259 (1473, [l0, l1, some (.ref xk), l3], [.ref xk, .int i0], h) Q := t_aload_n k_259_1472 rfl
theorem k_259_1473 : lk 259 1473 = some (.aload_n 0, 1474, 0, 0, .null) := by decide +kernel
theorem x_259_1473 : Tr sc d 259 (1473, [some (.ref xk), l1, l2, l3], [.ref k1, .int i0], h) Q = Tr sc d 259 (1474, [some (.ref xk), l1, l2, l3], [.ref xk, .ref k1, .int i0], h) Q := t_aload_n k_259_1473 rfl
theorem k_259_1474 : lk 259 1474 = some (.iload_n 3, 1475, 3, 0, .null) := by decide +kernel
theorem x_259_1474 : Tr sc d 259 (1474, [l0, l1, l2, some (.int x)], [.ref k2, .ref k1, .int i0], h) Q = Tr sc d 259 (1475, [l0, l1, l2, some (.int x)], [.int x, .ref k2, .ref k1, .int i0], h) Q := t_iload_n k_259_1474 rfl
theorem k_259_1475 : lk 259 1475 = some (.iconst 1, 1476, 0, 0, .int 1) := by decide +kernel
theorem x_259_1475 : Tr sc d 259 (1475, [l0, l1, l2, l3], [.int i3, .ref k2, .ref k1, .int i0], h) Q = Tr sc d 259 (1476, [l0, l1, l2, l3], [.int 1, .int i3, .ref k2, .ref k1, .int i0], h) Q := t_go k_259_1475 rfl
theorem k_259_1476 : lk 259 1476 = some (.iadd, 1477, 0, 0, .null) := by decide +kernel
theorem x_259_1476 : Tr sc d 259 (1476, [l0, l1, l2, l3], [.int i4, .int i3, .ref k2, .ref k1, .int i0], h) Q = Tr sc d 259 (1477, [l0, l1, l2, l3], [.int (i3 + i4), .ref k2, .ref k1, .int i0], h) Q := t_go k_259_1476 rfl
theorem k_259_1477 : lk 259 1477 = some (.iaload, 1478, 0, 0, .null) := by decide +kernel
theorem x_259_1477 : Tr sc d 259 (1477, [l0, l1, l2, l3], [.int i3, .ref k2, .ref k1, .int i0], h) Q = (iOk sc h k2 i3 ∧ Tr sc d 259 (1478, [l0, l1, l2, l3], [.int (iRd sc h k2 i3), .ref k1, .int i0], h) Q) := t_iald k_259_1477
theorem k_259_1478 : lk 259 1478 = some (.aload_n 0, 1479, 0, 0, .null) := by decide +kernel
theorem x_259_1478 : Tr sc d 259 (1478, [some (.ref xk), l1, l2, l3], [.int i2, .ref k1, .int i0], h) Q = Tr sc d 259 (1479, [some (.ref xk), l1, l2, l3], [.ref xk, .int i2, .ref k1, .int i0], h) Q := t_aload_n k_259_1478 rfl
theorem k_259_1479 : lk 259 1479 = some (.iload_n 3, 1480, 3, 0, .null) := by decide +kernel
theorem x_259_1479 : Tr sc d 259 (1479, [l0, l1, l2, some (.int x)], [.ref k3, .int i2, .ref k1, .int i0], h) Q = Tr sc d 259 (1480, [l0, l1, l2, some (.int x)], [.int x, .ref k3, .int i2, .ref k1, .int i0], h) Q := t_iload_n k_259_1479 rfl
theorem k_259_1480 : lk 259 1480 = some (.iconst 2, 1481, 0, 0, .int 2) := by decide +kernel
theorem x_259_1480 : Tr sc d 259 (1480, [l0, l1, l2, l3], [.int i4, .ref k3, .int i2, .ref k1, .int i0], h) Q = Tr sc d 259 (1481, [l0, l1, l2, l3], [.int 2, .int i4, .ref k3, .int i2, .ref k1, .int i0], h) Q := t_go k_259_1480 rfl
theorem k_259_1481 : lk 259 1481 = some (.iadd, 1482, 0, 0, .null) := by decide +kernel
theorem x_259_1481 : Tr sc d 259 (1481, [l0, l1, l2, l3], [.int i5, .int i4, .ref k3, .int i2, .ref k1, .int i0], h) Q = Tr sc d 259 (1482, [l0, l1, l2, l3], [.int (i4 + i5), .ref k3, .int i2, .ref k1, .int i0], h) Q := t_go k_259_1481 rfl
theorem k_259_1482 : lk 259 1482 = some (.iaload, 1483, 0, 0, .null) := by decide +kernel
theorem x_259_1482 : Tr sc d 259 (1482, [l0, l1, l2, l3], [.int i4, .ref k3, .int i2, .ref k1, .int i0], h) Q = (iOk sc h k3 i4 ∧ Tr sc d 259 (1483, [l0, l1, l2, l3], [.int (iRd sc h k3 i4), .int i2, .ref k1, .int i0], h) Q) := t_iald k_259_1482
theorem k_259_1483 : lk 259 1483 = some (.aload_n 0, 1484, 0, 0, .null) := by decide +kernel
theorem x_259_1483 : Tr sc d 259 (1483, [some (.ref xk), l1, l2, l3], [.int i3, .int i2, .ref k1, .int i0], h) Q = Tr sc d 259 (1484, [some (.ref xk), l1, l2, l3], [.ref xk, .int i3, .int i2, .ref k1, .int i0], h) Q := t_aload_n k_259_1483 rfl
theorem k_259_1484 : lk 259 1484 = some (.iload_n 3, 1485, 3, 0, .null) := by decide +kernel
theorem x_259_1484 : Tr sc d 259 (1484, [l0, l1, l2, some (.int x)], [.ref k4, .int i3, .int i2, .ref k1, .int i0], h) Q = Tr sc d 259 (1485, [l0, l1, l2, some (.int x)], [.int x, .ref k4, .int i3, .int i2, .ref k1, .int i0], h) Q := t_iload_n k_259_1484 rfl
theorem k_259_1485 : lk 259 1485 = some (.iconst 3, 1486, 0, 0, .int 3) := by decide +kernel
theorem x_259_1485 : Tr sc d 259 (1485, [l0, l1, l2, l3], [.int i5, .ref k4, .int i3, .int i2, .ref k1, .int i0], h) Q = Tr sc d 259 (1486, [l0, l1, l2, l3], [.int 3, .int i5, .ref k4, .int i3, .int i2, .ref k1, .int i0], h) Q := t_go k_259_1485 rfl
theorem k_259_1486 : lk 259 1486 = some (.iadd, 1487, 0, 0, .null) := by decide +kernel
theorem x_259_1486 : Tr sc d 259 (1486, [l0, l1, l2, l3], [.int i6, .int i5, .ref k4, .int i3, .int i2, .ref k1, .int i0], h) Q = Tr sc d 259 (1487, [l0, l1, l2, l3], [.int (i5 + i6), .ref k4, .int i3, .int i2, .ref k1, .int i0], h) Q := t_go k_259_1486 rfl
theorem k_259_1487 : lk 259 1487 = some (.iaload, 1488, 0, 0, .null) := by decide +kernel
theorem x_259_1487 : Tr sc d 259 (1487, [l0, l1, l2, l3], [.int i5, .ref k4, .int i3, .int i2, .ref k1, .int i0], h) Q = (iOk sc h k4 i5 ∧ Tr sc d 259 (1488, [l0, l1, l2, l3], [.int (iRd sc h k4 i5), .int i3, .int i2, .ref k1, .int i0], h) Q) := t_iald k_259_1487
theorem k_259_1488 : lk 259 1488 = some (.aload_n 0, 1489, 0, 0, .null) := by decide +kernel
theorem x_259_1488 : Tr sc d 259 (1488, [some (.ref xk), l1, l2, l3], [.int i4, .int i3, .int i2, .ref k1, .int i0], h) Q = Tr sc d 259 (1489, [some (.ref xk), l1, l2, l3], [.ref xk, .int i4, .int i3, .int i2, .ref k1, .int i0], h) Q := t_aload_n k_259_1488 rfl
theorem k_259_1489 : lk 259 1489 = some (.iload_n 3, 1490, 3, 0, .null) := by decide +kernel
theorem x_259_1489 : Tr sc d 259 (1489, [l0, l1, l2, some (.int x)], [.ref k5, .int i4, .int i3, .int i2, .ref k1, .int i0], h) Q = Tr sc d 259 (1490, [l0, l1, l2, some (.int x)], [.int x, .ref k5, .int i4, .int i3, .int i2, .ref k1, .int i0], h) Q := t_iload_n k_259_1489 rfl
theorem k_259_1490 : lk 259 1490 = some (.iconst 4, 1491, 0, 0, .int 4) := by decide +kernel
theorem x_259_1490 : Tr sc d 259 (1490, [l0, l1, l2, l3], [.int i6, .ref k5, .int i4, .int i3, .int i2, .ref k1, .int i0], h) Q = Tr sc d 259 (1491, [l0, l1, l2, l3], [.int 4, .int i6, .ref k5, .int i4, .int i3, .int i2, .ref k1, .int i0], h) Q := t_go k_259_1490 rfl
theorem k_259_1491 : lk 259 1491 = some (.iadd, 1492, 0, 0, .null) := by decide +kernel
theorem x_259_1491 : Tr sc d 259 (1491, [l0, l1, l2, l3], [.int i7, .int i6, .ref k5, .int i4, .int i3, .int i2, .ref k1, .int i0], h) Q = Tr sc d 259 (1492, [l0, l1, l2, l3], [.int (i6 + i7), .ref k5, .int i4, .int i3, .int i2, .ref k1, .int i0], h) Q := t_go k_259_1491 rfl
theorem k_259_1492 : lk 259 1492 = some (.iaload, 1493, 0, 0, .null) := by decide +kernel
theorem x_259_1492 : Tr sc d 259 (1492, [l0, l1, l2, l3], [.int i6, .ref k5, .int i4, .int i3, .int i2, .ref k1, .int i0], h) Q = (iOk sc h k5 i6 ∧ Tr sc d 259 (1493, [l0, l1, l2, l3], [.int (iRd sc h k5 i6), .int i4, .int i3, .int i2, .ref k1, .int i0], h) Q) := t_iald k_259_1492
theorem k_259_1493 : lk 259 1493 = some (.invokevirtual 152, 1496, 237, 4, .null) := by decide +kernel
theorem x_259_1493 : Tr sc (d + 1) 259 (1493, [l0, l1, l2, l3], [.int i5, .int i4, .int i3, .int i2, .ref k1, .int i0], h) Q = (okp h k1 10 = true ∧ Tr sc d 237 (ent0 237 [.ref k1, .int i2, .int i3, .int i4, .int i5] h) (fun z => Tr sc (d + 1) 259 (1496, [l0, l1, l2, l3], z.1.toList ++ [.int i0], z.2) Q)) := t_cv (as := [.int i2, .int i3, .int i4, .int i5]) (r := [.int i0]) k_259_1493 rfl rfl (Nat.le_of_ble_eq_true rfl) (Nat.le_of_ble_eq_true rfl) (Nat.le_of_ble_eq_true rfl)
theorem k_259_1496 : lk 259 1496 = some (.if_icmp .eq 252, 1499, 1748, 0, .null) := by decide +kernel
theorem x_259_1496 : Tr sc d 259 (1496, [l0, l1, l2, l3], [.int i1, .int i0], h) Q = if i0 = i1 then Tr sc d 259 (1748, [l0, l1, l2, l3], [], h) Q else Tr sc d 259 (1499, [l0, l1, l2, l3], [], h) Q := t_if k_259_1496 rfl
theorem k_259_1499 : lk 259 1499 = some (.iconst 0, 1500, 0, 0, .int 0) := by decide +kernel
theorem x_259_1499 : Tr sc d 259 (1499, [l0, l1, l2, l3], [], h) Q = Tr sc d 259 (1500, [l0, l1, l2, l3], [.int 0], h) Q := t_go k_259_1499 rfl
theorem k_259_1500 : lk 259 1500 = some (.ireturn, 1501, 0, 0, .null) := by decide +kernel
theorem x_259_1500 : Tr sc d 259 (1500, [l0, l1, l2, l3], [.int i0], h) Q = (vp_nar .boolean i0 = i0 ∧ Q (some (.int i0), h)) := t_zret k_259_1500 r_259
theorem k_259_1501 : lk 259 1501 = some (.aload_n 1, 1502, 1, 0, .null) := by decide +kernel
theorem x_259_1501 : Tr sc d 259 (1501, [l0, some (.ref xk), l2, l3], [], h) Q = Tr sc d 259 (1502, [l0, some (.ref xk), l2, l3], [.ref xk], h) Q := t_aload_n k_259_1501 rfl
theorem k_259_1502 : lk 259 1502 = some (.aload_n 0, 1503, 0, 0, .null) := by decide +kernel
theorem x_259_1502 : Tr sc d 259 (1502, [some (.ref xk), l1, l2, l3], [.ref k0], h) Q = Tr sc d 259 (1503, [some (.ref xk), l1, l2, l3], [.ref xk, .ref k0], h) Q := t_aload_n k_259_1502 rfl
theorem k_259_1503 : lk 259 1503 = some (.iload_n 3, 1504, 3, 0, .null) := by decide +kernel
theorem x_259_1503 : Tr sc d 259 (1503, [l0, l1, l2, some (.int x)], [.ref k1, .ref k0], h) Q = Tr sc d 259 (1504, [l0, l1, l2, some (.int x)], [.int x, .ref k1, .ref k0], h) Q := t_iload_n k_259_1503 rfl
theorem k_259_1504 : lk 259 1504 = some (.iconst 1, 1505, 0, 0, .int 1) := by decide +kernel
theorem x_259_1504 : Tr sc d 259 (1504, [l0, l1, l2, l3], [.int i2, .ref k1, .ref k0], h) Q = Tr sc d 259 (1505, [l0, l1, l2, l3], [.int 1, .int i2, .ref k1, .ref k0], h) Q := t_go k_259_1504 rfl
theorem k_259_1505 : lk 259 1505 = some (.iadd, 1506, 0, 0, .null) := by decide +kernel
theorem x_259_1505 : Tr sc d 259 (1505, [l0, l1, l2, l3], [.int i3, .int i2, .ref k1, .ref k0], h) Q = Tr sc d 259 (1506, [l0, l1, l2, l3], [.int (i2 + i3), .ref k1, .ref k0], h) Q := t_go k_259_1505 rfl
theorem k_259_1506 : lk 259 1506 = some (.iaload, 1507, 0, 0, .null) := by decide +kernel
theorem x_259_1506 : Tr sc d 259 (1506, [l0, l1, l2, l3], [.int i2, .ref k1, .ref k0], h) Q = (iOk sc h k1 i2 ∧ Tr sc d 259 (1507, [l0, l1, l2, l3], [.int (iRd sc h k1 i2), .ref k0], h) Q) := t_iald k_259_1506
theorem k_259_1507 : lk 259 1507 = some (.aload_n 0, 1508, 0, 0, .null) := by decide +kernel
theorem x_259_1507 : Tr sc d 259 (1507, [some (.ref xk), l1, l2, l3], [.int i1, .ref k0], h) Q = Tr sc d 259 (1508, [some (.ref xk), l1, l2, l3], [.ref xk, .int i1, .ref k0], h) Q := t_aload_n k_259_1507 rfl
theorem k_259_1508 : lk 259 1508 = some (.iload_n 3, 1509, 3, 0, .null) := by decide +kernel
theorem x_259_1508 : Tr sc d 259 (1508, [l0, l1, l2, some (.int x)], [.ref k2, .int i1, .ref k0], h) Q = Tr sc d 259 (1509, [l0, l1, l2, some (.int x)], [.int x, .ref k2, .int i1, .ref k0], h) Q := t_iload_n k_259_1508 rfl
theorem k_259_1509 : lk 259 1509 = some (.iconst 2, 1510, 0, 0, .int 2) := by decide +kernel
theorem x_259_1509 : Tr sc d 259 (1509, [l0, l1, l2, l3], [.int i3, .ref k2, .int i1, .ref k0], h) Q = Tr sc d 259 (1510, [l0, l1, l2, l3], [.int 2, .int i3, .ref k2, .int i1, .ref k0], h) Q := t_go k_259_1509 rfl
theorem k_259_1510 : lk 259 1510 = some (.iadd, 1511, 0, 0, .null) := by decide +kernel
theorem x_259_1510 : Tr sc d 259 (1510, [l0, l1, l2, l3], [.int i4, .int i3, .ref k2, .int i1, .ref k0], h) Q = Tr sc d 259 (1511, [l0, l1, l2, l3], [.int (i3 + i4), .ref k2, .int i1, .ref k0], h) Q := t_go k_259_1510 rfl
theorem k_259_1511 : lk 259 1511 = some (.iaload, 1512, 0, 0, .null) := by decide +kernel
theorem x_259_1511 : Tr sc d 259 (1511, [l0, l1, l2, l3], [.int i3, .ref k2, .int i1, .ref k0], h) Q = (iOk sc h k2 i3 ∧ Tr sc d 259 (1512, [l0, l1, l2, l3], [.int (iRd sc h k2 i3), .int i1, .ref k0], h) Q) := t_iald k_259_1511
theorem k_259_1512 : lk 259 1512 = some (.invokevirtual 153, 1515, 130, 2, .null) := by decide +kernel
theorem x_259_1512 : Tr sc (d + 1) 259 (1512, [l0, l1, l2, l3], [.int i2, .int i1, .ref k0], h) Q = (okp h k0 9 = true ∧ Tr sc d 130 (ent0 130 [.ref k0, .int i1, .int i2] h) (fun z => Tr sc (d + 1) 259 (1515, [l0, l1, l2, l3], z.1.toList ++ [], z.2) Q)) := t_cv (as := [.int i1, .int i2]) (r := []) k_259_1512 rfl rfl (Nat.le_of_ble_eq_true rfl) (Nat.le_of_ble_eq_true rfl) (Nat.le_of_ble_eq_true rfl)
theorem k_259_1515 : lk 259 1515 = some (.aload_n 2, 1516, 2, 0, .null) := by decide +kernel
theorem x_259_1515 : Tr sc d 259 (1515, [l0, l1, some (.ref xk), l3], [.int i0], h) Q = Tr sc d 259 (1516, [l0, l1, some (.ref xk), l3], [.ref xk, .int i0], h) Q := t_aload_n k_259_1515 rfl
theorem k_259_1516 : lk 259 1516 = some (.aload_n 0, 1517, 0, 0, .null) := by decide +kernel
theorem x_259_1516 : Tr sc d 259 (1516, [some (.ref xk), l1, l2, l3], [.ref k1, .int i0], h) Q = Tr sc d 259 (1517, [some (.ref xk), l1, l2, l3], [.ref xk, .ref k1, .int i0], h) Q := t_aload_n k_259_1516 rfl
theorem k_259_1517 : lk 259 1517 = some (.iload_n 3, 1518, 3, 0, .null) := by decide +kernel
theorem x_259_1517 : Tr sc d 259 (1517, [l0, l1, l2, some (.int x)], [.ref k2, .ref k1, .int i0], h) Q = Tr sc d 259 (1518, [l0, l1, l2, some (.int x)], [.int x, .ref k2, .ref k1, .int i0], h) Q := t_iload_n k_259_1517 rfl
theorem k_259_1518 : lk 259 1518 = some (.iconst 1, 1519, 0, 0, .int 1) := by decide +kernel
theorem x_259_1518 : Tr sc d 259 (1518, [l0, l1, l2, l3], [.int i3, .ref k2, .ref k1, .int i0], h) Q = Tr sc d 259 (1519, [l0, l1, l2, l3], [.int 1, .int i3, .ref k2, .ref k1, .int i0], h) Q := t_go k_259_1518 rfl
theorem k_259_1519 : lk 259 1519 = some (.iadd, 1520, 0, 0, .null) := by decide +kernel
theorem x_259_1519 : Tr sc d 259 (1519, [l0, l1, l2, l3], [.int i4, .int i3, .ref k2, .ref k1, .int i0], h) Q = Tr sc d 259 (1520, [l0, l1, l2, l3], [.int (i3 + i4), .ref k2, .ref k1, .int i0], h) Q := t_go k_259_1519 rfl
theorem k_259_1520 : lk 259 1520 = some (.iaload, 1521, 0, 0, .null) := by decide +kernel
theorem x_259_1520 : Tr sc d 259 (1520, [l0, l1, l2, l3], [.int i3, .ref k2, .ref k1, .int i0], h) Q = (iOk sc h k2 i3 ∧ Tr sc d 259 (1521, [l0, l1, l2, l3], [.int (iRd sc h k2 i3), .ref k1, .int i0], h) Q) := t_iald k_259_1520
theorem k_259_1521 : lk 259 1521 = some (.aload_n 0, 1522, 0, 0, .null) := by decide +kernel
theorem x_259_1521 : Tr sc d 259 (1521, [some (.ref xk), l1, l2, l3], [.int i2, .ref k1, .int i0], h) Q = Tr sc d 259 (1522, [some (.ref xk), l1, l2, l3], [.ref xk, .int i2, .ref k1, .int i0], h) Q := t_aload_n k_259_1521 rfl
theorem k_259_1522 : lk 259 1522 = some (.iload_n 3, 1523, 3, 0, .null) := by decide +kernel
theorem x_259_1522 : Tr sc d 259 (1522, [l0, l1, l2, some (.int x)], [.ref k3, .int i2, .ref k1, .int i0], h) Q = Tr sc d 259 (1523, [l0, l1, l2, some (.int x)], [.int x, .ref k3, .int i2, .ref k1, .int i0], h) Q := t_iload_n k_259_1522 rfl
theorem k_259_1523 : lk 259 1523 = some (.iconst 2, 1524, 0, 0, .int 2) := by decide +kernel
theorem x_259_1523 : Tr sc d 259 (1523, [l0, l1, l2, l3], [.int i4, .ref k3, .int i2, .ref k1, .int i0], h) Q = Tr sc d 259 (1524, [l0, l1, l2, l3], [.int 2, .int i4, .ref k3, .int i2, .ref k1, .int i0], h) Q := t_go k_259_1523 rfl
theorem k_259_1524 : lk 259 1524 = some (.iadd, 1525, 0, 0, .null) := by decide +kernel
theorem x_259_1524 : Tr sc d 259 (1524, [l0, l1, l2, l3], [.int i5, .int i4, .ref k3, .int i2, .ref k1, .int i0], h) Q = Tr sc d 259 (1525, [l0, l1, l2, l3], [.int (i4 + i5), .ref k3, .int i2, .ref k1, .int i0], h) Q := t_go k_259_1524 rfl
theorem k_259_1525 : lk 259 1525 = some (.iaload, 1526, 0, 0, .null) := by decide +kernel
theorem x_259_1525 : Tr sc d 259 (1525, [l0, l1, l2, l3], [.int i4, .ref k3, .int i2, .ref k1, .int i0], h) Q = (iOk sc h k3 i4 ∧ Tr sc d 259 (1526, [l0, l1, l2, l3], [.int (iRd sc h k3 i4), .int i2, .ref k1, .int i0], h) Q) := t_iald k_259_1525
theorem k_259_1526 : lk 259 1526 = some (.invokevirtual 156, 1529, 238, 2, .null) := by decide +kernel
theorem x_259_1526 : Tr sc (d + 1) 259 (1526, [l0, l1, l2, l3], [.int i3, .int i2, .ref k1, .int i0], h) Q = (okp h k1 10 = true ∧ Tr sc d 238 (ent0 238 [.ref k1, .int i2, .int i3] h) (fun z => Tr sc (d + 1) 259 (1529, [l0, l1, l2, l3], z.1.toList ++ [.int i0], z.2) Q)) := t_cv (as := [.int i2, .int i3]) (r := [.int i0]) k_259_1526 rfl rfl (Nat.le_of_ble_eq_true rfl) (Nat.le_of_ble_eq_true rfl) (Nat.le_of_ble_eq_true rfl)
theorem k_259_1529 : lk 259 1529 = some (.if_icmp .eq 219, 1532, 1748, 0, .null) := by decide +kernel
theorem x_259_1529 : Tr sc d 259 (1529, [l0, l1, l2, l3], [.int i1, .int i0], h) Q = if i0 = i1 then Tr sc d 259 (1748, [l0, l1, l2, l3], [], h) Q else Tr sc d 259 (1532, [l0, l1, l2, l3], [], h) Q := t_if k_259_1529 rfl
theorem k_259_1532 : lk 259 1532 = some (.iconst 0, 1533, 0, 0, .int 0) := by decide +kernel
theorem x_259_1532 : Tr sc d 259 (1532, [l0, l1, l2, l3], [], h) Q = Tr sc d 259 (1533, [l0, l1, l2, l3], [.int 0], h) Q := t_go k_259_1532 rfl
theorem k_259_1533 : lk 259 1533 = some (.ireturn, 1534, 0, 0, .null) := by decide +kernel
theorem x_259_1533 : Tr sc d 259 (1533, [l0, l1, l2, l3], [.int i0], h) Q = (vp_nar .boolean i0 = i0 ∧ Q (some (.int i0), h)) := t_zret k_259_1533 r_259
theorem k_259_1534 : lk 259 1534 = some (.aload_n 1, 1535, 1, 0, .null) := by decide +kernel
theorem x_259_1534 : Tr sc d 259 (1534, [l0, some (.ref xk), l2, l3], [], h) Q = Tr sc d 259 (1535, [l0, some (.ref xk), l2, l3], [.ref xk], h) Q := t_aload_n k_259_1534 rfl
theorem k_259_1535 : lk 259 1535 = some (.aload_n 0, 1536, 0, 0, .null) := by decide +kernel
theorem x_259_1535 : Tr sc d 259 (1535, [some (.ref xk), l1, l2, l3], [.ref k0], h) Q = Tr sc d 259 (1536, [some (.ref xk), l1, l2, l3], [.ref xk, .ref k0], h) Q := t_aload_n k_259_1535 rfl
theorem k_259_1536 : lk 259 1536 = some (.iload_n 3, 1537, 3, 0, .null) := by decide +kernel
theorem x_259_1536 : Tr sc d 259 (1536, [l0, l1, l2, some (.int x)], [.ref k1, .ref k0], h) Q = Tr sc d 259 (1537, [l0, l1, l2, some (.int x)], [.int x, .ref k1, .ref k0], h) Q := t_iload_n k_259_1536 rfl
theorem k_259_1537 : lk 259 1537 = some (.iconst 1, 1538, 0, 0, .int 1) := by decide +kernel
theorem x_259_1537 : Tr sc d 259 (1537, [l0, l1, l2, l3], [.int i2, .ref k1, .ref k0], h) Q = Tr sc d 259 (1538, [l0, l1, l2, l3], [.int 1, .int i2, .ref k1, .ref k0], h) Q := t_go k_259_1537 rfl
theorem k_259_1538 : lk 259 1538 = some (.iadd, 1539, 0, 0, .null) := by decide +kernel
theorem x_259_1538 : Tr sc d 259 (1538, [l0, l1, l2, l3], [.int i3, .int i2, .ref k1, .ref k0], h) Q = Tr sc d 259 (1539, [l0, l1, l2, l3], [.int (i2 + i3), .ref k1, .ref k0], h) Q := t_go k_259_1538 rfl
theorem k_259_1539 : lk 259 1539 = some (.iaload, 1540, 0, 0, .null) := by decide +kernel
theorem x_259_1539 : Tr sc d 259 (1539, [l0, l1, l2, l3], [.int i2, .ref k1, .ref k0], h) Q = (iOk sc h k1 i2 ∧ Tr sc d 259 (1540, [l0, l1, l2, l3], [.int (iRd sc h k1 i2), .ref k0], h) Q) := t_iald k_259_1539
theorem k_259_1540 : lk 259 1540 = some (.aload_n 0, 1541, 0, 0, .null) := by decide +kernel
theorem x_259_1540 : Tr sc d 259 (1540, [some (.ref xk), l1, l2, l3], [.int i1, .ref k0], h) Q = Tr sc d 259 (1541, [some (.ref xk), l1, l2, l3], [.ref xk, .int i1, .ref k0], h) Q := t_aload_n k_259_1540 rfl
theorem k_259_1541 : lk 259 1541 = some (.iload_n 3, 1542, 3, 0, .null) := by decide +kernel
theorem x_259_1541 : Tr sc d 259 (1541, [l0, l1, l2, some (.int x)], [.ref k2, .int i1, .ref k0], h) Q = Tr sc d 259 (1542, [l0, l1, l2, some (.int x)], [.int x, .ref k2, .int i1, .ref k0], h) Q := t_iload_n k_259_1541 rfl
theorem k_259_1542 : lk 259 1542 = some (.iconst 2, 1543, 0, 0, .int 2) := by decide +kernel
theorem x_259_1542 : Tr sc d 259 (1542, [l0, l1, l2, l3], [.int i3, .ref k2, .int i1, .ref k0], h) Q = Tr sc d 259 (1543, [l0, l1, l2, l3], [.int 2, .int i3, .ref k2, .int i1, .ref k0], h) Q := t_go k_259_1542 rfl
theorem k_259_1543 : lk 259 1543 = some (.iadd, 1544, 0, 0, .null) := by decide +kernel
theorem x_259_1543 : Tr sc d 259 (1543, [l0, l1, l2, l3], [.int i4, .int i3, .ref k2, .int i1, .ref k0], h) Q = Tr sc d 259 (1544, [l0, l1, l2, l3], [.int (i3 + i4), .ref k2, .int i1, .ref k0], h) Q := t_go k_259_1543 rfl
theorem k_259_1544 : lk 259 1544 = some (.iaload, 1545, 0, 0, .null) := by decide +kernel
theorem x_259_1544 : Tr sc d 259 (1544, [l0, l1, l2, l3], [.int i3, .ref k2, .int i1, .ref k0], h) Q = (iOk sc h k2 i3 ∧ Tr sc d 259 (1545, [l0, l1, l2, l3], [.int (iRd sc h k2 i3), .int i1, .ref k0], h) Q) := t_iald k_259_1544
theorem k_259_1545 : lk 259 1545 = some (.aload_n 0, 1546, 0, 0, .null) := by decide +kernel
theorem x_259_1545 : Tr sc d 259 (1545, [some (.ref xk), l1, l2, l3], [.int i2, .int i1, .ref k0], h) Q = Tr sc d 259 (1546, [some (.ref xk), l1, l2, l3], [.ref xk, .int i2, .int i1, .ref k0], h) Q := t_aload_n k_259_1545 rfl
theorem k_259_1546 : lk 259 1546 = some (.iload_n 3, 1547, 3, 0, .null) := by decide +kernel
theorem x_259_1546 : Tr sc d 259 (1546, [l0, l1, l2, some (.int x)], [.ref k3, .int i2, .int i1, .ref k0], h) Q = Tr sc d 259 (1547, [l0, l1, l2, some (.int x)], [.int x, .ref k3, .int i2, .int i1, .ref k0], h) Q := t_iload_n k_259_1546 rfl
theorem k_259_1547 : lk 259 1547 = some (.iconst 3, 1548, 0, 0, .int 3) := by decide +kernel
theorem x_259_1547 : Tr sc d 259 (1547, [l0, l1, l2, l3], [.int i4, .ref k3, .int i2, .int i1, .ref k0], h) Q = Tr sc d 259 (1548, [l0, l1, l2, l3], [.int 3, .int i4, .ref k3, .int i2, .int i1, .ref k0], h) Q := t_go k_259_1547 rfl
theorem k_259_1548 : lk 259 1548 = some (.iadd, 1549, 0, 0, .null) := by decide +kernel
theorem x_259_1548 : Tr sc d 259 (1548, [l0, l1, l2, l3], [.int i5, .int i4, .ref k3, .int i2, .int i1, .ref k0], h) Q = Tr sc d 259 (1549, [l0, l1, l2, l3], [.int (i4 + i5), .ref k3, .int i2, .int i1, .ref k0], h) Q := t_go k_259_1548 rfl
theorem k_259_1549 : lk 259 1549 = some (.iaload, 1550, 0, 0, .null) := by decide +kernel
theorem x_259_1549 : Tr sc d 259 (1549, [l0, l1, l2, l3], [.int i4, .ref k3, .int i2, .int i1, .ref k0], h) Q = (iOk sc h k3 i4 ∧ Tr sc d 259 (1550, [l0, l1, l2, l3], [.int (iRd sc h k3 i4), .int i2, .int i1, .ref k0], h) Q) := t_iald k_259_1549
theorem k_259_1550 : lk 259 1550 = some (.invokevirtual 157, 1553, 131, 3, .null) := by decide +kernel
theorem x_259_1550 : Tr sc (d + 1) 259 (1550, [l0, l1, l2, l3], [.int i3, .int i2, .int i1, .ref k0], h) Q = (okp h k0 9 = true ∧ Tr sc d 131 (ent0 131 [.ref k0, .int i1, .int i2, .int i3] h) (fun z => Tr sc (d + 1) 259 (1553, [l0, l1, l2, l3], z.1.toList ++ [], z.2) Q)) := t_cv (as := [.int i1, .int i2, .int i3]) (r := []) k_259_1550 rfl rfl (Nat.le_of_ble_eq_true rfl) (Nat.le_of_ble_eq_true rfl) (Nat.le_of_ble_eq_true rfl)
theorem k_259_1553 : lk 259 1553 = some (.aload_n 2, 1554, 2, 0, .null) := by decide +kernel
theorem x_259_1553 : Tr sc d 259 (1553, [l0, l1, some (.ref xk), l3], [.int i0], h) Q = Tr sc d 259 (1554, [l0, l1, some (.ref xk), l3], [.ref xk, .int i0], h) Q := t_aload_n k_259_1553 rfl
theorem k_259_1554 : lk 259 1554 = some (.aload_n 0, 1555, 0, 0, .null) := by decide +kernel
theorem x_259_1554 : Tr sc d 259 (1554, [some (.ref xk), l1, l2, l3], [.ref k1, .int i0], h) Q = Tr sc d 259 (1555, [some (.ref xk), l1, l2, l3], [.ref xk, .ref k1, .int i0], h) Q := t_aload_n k_259_1554 rfl
theorem k_259_1555 : lk 259 1555 = some (.iload_n 3, 1556, 3, 0, .null) := by decide +kernel
theorem x_259_1555 : Tr sc d 259 (1555, [l0, l1, l2, some (.int x)], [.ref k2, .ref k1, .int i0], h) Q = Tr sc d 259 (1556, [l0, l1, l2, some (.int x)], [.int x, .ref k2, .ref k1, .int i0], h) Q := t_iload_n k_259_1555 rfl
theorem k_259_1556 : lk 259 1556 = some (.iconst 1, 1557, 0, 0, .int 1) := by decide +kernel
theorem x_259_1556 : Tr sc d 259 (1556, [l0, l1, l2, l3], [.int i3, .ref k2, .ref k1, .int i0], h) Q = Tr sc d 259 (1557, [l0, l1, l2, l3], [.int 1, .int i3, .ref k2, .ref k1, .int i0], h) Q := t_go k_259_1556 rfl
theorem k_259_1557 : lk 259 1557 = some (.iadd, 1558, 0, 0, .null) := by decide +kernel
theorem x_259_1557 : Tr sc d 259 (1557, [l0, l1, l2, l3], [.int i4, .int i3, .ref k2, .ref k1, .int i0], h) Q = Tr sc d 259 (1558, [l0, l1, l2, l3], [.int (i3 + i4), .ref k2, .ref k1, .int i0], h) Q := t_go k_259_1557 rfl
theorem k_259_1558 : lk 259 1558 = some (.iaload, 1559, 0, 0, .null) := by decide +kernel
theorem x_259_1558 : Tr sc d 259 (1558, [l0, l1, l2, l3], [.int i3, .ref k2, .ref k1, .int i0], h) Q = (iOk sc h k2 i3 ∧ Tr sc d 259 (1559, [l0, l1, l2, l3], [.int (iRd sc h k2 i3), .ref k1, .int i0], h) Q) := t_iald k_259_1558
theorem k_259_1559 : lk 259 1559 = some (.aload_n 0, 1560, 0, 0, .null) := by decide +kernel
theorem x_259_1559 : Tr sc d 259 (1559, [some (.ref xk), l1, l2, l3], [.int i2, .ref k1, .int i0], h) Q = Tr sc d 259 (1560, [some (.ref xk), l1, l2, l3], [.ref xk, .int i2, .ref k1, .int i0], h) Q := t_aload_n k_259_1559 rfl
theorem k_259_1560 : lk 259 1560 = some (.iload_n 3, 1561, 3, 0, .null) := by decide +kernel
theorem x_259_1560 : Tr sc d 259 (1560, [l0, l1, l2, some (.int x)], [.ref k3, .int i2, .ref k1, .int i0], h) Q = Tr sc d 259 (1561, [l0, l1, l2, some (.int x)], [.int x, .ref k3, .int i2, .ref k1, .int i0], h) Q := t_iload_n k_259_1560 rfl
theorem k_259_1561 : lk 259 1561 = some (.iconst 2, 1562, 0, 0, .int 2) := by decide +kernel
theorem x_259_1561 : Tr sc d 259 (1561, [l0, l1, l2, l3], [.int i4, .ref k3, .int i2, .ref k1, .int i0], h) Q = Tr sc d 259 (1562, [l0, l1, l2, l3], [.int 2, .int i4, .ref k3, .int i2, .ref k1, .int i0], h) Q := t_go k_259_1561 rfl
theorem k_259_1562 : lk 259 1562 = some (.iadd, 1563, 0, 0, .null) := by decide +kernel
theorem x_259_1562 : Tr sc d 259 (1562, [l0, l1, l2, l3], [.int i5, .int i4, .ref k3, .int i2, .ref k1, .int i0], h) Q = Tr sc d 259 (1563, [l0, l1, l2, l3], [.int (i4 + i5), .ref k3, .int i2, .ref k1, .int i0], h) Q := t_go k_259_1562 rfl
theorem k_259_1563 : lk 259 1563 = some (.iaload, 1564, 0, 0, .null) := by decide +kernel
theorem x_259_1563 : Tr sc d 259 (1563, [l0, l1, l2, l3], [.int i4, .ref k3, .int i2, .ref k1, .int i0], h) Q = (iOk sc h k3 i4 ∧ Tr sc d 259 (1564, [l0, l1, l2, l3], [.int (iRd sc h k3 i4), .int i2, .ref k1, .int i0], h) Q) := t_iald k_259_1563
theorem k_259_1564 : lk 259 1564 = some (.aload_n 0, 1565, 0, 0, .null) := by decide +kernel
theorem x_259_1564 : Tr sc d 259 (1564, [some (.ref xk), l1, l2, l3], [.int i3, .int i2, .ref k1, .int i0], h) Q = Tr sc d 259 (1565, [some (.ref xk), l1, l2, l3], [.ref xk, .int i3, .int i2, .ref k1, .int i0], h) Q := t_aload_n k_259_1564 rfl
theorem k_259_1565 : lk 259 1565 = some (.iload_n 3, 1566, 3, 0, .null) := by decide +kernel
theorem x_259_1565 : Tr sc d 259 (1565, [l0, l1, l2, some (.int x)], [.ref k4, .int i3, .int i2, .ref k1, .int i0], h) Q = Tr sc d 259 (1566, [l0, l1, l2, some (.int x)], [.int x, .ref k4, .int i3, .int i2, .ref k1, .int i0], h) Q := t_iload_n k_259_1565 rfl
theorem k_259_1566 : lk 259 1566 = some (.iconst 3, 1567, 0, 0, .int 3) := by decide +kernel
theorem x_259_1566 : Tr sc d 259 (1566, [l0, l1, l2, l3], [.int i5, .ref k4, .int i3, .int i2, .ref k1, .int i0], h) Q = Tr sc d 259 (1567, [l0, l1, l2, l3], [.int 3, .int i5, .ref k4, .int i3, .int i2, .ref k1, .int i0], h) Q := t_go k_259_1566 rfl
theorem k_259_1567 : lk 259 1567 = some (.iadd, 1568, 0, 0, .null) := by decide +kernel
theorem x_259_1567 : Tr sc d 259 (1567, [l0, l1, l2, l3], [.int i6, .int i5, .ref k4, .int i3, .int i2, .ref k1, .int i0], h) Q = Tr sc d 259 (1568, [l0, l1, l2, l3], [.int (i5 + i6), .ref k4, .int i3, .int i2, .ref k1, .int i0], h) Q := t_go k_259_1567 rfl
theorem k_259_1568 : lk 259 1568 = some (.iaload, 1569, 0, 0, .null) := by decide +kernel
theorem x_259_1568 : Tr sc d 259 (1568, [l0, l1, l2, l3], [.int i5, .ref k4, .int i3, .int i2, .ref k1, .int i0], h) Q = (iOk sc h k4 i5 ∧ Tr sc d 259 (1569, [l0, l1, l2, l3], [.int (iRd sc h k4 i5), .int i3, .int i2, .ref k1, .int i0], h) Q) := t_iald k_259_1568
theorem k_259_1569 : lk 259 1569 = some (.invokevirtual 160, 1572, 240, 3, .null) := by decide +kernel
theorem x_259_1569 : Tr sc (d + 1) 259 (1569, [l0, l1, l2, l3], [.int i4, .int i3, .int i2, .ref k1, .int i0], h) Q = (okp h k1 10 = true ∧ Tr sc d 240 (ent0 240 [.ref k1, .int i2, .int i3, .int i4] h) (fun z => Tr sc (d + 1) 259 (1572, [l0, l1, l2, l3], z.1.toList ++ [.int i0], z.2) Q)) := t_cv (as := [.int i2, .int i3, .int i4]) (r := [.int i0]) k_259_1569 rfl rfl (Nat.le_of_ble_eq_true rfl) (Nat.le_of_ble_eq_true rfl) (Nat.le_of_ble_eq_true rfl)
theorem k_259_1572 : lk 259 1572 = some (.if_icmp .eq 176, 1575, 1748, 0, .null) := by decide +kernel
theorem x_259_1572 : Tr sc d 259 (1572, [l0, l1, l2, l3], [.int i1, .int i0], h) Q = if i0 = i1 then Tr sc d 259 (1748, [l0, l1, l2, l3], [], h) Q else Tr sc d 259 (1575, [l0, l1, l2, l3], [], h) Q := t_if k_259_1572 rfl
theorem k_259_1575 : lk 259 1575 = some (.iconst 0, 1576, 0, 0, .int 0) := by decide +kernel
theorem x_259_1575 : Tr sc d 259 (1575, [l0, l1, l2, l3], [], h) Q = Tr sc d 259 (1576, [l0, l1, l2, l3], [.int 0], h) Q := t_go k_259_1575 rfl
theorem k_259_1576 : lk 259 1576 = some (.ireturn, 1577, 0, 0, .null) := by decide +kernel
theorem x_259_1576 : Tr sc d 259 (1576, [l0, l1, l2, l3], [.int i0], h) Q = (vp_nar .boolean i0 = i0 ∧ Q (some (.int i0), h)) := t_zret k_259_1576 r_259
theorem k_259_1577 : lk 259 1577 = some (.aload_n 1, 1578, 1, 0, .null) := by decide +kernel
theorem x_259_1577 : Tr sc d 259 (1577, [l0, some (.ref xk), l2, l3], [], h) Q = Tr sc d 259 (1578, [l0, some (.ref xk), l2, l3], [.ref xk], h) Q := t_aload_n k_259_1577 rfl
theorem k_259_1578 : lk 259 1578 = some (.aload_n 0, 1579, 0, 0, .null) := by decide +kernel
theorem x_259_1578 : Tr sc d 259 (1578, [some (.ref xk), l1, l2, l3], [.ref k0], h) Q = Tr sc d 259 (1579, [some (.ref xk), l1, l2, l3], [.ref xk, .ref k0], h) Q := t_aload_n k_259_1578 rfl
theorem k_259_1579 : lk 259 1579 = some (.iload_n 3, 1580, 3, 0, .null) := by decide +kernel
theorem x_259_1579 : Tr sc d 259 (1579, [l0, l1, l2, some (.int x)], [.ref k1, .ref k0], h) Q = Tr sc d 259 (1580, [l0, l1, l2, some (.int x)], [.int x, .ref k1, .ref k0], h) Q := t_iload_n k_259_1579 rfl
theorem k_259_1580 : lk 259 1580 = some (.iconst 1, 1581, 0, 0, .int 1) := by decide +kernel
theorem x_259_1580 : Tr sc d 259 (1580, [l0, l1, l2, l3], [.int i2, .ref k1, .ref k0], h) Q = Tr sc d 259 (1581, [l0, l1, l2, l3], [.int 1, .int i2, .ref k1, .ref k0], h) Q := t_go k_259_1580 rfl
theorem k_259_1581 : lk 259 1581 = some (.iadd, 1582, 0, 0, .null) := by decide +kernel
theorem x_259_1581 : Tr sc d 259 (1581, [l0, l1, l2, l3], [.int i3, .int i2, .ref k1, .ref k0], h) Q = Tr sc d 259 (1582, [l0, l1, l2, l3], [.int (i2 + i3), .ref k1, .ref k0], h) Q := t_go k_259_1581 rfl
theorem k_259_1582 : lk 259 1582 = some (.iaload, 1583, 0, 0, .null) := by decide +kernel
theorem x_259_1582 : Tr sc d 259 (1582, [l0, l1, l2, l3], [.int i2, .ref k1, .ref k0], h) Q = (iOk sc h k1 i2 ∧ Tr sc d 259 (1583, [l0, l1, l2, l3], [.int (iRd sc h k1 i2), .ref k0], h) Q) := t_iald k_259_1582
theorem k_259_1583 : lk 259 1583 = some (.aload_n 0, 1584, 0, 0, .null) := by decide +kernel
theorem x_259_1583 : Tr sc d 259 (1583, [some (.ref xk), l1, l2, l3], [.int i1, .ref k0], h) Q = Tr sc d 259 (1584, [some (.ref xk), l1, l2, l3], [.ref xk, .int i1, .ref k0], h) Q := t_aload_n k_259_1583 rfl
theorem k_259_1584 : lk 259 1584 = some (.iload_n 3, 1585, 3, 0, .null) := by decide +kernel
theorem x_259_1584 : Tr sc d 259 (1584, [l0, l1, l2, some (.int x)], [.ref k2, .int i1, .ref k0], h) Q = Tr sc d 259 (1585, [l0, l1, l2, some (.int x)], [.int x, .ref k2, .int i1, .ref k0], h) Q := t_iload_n k_259_1584 rfl
theorem k_259_1585 : lk 259 1585 = some (.iconst 2, 1586, 0, 0, .int 2) := by decide +kernel
theorem x_259_1585 : Tr sc d 259 (1585, [l0, l1, l2, l3], [.int i3, .ref k2, .int i1, .ref k0], h) Q = Tr sc d 259 (1586, [l0, l1, l2, l3], [.int 2, .int i3, .ref k2, .int i1, .ref k0], h) Q := t_go k_259_1585 rfl
theorem k_259_1586 : lk 259 1586 = some (.iadd, 1587, 0, 0, .null) := by decide +kernel
theorem x_259_1586 : Tr sc d 259 (1586, [l0, l1, l2, l3], [.int i4, .int i3, .ref k2, .int i1, .ref k0], h) Q = Tr sc d 259 (1587, [l0, l1, l2, l3], [.int (i3 + i4), .ref k2, .int i1, .ref k0], h) Q := t_go k_259_1586 rfl
theorem k_259_1587 : lk 259 1587 = some (.iaload, 1588, 0, 0, .null) := by decide +kernel
theorem x_259_1587 : Tr sc d 259 (1587, [l0, l1, l2, l3], [.int i3, .ref k2, .int i1, .ref k0], h) Q = (iOk sc h k2 i3 ∧ Tr sc d 259 (1588, [l0, l1, l2, l3], [.int (iRd sc h k2 i3), .int i1, .ref k0], h) Q) := t_iald k_259_1587
theorem k_259_1588 : lk 259 1588 = some (.aload_n 0, 1589, 0, 0, .null) := by decide +kernel
theorem x_259_1588 : Tr sc d 259 (1588, [some (.ref xk), l1, l2, l3], [.int i2, .int i1, .ref k0], h) Q = Tr sc d 259 (1589, [some (.ref xk), l1, l2, l3], [.ref xk, .int i2, .int i1, .ref k0], h) Q := t_aload_n k_259_1588 rfl
theorem k_259_1589 : lk 259 1589 = some (.iload_n 3, 1590, 3, 0, .null) := by decide +kernel
theorem x_259_1589 : Tr sc d 259 (1589, [l0, l1, l2, some (.int x)], [.ref k3, .int i2, .int i1, .ref k0], h) Q = Tr sc d 259 (1590, [l0, l1, l2, some (.int x)], [.int x, .ref k3, .int i2, .int i1, .ref k0], h) Q := t_iload_n k_259_1589 rfl
theorem k_259_1590 : lk 259 1590 = some (.iconst 3, 1591, 0, 0, .int 3) := by decide +kernel
theorem x_259_1590 : Tr sc d 259 (1590, [l0, l1, l2, l3], [.int i4, .ref k3, .int i2, .int i1, .ref k0], h) Q = Tr sc d 259 (1591, [l0, l1, l2, l3], [.int 3, .int i4, .ref k3, .int i2, .int i1, .ref k0], h) Q := t_go k_259_1590 rfl
theorem k_259_1591 : lk 259 1591 = some (.iadd, 1592, 0, 0, .null) := by decide +kernel
theorem x_259_1591 : Tr sc d 259 (1591, [l0, l1, l2, l3], [.int i5, .int i4, .ref k3, .int i2, .int i1, .ref k0], h) Q = Tr sc d 259 (1592, [l0, l1, l2, l3], [.int (i4 + i5), .ref k3, .int i2, .int i1, .ref k0], h) Q := t_go k_259_1591 rfl
theorem k_259_1592 : lk 259 1592 = some (.iaload, 1593, 0, 0, .null) := by decide +kernel
theorem x_259_1592 : Tr sc d 259 (1592, [l0, l1, l2, l3], [.int i4, .ref k3, .int i2, .int i1, .ref k0], h) Q = (iOk sc h k3 i4 ∧ Tr sc d 259 (1593, [l0, l1, l2, l3], [.int (iRd sc h k3 i4), .int i2, .int i1, .ref k0], h) Q) := t_iald k_259_1592
theorem k_259_1593 : lk 259 1593 = some (.invokevirtual 161, 1596, 132, 3, .null) := by decide +kernel
theorem x_259_1593 : Tr sc (d + 1) 259 (1593, [l0, l1, l2, l3], [.int i3, .int i2, .int i1, .ref k0], h) Q = (okp h k0 9 = true ∧ Tr sc d 132 (ent0 132 [.ref k0, .int i1, .int i2, .int i3] h) (fun z => Tr sc (d + 1) 259 (1596, [l0, l1, l2, l3], z.1.toList ++ [], z.2) Q)) := t_cv (as := [.int i1, .int i2, .int i3]) (r := []) k_259_1593 rfl rfl (Nat.le_of_ble_eq_true rfl) (Nat.le_of_ble_eq_true rfl) (Nat.le_of_ble_eq_true rfl)
theorem k_259_1596 : lk 259 1596 = some (.aload_n 2, 1597, 2, 0, .null) := by decide +kernel
theorem x_259_1596 : Tr sc d 259 (1596, [l0, l1, some (.ref xk), l3], [.int i0], h) Q = Tr sc d 259 (1597, [l0, l1, some (.ref xk), l3], [.ref xk, .int i0], h) Q := t_aload_n k_259_1596 rfl
theorem k_259_1597 : lk 259 1597 = some (.aload_n 0, 1598, 0, 0, .null) := by decide +kernel
theorem x_259_1597 : Tr sc d 259 (1597, [some (.ref xk), l1, l2, l3], [.ref k1, .int i0], h) Q = Tr sc d 259 (1598, [some (.ref xk), l1, l2, l3], [.ref xk, .ref k1, .int i0], h) Q := t_aload_n k_259_1597 rfl
theorem k_259_1598 : lk 259 1598 = some (.iload_n 3, 1599, 3, 0, .null) := by decide +kernel
theorem x_259_1598 : Tr sc d 259 (1598, [l0, l1, l2, some (.int x)], [.ref k2, .ref k1, .int i0], h) Q = Tr sc d 259 (1599, [l0, l1, l2, some (.int x)], [.int x, .ref k2, .ref k1, .int i0], h) Q := t_iload_n k_259_1598 rfl
theorem k_259_1599 : lk 259 1599 = some (.iconst 1, 1600, 0, 0, .int 1) := by decide +kernel
theorem x_259_1599 : Tr sc d 259 (1599, [l0, l1, l2, l3], [.int i3, .ref k2, .ref k1, .int i0], h) Q = Tr sc d 259 (1600, [l0, l1, l2, l3], [.int 1, .int i3, .ref k2, .ref k1, .int i0], h) Q := t_go k_259_1599 rfl
theorem k_259_1600 : lk 259 1600 = some (.iadd, 1601, 0, 0, .null) := by decide +kernel
theorem x_259_1600 : Tr sc d 259 (1600, [l0, l1, l2, l3], [.int i4, .int i3, .ref k2, .ref k1, .int i0], h) Q = Tr sc d 259 (1601, [l0, l1, l2, l3], [.int (i3 + i4), .ref k2, .ref k1, .int i0], h) Q := t_go k_259_1600 rfl
theorem k_259_1601 : lk 259 1601 = some (.iaload, 1602, 0, 0, .null) := by decide +kernel
theorem x_259_1601 : Tr sc d 259 (1601, [l0, l1, l2, l3], [.int i3, .ref k2, .ref k1, .int i0], h) Q = (iOk sc h k2 i3 ∧ Tr sc d 259 (1602, [l0, l1, l2, l3], [.int (iRd sc h k2 i3), .ref k1, .int i0], h) Q) := t_iald k_259_1601
theorem k_259_1602 : lk 259 1602 = some (.aload_n 0, 1603, 0, 0, .null) := by decide +kernel
theorem x_259_1602 : Tr sc d 259 (1602, [some (.ref xk), l1, l2, l3], [.int i2, .ref k1, .int i0], h) Q = Tr sc d 259 (1603, [some (.ref xk), l1, l2, l3], [.ref xk, .int i2, .ref k1, .int i0], h) Q := t_aload_n k_259_1602 rfl
theorem k_259_1603 : lk 259 1603 = some (.iload_n 3, 1604, 3, 0, .null) := by decide +kernel
theorem x_259_1603 : Tr sc d 259 (1603, [l0, l1, l2, some (.int x)], [.ref k3, .int i2, .ref k1, .int i0], h) Q = Tr sc d 259 (1604, [l0, l1, l2, some (.int x)], [.int x, .ref k3, .int i2, .ref k1, .int i0], h) Q := t_iload_n k_259_1603 rfl
theorem k_259_1604 : lk 259 1604 = some (.iconst 2, 1605, 0, 0, .int 2) := by decide +kernel
theorem x_259_1604 : Tr sc d 259 (1604, [l0, l1, l2, l3], [.int i4, .ref k3, .int i2, .ref k1, .int i0], h) Q = Tr sc d 259 (1605, [l0, l1, l2, l3], [.int 2, .int i4, .ref k3, .int i2, .ref k1, .int i0], h) Q := t_go k_259_1604 rfl
theorem k_259_1605 : lk 259 1605 = some (.iadd, 1606, 0, 0, .null) := by decide +kernel
theorem x_259_1605 : Tr sc d 259 (1605, [l0, l1, l2, l3], [.int i5, .int i4, .ref k3, .int i2, .ref k1, .int i0], h) Q = Tr sc d 259 (1606, [l0, l1, l2, l3], [.int (i4 + i5), .ref k3, .int i2, .ref k1, .int i0], h) Q := t_go k_259_1605 rfl
theorem k_259_1606 : lk 259 1606 = some (.iaload, 1607, 0, 0, .null) := by decide +kernel
theorem x_259_1606 : Tr sc d 259 (1606, [l0, l1, l2, l3], [.int i4, .ref k3, .int i2, .ref k1, .int i0], h) Q = (iOk sc h k3 i4 ∧ Tr sc d 259 (1607, [l0, l1, l2, l3], [.int (iRd sc h k3 i4), .int i2, .ref k1, .int i0], h) Q) := t_iald k_259_1606
theorem k_259_1607 : lk 259 1607 = some (.aload_n 0, 1608, 0, 0, .null) := by decide +kernel
theorem x_259_1607 : Tr sc d 259 (1607, [some (.ref xk), l1, l2, l3], [.int i3, .int i2, .ref k1, .int i0], h) Q = Tr sc d 259 (1608, [some (.ref xk), l1, l2, l3], [.ref xk, .int i3, .int i2, .ref k1, .int i0], h) Q := t_aload_n k_259_1607 rfl
theorem k_259_1608 : lk 259 1608 = some (.iload_n 3, 1609, 3, 0, .null) := by decide +kernel
theorem x_259_1608 : Tr sc d 259 (1608, [l0, l1, l2, some (.int x)], [.ref k4, .int i3, .int i2, .ref k1, .int i0], h) Q = Tr sc d 259 (1609, [l0, l1, l2, some (.int x)], [.int x, .ref k4, .int i3, .int i2, .ref k1, .int i0], h) Q := t_iload_n k_259_1608 rfl
theorem k_259_1609 : lk 259 1609 = some (.iconst 3, 1610, 0, 0, .int 3) := by decide +kernel
theorem x_259_1609 : Tr sc d 259 (1609, [l0, l1, l2, l3], [.int i5, .ref k4, .int i3, .int i2, .ref k1, .int i0], h) Q = Tr sc d 259 (1610, [l0, l1, l2, l3], [.int 3, .int i5, .ref k4, .int i3, .int i2, .ref k1, .int i0], h) Q := t_go k_259_1609 rfl
theorem k_259_1610 : lk 259 1610 = some (.iadd, 1611, 0, 0, .null) := by decide +kernel
theorem x_259_1610 : Tr sc d 259 (1610, [l0, l1, l2, l3], [.int i6, .int i5, .ref k4, .int i3, .int i2, .ref k1, .int i0], h) Q = Tr sc d 259 (1611, [l0, l1, l2, l3], [.int (i5 + i6), .ref k4, .int i3, .int i2, .ref k1, .int i0], h) Q := t_go k_259_1610 rfl
theorem k_259_1611 : lk 259 1611 = some (.iaload, 1612, 0, 0, .null) := by decide +kernel
theorem x_259_1611 : Tr sc d 259 (1611, [l0, l1, l2, l3], [.int i5, .ref k4, .int i3, .int i2, .ref k1, .int i0], h) Q = (iOk sc h k4 i5 ∧ Tr sc d 259 (1612, [l0, l1, l2, l3], [.int (iRd sc h k4 i5), .int i3, .int i2, .ref k1, .int i0], h) Q) := t_iald k_259_1611
theorem k_259_1612 : lk 259 1612 = some (.invokevirtual 164, 1615, 241, 3, .null) := by decide +kernel
theorem x_259_1612 : Tr sc (d + 1) 259 (1612, [l0, l1, l2, l3], [.int i4, .int i3, .int i2, .ref k1, .int i0], h) Q = (okp h k1 10 = true ∧ Tr sc d 241 (ent0 241 [.ref k1, .int i2, .int i3, .int i4] h) (fun z => Tr sc (d + 1) 259 (1615, [l0, l1, l2, l3], z.1.toList ++ [.int i0], z.2) Q)) := t_cv (as := [.int i2, .int i3, .int i4]) (r := [.int i0]) k_259_1612 rfl rfl (Nat.le_of_ble_eq_true rfl) (Nat.le_of_ble_eq_true rfl) (Nat.le_of_ble_eq_true rfl)
theorem k_259_1615 : lk 259 1615 = some (.if_icmp .eq 133, 1618, 1748, 0, .null) := by decide +kernel
theorem x_259_1615 : Tr sc d 259 (1615, [l0, l1, l2, l3], [.int i1, .int i0], h) Q = if i0 = i1 then Tr sc d 259 (1748, [l0, l1, l2, l3], [], h) Q else Tr sc d 259 (1618, [l0, l1, l2, l3], [], h) Q := t_if k_259_1615 rfl
theorem k_259_1618 : lk 259 1618 = some (.iconst 0, 1619, 0, 0, .int 0) := by decide +kernel
theorem x_259_1618 : Tr sc d 259 (1618, [l0, l1, l2, l3], [], h) Q = Tr sc d 259 (1619, [l0, l1, l2, l3], [.int 0], h) Q := t_go k_259_1618 rfl
theorem k_259_1619 : lk 259 1619 = some (.ireturn, 1620, 0, 0, .null) := by decide +kernel
theorem x_259_1619 : Tr sc d 259 (1619, [l0, l1, l2, l3], [.int i0], h) Q = (vp_nar .boolean i0 = i0 ∧ Q (some (.int i0), h)) := t_zret k_259_1619 r_259
theorem k_259_1620 : lk 259 1620 = some (.aload_n 1, 1621, 1, 0, .null) := by decide +kernel
theorem x_259_1620 : Tr sc d 259 (1620, [l0, some (.ref xk), l2, l3], [], h) Q = Tr sc d 259 (1621, [l0, some (.ref xk), l2, l3], [.ref xk], h) Q := t_aload_n k_259_1620 rfl
theorem k_259_1621 : lk 259 1621 = some (.invokevirtual 165, 1624, 133, 0, .null) := by decide +kernel
theorem x_259_1621 : Tr sc (d + 1) 259 (1621, [l0, l1, l2, l3], [.ref k0], h) Q = (okp h k0 9 = true ∧ Tr sc d 133 (ent0 133 [.ref k0] h) (fun z => Tr sc (d + 1) 259 (1624, [l0, l1, l2, l3], z.1.toList ++ [], z.2) Q)) := t_cv (as := []) (r := []) k_259_1621 rfl rfl (Nat.le_of_ble_eq_true rfl) (Nat.le_of_ble_eq_true rfl) (Nat.le_of_ble_eq_true rfl)
theorem k_259_1624 : lk 259 1624 = some (.aload_n 2, 1625, 2, 0, .null) := by decide +kernel
theorem x_259_1624 : Tr sc d 259 (1624, [l0, l1, some (.ref xk), l3], [.long j0], h) Q = Tr sc d 259 (1625, [l0, l1, some (.ref xk), l3], [.ref xk, .long j0], h) Q := t_aload_n k_259_1624 rfl
theorem k_259_1625 : lk 259 1625 = some (.invokevirtual 169, 1628, 242, 0, .null) := by decide +kernel
theorem x_259_1625 : Tr sc (d + 1) 259 (1625, [l0, l1, l2, l3], [.ref k1, .long j0], h) Q = (okp h k1 10 = true ∧ Tr sc d 242 (ent0 242 [.ref k1] h) (fun z => Tr sc (d + 1) 259 (1628, [l0, l1, l2, l3], z.1.toList ++ [.long j0], z.2) Q)) := t_cv (as := []) (r := [.long j0]) k_259_1625 rfl rfl (Nat.le_of_ble_eq_true rfl) (Nat.le_of_ble_eq_true rfl) (Nat.le_of_ble_eq_true rfl)
theorem k_259_1628 : lk 259 1628 = some (.lcmp, 1629, 0, 0, .null) := by decide +kernel
theorem x_259_1628 : Tr sc d 259 (1628, [l0, l1, l2, l3], [.long j1, .long j0], h) Q = Tr sc d 259 (1629, [l0, l1, l2, l3], [.int (lg_cmp j0 j1)], h) Q := t_go k_259_1628 rfl
theorem k_259_1629 : lk 259 1629 = some (.ifCond .eq 119, 1632, 1748, 0, .null) := by decide +kernel
theorem x_259_1629 : Tr sc d 259 (1629, [l0, l1, l2, l3], [.int i0], h) Q = if i0 = 0 then Tr sc d 259 (1748, [l0, l1, l2, l3], [], h) Q else Tr sc d 259 (1632, [l0, l1, l2, l3], [], h) Q := t_if k_259_1629 rfl
theorem k_259_1632 : lk 259 1632 = some (.iconst 0, 1633, 0, 0, .int 0) := by decide +kernel
theorem x_259_1632 : Tr sc d 259 (1632, [l0, l1, l2, l3], [], h) Q = Tr sc d 259 (1633, [l0, l1, l2, l3], [.int 0], h) Q := t_go k_259_1632 rfl
theorem k_259_1633 : lk 259 1633 = some (.ireturn, 1634, 0, 0, .null) := by decide +kernel
theorem x_259_1633 : Tr sc d 259 (1633, [l0, l1, l2, l3], [.int i0], h) Q = (vp_nar .boolean i0 = i0 ∧ Q (some (.int i0), h)) := t_zret k_259_1633 r_259
theorem k_259_1634 : lk 259 1634 = some (.aload_n 1, 1635, 1, 0, .null) := by decide +kernel
theorem x_259_1634 : Tr sc d 259 (1634, [l0, some (.ref xk), l2, l3], [], h) Q = Tr sc d 259 (1635, [l0, some (.ref xk), l2, l3], [.ref xk], h) Q := t_aload_n k_259_1634 rfl
theorem k_259_1635 : lk 259 1635 = some (.invokevirtual 170, 1638, 134, 0, .null) := by decide +kernel
theorem x_259_1635 : Tr sc (d + 1) 259 (1635, [l0, l1, l2, l3], [.ref k0], h) Q = (okp h k0 9 = true ∧ Tr sc d 134 (ent0 134 [.ref k0] h) (fun z => Tr sc (d + 1) 259 (1638, [l0, l1, l2, l3], z.1.toList ++ [], z.2) Q)) := t_cv (as := []) (r := []) k_259_1635 rfl rfl (Nat.le_of_ble_eq_true rfl) (Nat.le_of_ble_eq_true rfl) (Nat.le_of_ble_eq_true rfl)
theorem k_259_1638 : lk 259 1638 = some (.aload_n 2, 1639, 2, 0, .null) := by decide +kernel
theorem x_259_1638 : Tr sc d 259 (1638, [l0, l1, some (.ref xk), l3], [.int i0], h) Q = Tr sc d 259 (1639, [l0, l1, some (.ref xk), l3], [.ref xk, .int i0], h) Q := t_aload_n k_259_1638 rfl
theorem k_259_1639 : lk 259 1639 = some (.invokevirtual 174, 1642, 243, 0, .null) := by decide +kernel
theorem x_259_1639 : Tr sc (d + 1) 259 (1639, [l0, l1, l2, l3], [.ref k1, .int i0], h) Q = (okp h k1 10 = true ∧ Tr sc d 243 (ent0 243 [.ref k1] h) (fun z => Tr sc (d + 1) 259 (1642, [l0, l1, l2, l3], z.1.toList ++ [.int i0], z.2) Q)) := t_cv (as := []) (r := [.int i0]) k_259_1639 rfl rfl (Nat.le_of_ble_eq_true rfl) (Nat.le_of_ble_eq_true rfl) (Nat.le_of_ble_eq_true rfl)
theorem k_259_1642 : lk 259 1642 = some (.if_icmp .eq 106, 1645, 1748, 0, .null) := by decide +kernel
theorem x_259_1642 : Tr sc d 259 (1642, [l0, l1, l2, l3], [.int i1, .int i0], h) Q = if i0 = i1 then Tr sc d 259 (1748, [l0, l1, l2, l3], [], h) Q else Tr sc d 259 (1645, [l0, l1, l2, l3], [], h) Q := t_if k_259_1642 rfl
theorem k_259_1645 : lk 259 1645 = some (.iconst 0, 1646, 0, 0, .int 0) := by decide +kernel
theorem x_259_1645 : Tr sc d 259 (1645, [l0, l1, l2, l3], [], h) Q = Tr sc d 259 (1646, [l0, l1, l2, l3], [.int 0], h) Q := t_go k_259_1645 rfl
theorem k_259_1646 : lk 259 1646 = some (.ireturn, 1647, 0, 0, .null) := by decide +kernel
theorem x_259_1646 : Tr sc d 259 (1646, [l0, l1, l2, l3], [.int i0], h) Q = (vp_nar .boolean i0 = i0 ∧ Q (some (.int i0), h)) := t_zret k_259_1646 r_259
theorem k_259_1647 : lk 259 1647 = some (.aload_n 1, 1648, 1, 0, .null) := by decide +kernel
theorem x_259_1647 : Tr sc d 259 (1647, [l0, some (.ref xk), l2, l3], [], h) Q = Tr sc d 259 (1648, [l0, some (.ref xk), l2, l3], [.ref xk], h) Q := t_aload_n k_259_1647 rfl
theorem k_259_1648 : lk 259 1648 = some (.invokevirtual 175, 1651, 135, 0, .null) := by decide +kernel
theorem x_259_1648 : Tr sc (d + 1) 259 (1648, [l0, l1, l2, l3], [.ref k0], h) Q = (okp h k0 9 = true ∧ Tr sc d 135 (ent0 135 [.ref k0] h) (fun z => Tr sc (d + 1) 259 (1651, [l0, l1, l2, l3], z.1.toList ++ [], z.2) Q)) := t_cv (as := []) (r := []) k_259_1648 rfl rfl (Nat.le_of_ble_eq_true rfl) (Nat.le_of_ble_eq_true rfl) (Nat.le_of_ble_eq_true rfl)
theorem k_259_1651 : lk 259 1651 = some (.aload_n 2, 1652, 2, 0, .null) := by decide +kernel
theorem x_259_1651 : Tr sc d 259 (1651, [l0, l1, some (.ref xk), l3], [.long j0], h) Q = Tr sc d 259 (1652, [l0, l1, some (.ref xk), l3], [.ref xk, .long j0], h) Q := t_aload_n k_259_1651 rfl
theorem k_259_1652 : lk 259 1652 = some (.invokevirtual 178, 1655, 244, 0, .null) := by decide +kernel
theorem x_259_1652 : Tr sc (d + 1) 259 (1652, [l0, l1, l2, l3], [.ref k1, .long j0], h) Q = (okp h k1 10 = true ∧ Tr sc d 244 (ent0 244 [.ref k1] h) (fun z => Tr sc (d + 1) 259 (1655, [l0, l1, l2, l3], z.1.toList ++ [.long j0], z.2) Q)) := t_cv (as := []) (r := [.long j0]) k_259_1652 rfl rfl (Nat.le_of_ble_eq_true rfl) (Nat.le_of_ble_eq_true rfl) (Nat.le_of_ble_eq_true rfl)
theorem k_259_1655 : lk 259 1655 = some (.lcmp, 1656, 0, 0, .null) := by decide +kernel
theorem x_259_1655 : Tr sc d 259 (1655, [l0, l1, l2, l3], [.long j1, .long j0], h) Q = Tr sc d 259 (1656, [l0, l1, l2, l3], [.int (lg_cmp j0 j1)], h) Q := t_go k_259_1655 rfl
theorem k_259_1656 : lk 259 1656 = some (.ifCond .eq 92, 1659, 1748, 0, .null) := by decide +kernel
theorem x_259_1656 : Tr sc d 259 (1656, [l0, l1, l2, l3], [.int i0], h) Q = if i0 = 0 then Tr sc d 259 (1748, [l0, l1, l2, l3], [], h) Q else Tr sc d 259 (1659, [l0, l1, l2, l3], [], h) Q := t_if k_259_1656 rfl
theorem k_259_1659 : lk 259 1659 = some (.iconst 0, 1660, 0, 0, .int 0) := by decide +kernel
theorem x_259_1659 : Tr sc d 259 (1659, [l0, l1, l2, l3], [], h) Q = Tr sc d 259 (1660, [l0, l1, l2, l3], [.int 0], h) Q := t_go k_259_1659 rfl
theorem k_259_1660 : lk 259 1660 = some (.ireturn, 1661, 0, 0, .null) := by decide +kernel
theorem x_259_1660 : Tr sc d 259 (1660, [l0, l1, l2, l3], [.int i0], h) Q = (vp_nar .boolean i0 = i0 ∧ Q (some (.int i0), h)) := t_zret k_259_1660 r_259
theorem k_259_1661 : lk 259 1661 = some (.aload_n 1, 1662, 1, 0, .null) := by decide +kernel
theorem x_259_1661 : Tr sc d 259 (1661, [l0, some (.ref xk), l2, l3], [], h) Q = Tr sc d 259 (1662, [l0, some (.ref xk), l2, l3], [.ref xk], h) Q := t_aload_n k_259_1661 rfl
theorem k_259_1662 : lk 259 1662 = some (.invokevirtual 179, 1665, 136, 0, .null) := by decide +kernel
theorem x_259_1662 : Tr sc (d + 1) 259 (1662, [l0, l1, l2, l3], [.ref k0], h) Q = (okp h k0 9 = true ∧ Tr sc d 136 (ent0 136 [.ref k0] h) (fun z => Tr sc (d + 1) 259 (1665, [l0, l1, l2, l3], z.1.toList ++ [], z.2) Q)) := t_cv (as := []) (r := []) k_259_1662 rfl rfl (Nat.le_of_ble_eq_true rfl) (Nat.le_of_ble_eq_true rfl) (Nat.le_of_ble_eq_true rfl)
theorem k_259_1665 : lk 259 1665 = some (.aload_n 2, 1666, 2, 0, .null) := by decide +kernel
theorem x_259_1665 : Tr sc d 259 (1665, [l0, l1, some (.ref xk), l3], [.long j0], h) Q = Tr sc d 259 (1666, [l0, l1, some (.ref xk), l3], [.ref xk, .long j0], h) Q := t_aload_n k_259_1665 rfl
theorem k_259_1666 : lk 259 1666 = some (.invokevirtual 182, 1669, 245, 0, .null) := by decide +kernel
theorem x_259_1666 : Tr sc (d + 1) 259 (1666, [l0, l1, l2, l3], [.ref k1, .long j0], h) Q = (okp h k1 10 = true ∧ Tr sc d 245 (ent0 245 [.ref k1] h) (fun z => Tr sc (d + 1) 259 (1669, [l0, l1, l2, l3], z.1.toList ++ [.long j0], z.2) Q)) := t_cv (as := []) (r := [.long j0]) k_259_1666 rfl rfl (Nat.le_of_ble_eq_true rfl) (Nat.le_of_ble_eq_true rfl) (Nat.le_of_ble_eq_true rfl)
theorem k_259_1669 : lk 259 1669 = some (.lcmp, 1670, 0, 0, .null) := by decide +kernel
theorem x_259_1669 : Tr sc d 259 (1669, [l0, l1, l2, l3], [.long j1, .long j0], h) Q = Tr sc d 259 (1670, [l0, l1, l2, l3], [.int (lg_cmp j0 j1)], h) Q := t_go k_259_1669 rfl
theorem k_259_1670 : lk 259 1670 = some (.ifCond .eq 78, 1673, 1748, 0, .null) := by decide +kernel
theorem x_259_1670 : Tr sc d 259 (1670, [l0, l1, l2, l3], [.int i0], h) Q = if i0 = 0 then Tr sc d 259 (1748, [l0, l1, l2, l3], [], h) Q else Tr sc d 259 (1673, [l0, l1, l2, l3], [], h) Q := t_if k_259_1670 rfl
theorem k_259_1673 : lk 259 1673 = some (.iconst 0, 1674, 0, 0, .int 0) := by decide +kernel
theorem x_259_1673 : Tr sc d 259 (1673, [l0, l1, l2, l3], [], h) Q = Tr sc d 259 (1674, [l0, l1, l2, l3], [.int 0], h) Q := t_go k_259_1673 rfl
theorem k_259_1674 : lk 259 1674 = some (.ireturn, 1675, 0, 0, .null) := by decide +kernel
theorem x_259_1674 : Tr sc d 259 (1674, [l0, l1, l2, l3], [.int i0], h) Q = (vp_nar .boolean i0 = i0 ∧ Q (some (.int i0), h)) := t_zret k_259_1674 r_259
theorem k_259_1675 : lk 259 1675 = some (.aload_n 1, 1676, 1, 0, .null) := by decide +kernel
theorem x_259_1675 : Tr sc d 259 (1675, [l0, some (.ref xk), l2, l3], [], h) Q = Tr sc d 259 (1676, [l0, some (.ref xk), l2, l3], [.ref xk], h) Q := t_aload_n k_259_1675 rfl
theorem k_259_1676 : lk 259 1676 = some (.aload_n 0, 1677, 0, 0, .null) := by decide +kernel
theorem x_259_1676 : Tr sc d 259 (1676, [some (.ref xk), l1, l2, l3], [.ref k0], h) Q = Tr sc d 259 (1677, [some (.ref xk), l1, l2, l3], [.ref xk, .ref k0], h) Q := t_aload_n k_259_1676 rfl
theorem k_259_1677 : lk 259 1677 = some (.iload_n 3, 1678, 3, 0, .null) := by decide +kernel
theorem x_259_1677 : Tr sc d 259 (1677, [l0, l1, l2, some (.int x)], [.ref k1, .ref k0], h) Q = Tr sc d 259 (1678, [l0, l1, l2, some (.int x)], [.int x, .ref k1, .ref k0], h) Q := t_iload_n k_259_1677 rfl
theorem k_259_1678 : lk 259 1678 = some (.iconst 1, 1679, 0, 0, .int 1) := by decide +kernel
theorem x_259_1678 : Tr sc d 259 (1678, [l0, l1, l2, l3], [.int i2, .ref k1, .ref k0], h) Q = Tr sc d 259 (1679, [l0, l1, l2, l3], [.int 1, .int i2, .ref k1, .ref k0], h) Q := t_go k_259_1678 rfl
theorem k_259_1679 : lk 259 1679 = some (.iadd, 1680, 0, 0, .null) := by decide +kernel
theorem x_259_1679 : Tr sc d 259 (1679, [l0, l1, l2, l3], [.int i3, .int i2, .ref k1, .ref k0], h) Q = Tr sc d 259 (1680, [l0, l1, l2, l3], [.int (i2 + i3), .ref k1, .ref k0], h) Q := t_go k_259_1679 rfl
theorem k_259_1680 : lk 259 1680 = some (.iaload, 1681, 0, 0, .null) := by decide +kernel
theorem x_259_1680 : Tr sc d 259 (1680, [l0, l1, l2, l3], [.int i2, .ref k1, .ref k0], h) Q = (iOk sc h k1 i2 ∧ Tr sc d 259 (1681, [l0, l1, l2, l3], [.int (iRd sc h k1 i2), .ref k0], h) Q) := t_iald k_259_1680
theorem k_259_1681 : lk 259 1681 = some (.invokevirtual 183, 1684, 137, 1, .null) := by decide +kernel
theorem x_259_1681 : Tr sc (d + 1) 259 (1681, [l0, l1, l2, l3], [.int i1, .ref k0], h) Q = (okp h k0 9 = true ∧ Tr sc d 137 (ent0 137 [.ref k0, .int i1] h) (fun z => Tr sc (d + 1) 259 (1684, [l0, l1, l2, l3], z.1.toList ++ [], z.2) Q)) := t_cv (as := [.int i1]) (r := []) k_259_1681 rfl rfl (Nat.le_of_ble_eq_true rfl) (Nat.le_of_ble_eq_true rfl) (Nat.le_of_ble_eq_true rfl)
theorem k_259_1684 : lk 259 1684 = some (.aload_n 2, 1685, 2, 0, .null) := by decide +kernel
theorem x_259_1684 : Tr sc d 259 (1684, [l0, l1, some (.ref xk), l3], [.int i0], h) Q = Tr sc d 259 (1685, [l0, l1, some (.ref xk), l3], [.ref xk, .int i0], h) Q := t_aload_n k_259_1684 rfl
theorem k_259_1685 : lk 259 1685 = some (.aload_n 0, 1686, 0, 0, .null) := by decide +kernel
theorem x_259_1685 : Tr sc d 259 (1685, [some (.ref xk), l1, l2, l3], [.ref k1, .int i0], h) Q = Tr sc d 259 (1686, [some (.ref xk), l1, l2, l3], [.ref xk, .ref k1, .int i0], h) Q := t_aload_n k_259_1685 rfl
theorem k_259_1686 : lk 259 1686 = some (.iload_n 3, 1687, 3, 0, .null) := by decide +kernel
theorem x_259_1686 : Tr sc d 259 (1686, [l0, l1, l2, some (.int x)], [.ref k2, .ref k1, .int i0], h) Q = Tr sc d 259 (1687, [l0, l1, l2, some (.int x)], [.int x, .ref k2, .ref k1, .int i0], h) Q := t_iload_n k_259_1686 rfl
theorem k_259_1687 : lk 259 1687 = some (.iconst 1, 1688, 0, 0, .int 1) := by decide +kernel
theorem x_259_1687 : Tr sc d 259 (1687, [l0, l1, l2, l3], [.int i3, .ref k2, .ref k1, .int i0], h) Q = Tr sc d 259 (1688, [l0, l1, l2, l3], [.int 1, .int i3, .ref k2, .ref k1, .int i0], h) Q := t_go k_259_1687 rfl
theorem k_259_1688 : lk 259 1688 = some (.iadd, 1689, 0, 0, .null) := by decide +kernel
theorem x_259_1688 : Tr sc d 259 (1688, [l0, l1, l2, l3], [.int i4, .int i3, .ref k2, .ref k1, .int i0], h) Q = Tr sc d 259 (1689, [l0, l1, l2, l3], [.int (i3 + i4), .ref k2, .ref k1, .int i0], h) Q := t_go k_259_1688 rfl
theorem k_259_1689 : lk 259 1689 = some (.iaload, 1690, 0, 0, .null) := by decide +kernel
theorem x_259_1689 : Tr sc d 259 (1689, [l0, l1, l2, l3], [.int i3, .ref k2, .ref k1, .int i0], h) Q = (iOk sc h k2 i3 ∧ Tr sc d 259 (1690, [l0, l1, l2, l3], [.int (iRd sc h k2 i3), .ref k1, .int i0], h) Q) := t_iald k_259_1689
theorem k_259_1690 : lk 259 1690 = some (.invokevirtual 186, 1693, 246, 1, .null) := by decide +kernel
theorem x_259_1690 : Tr sc (d + 1) 259 (1690, [l0, l1, l2, l3], [.int i2, .ref k1, .int i0], h) Q = (okp h k1 10 = true ∧ Tr sc d 246 (ent0 246 [.ref k1, .int i2] h) (fun z => Tr sc (d + 1) 259 (1693, [l0, l1, l2, l3], z.1.toList ++ [.int i0], z.2) Q)) := t_cv (as := [.int i2]) (r := [.int i0]) k_259_1690 rfl rfl (Nat.le_of_ble_eq_true rfl) (Nat.le_of_ble_eq_true rfl) (Nat.le_of_ble_eq_true rfl)
theorem k_259_1693 : lk 259 1693 = some (.if_icmp .eq 55, 1696, 1748, 0, .null) := by decide +kernel
theorem x_259_1693 : Tr sc d 259 (1693, [l0, l1, l2, l3], [.int i1, .int i0], h) Q = if i0 = i1 then Tr sc d 259 (1748, [l0, l1, l2, l3], [], h) Q else Tr sc d 259 (1696, [l0, l1, l2, l3], [], h) Q := t_if k_259_1693 rfl
theorem k_259_1696 : lk 259 1696 = some (.iconst 0, 1697, 0, 0, .int 0) := by decide +kernel
theorem x_259_1696 : Tr sc d 259 (1696, [l0, l1, l2, l3], [], h) Q = Tr sc d 259 (1697, [l0, l1, l2, l3], [.int 0], h) Q := t_go k_259_1696 rfl
theorem k_259_1697 : lk 259 1697 = some (.ireturn, 1698, 0, 0, .null) := by decide +kernel
theorem x_259_1697 : Tr sc d 259 (1697, [l0, l1, l2, l3], [.int i0], h) Q = (vp_nar .boolean i0 = i0 ∧ Q (some (.int i0), h)) := t_zret k_259_1697 r_259
theorem k_259_1698 : lk 259 1698 = some (.aload_n 1, 1699, 1, 0, .null) := by decide +kernel
theorem x_259_1698 : Tr sc d 259 (1698, [l0, some (.ref xk), l2, l3], [], h) Q = Tr sc d 259 (1699, [l0, some (.ref xk), l2, l3], [.ref xk], h) Q := t_aload_n k_259_1698 rfl
theorem k_259_1699 : lk 259 1699 = some (.invokevirtual 187, 1702, 138, 0, .null) := by decide +kernel
theorem x_259_1699 : Tr sc (d + 1) 259 (1699, [l0, l1, l2, l3], [.ref k0], h) Q = (okp h k0 9 = true ∧ Tr sc d 138 (ent0 138 [.ref k0] h) (fun z => Tr sc (d + 1) 259 (1702, [l0, l1, l2, l3], z.1.toList ++ [], z.2) Q)) := t_cv (as := []) (r := []) k_259_1699 rfl rfl (Nat.le_of_ble_eq_true rfl) (Nat.le_of_ble_eq_true rfl) (Nat.le_of_ble_eq_true rfl)
theorem k_259_1702 : lk 259 1702 = some (.aload_n 2, 1703, 2, 0, .null) := by decide +kernel
theorem x_259_1702 : Tr sc d 259 (1702, [l0, l1, some (.ref xk), l3], [.int i0], h) Q = Tr sc d 259 (1703, [l0, l1, some (.ref xk), l3], [.ref xk, .int i0], h) Q := t_aload_n k_259_1702 rfl
theorem k_259_1703 : lk 259 1703 = some (.invokevirtual 190, 1706, 247, 0, .null) := by decide +kernel
theorem x_259_1703 : Tr sc (d + 1) 259 (1703, [l0, l1, l2, l3], [.ref k1, .int i0], h) Q = (okp h k1 10 = true ∧ Tr sc d 247 (ent0 247 [.ref k1] h) (fun z => Tr sc (d + 1) 259 (1706, [l0, l1, l2, l3], z.1.toList ++ [.int i0], z.2) Q)) := t_cv (as := []) (r := [.int i0]) k_259_1703 rfl rfl (Nat.le_of_ble_eq_true rfl) (Nat.le_of_ble_eq_true rfl) (Nat.le_of_ble_eq_true rfl)
theorem k_259_1706 : lk 259 1706 = some (.if_icmp .eq 42, 1709, 1748, 0, .null) := by decide +kernel
theorem x_259_1706 : Tr sc d 259 (1706, [l0, l1, l2, l3], [.int i1, .int i0], h) Q = if i0 = i1 then Tr sc d 259 (1748, [l0, l1, l2, l3], [], h) Q else Tr sc d 259 (1709, [l0, l1, l2, l3], [], h) Q := t_if k_259_1706 rfl
theorem k_259_1709 : lk 259 1709 = some (.iconst 0, 1710, 0, 0, .int 0) := by decide +kernel
theorem x_259_1709 : Tr sc d 259 (1709, [l0, l1, l2, l3], [], h) Q = Tr sc d 259 (1710, [l0, l1, l2, l3], [.int 0], h) Q := t_go k_259_1709 rfl
theorem k_259_1710 : lk 259 1710 = some (.ireturn, 1711, 0, 0, .null) := by decide +kernel
theorem x_259_1710 : Tr sc d 259 (1710, [l0, l1, l2, l3], [.int i0], h) Q = (vp_nar .boolean i0 = i0 ∧ Q (some (.int i0), h)) := t_zret k_259_1710 r_259
theorem k_259_1711 : lk 259 1711 = some (.aload_n 1, 1712, 1, 0, .null) := by decide +kernel
theorem x_259_1711 : Tr sc d 259 (1711, [l0, some (.ref xk), l2, l3], [], h) Q = Tr sc d 259 (1712, [l0, some (.ref xk), l2, l3], [.ref xk], h) Q := t_aload_n k_259_1711 rfl
theorem k_259_1712 : lk 259 1712 = some (.aload_n 0, 1713, 0, 0, .null) := by decide +kernel
theorem x_259_1712 : Tr sc d 259 (1712, [some (.ref xk), l1, l2, l3], [.ref k0], h) Q = Tr sc d 259 (1713, [some (.ref xk), l1, l2, l3], [.ref xk, .ref k0], h) Q := t_aload_n k_259_1712 rfl
theorem k_259_1713 : lk 259 1713 = some (.iload_n 3, 1714, 3, 0, .null) := by decide +kernel
theorem x_259_1713 : Tr sc d 259 (1713, [l0, l1, l2, some (.int x)], [.ref k1, .ref k0], h) Q = Tr sc d 259 (1714, [l0, l1, l2, some (.int x)], [.int x, .ref k1, .ref k0], h) Q := t_iload_n k_259_1713 rfl
theorem k_259_1714 : lk 259 1714 = some (.iconst 1, 1715, 0, 0, .int 1) := by decide +kernel
theorem x_259_1714 : Tr sc d 259 (1714, [l0, l1, l2, l3], [.int i2, .ref k1, .ref k0], h) Q = Tr sc d 259 (1715, [l0, l1, l2, l3], [.int 1, .int i2, .ref k1, .ref k0], h) Q := t_go k_259_1714 rfl
theorem k_259_1715 : lk 259 1715 = some (.iadd, 1716, 0, 0, .null) := by decide +kernel
theorem x_259_1715 : Tr sc d 259 (1715, [l0, l1, l2, l3], [.int i3, .int i2, .ref k1, .ref k0], h) Q = Tr sc d 259 (1716, [l0, l1, l2, l3], [.int (i2 + i3), .ref k1, .ref k0], h) Q := t_go k_259_1715 rfl
theorem k_259_1716 : lk 259 1716 = some (.iaload, 1717, 0, 0, .null) := by decide +kernel
theorem x_259_1716 : Tr sc d 259 (1716, [l0, l1, l2, l3], [.int i2, .ref k1, .ref k0], h) Q = (iOk sc h k1 i2 ∧ Tr sc d 259 (1717, [l0, l1, l2, l3], [.int (iRd sc h k1 i2), .ref k0], h) Q) := t_iald k_259_1716
theorem k_259_1717 : lk 259 1717 = some (.invokevirtual 191, 1720, 139, 1, .null) := by decide +kernel
theorem x_259_1717 : Tr sc (d + 1) 259 (1717, [l0, l1, l2, l3], [.int i1, .ref k0], h) Q = (okp h k0 9 = true ∧ Tr sc d 139 (ent0 139 [.ref k0, .int i1] h) (fun z => Tr sc (d + 1) 259 (1720, [l0, l1, l2, l3], z.1.toList ++ [], z.2) Q)) := t_cv (as := [.int i1]) (r := []) k_259_1717 rfl rfl (Nat.le_of_ble_eq_true rfl) (Nat.le_of_ble_eq_true rfl) (Nat.le_of_ble_eq_true rfl)
theorem k_259_1720 : lk 259 1720 = some (.aload_n 2, 1721, 2, 0, .null) := by decide +kernel
theorem x_259_1720 : Tr sc d 259 (1720, [l0, l1, some (.ref xk), l3], [.int i0], h) Q = Tr sc d 259 (1721, [l0, l1, some (.ref xk), l3], [.ref xk, .int i0], h) Q := t_aload_n k_259_1720 rfl
theorem k_259_1721 : lk 259 1721 = some (.aload_n 0, 1722, 0, 0, .null) := by decide +kernel
theorem x_259_1721 : Tr sc d 259 (1721, [some (.ref xk), l1, l2, l3], [.ref k1, .int i0], h) Q = Tr sc d 259 (1722, [some (.ref xk), l1, l2, l3], [.ref xk, .ref k1, .int i0], h) Q := t_aload_n k_259_1721 rfl
theorem k_259_1722 : lk 259 1722 = some (.iload_n 3, 1723, 3, 0, .null) := by decide +kernel
theorem x_259_1722 : Tr sc d 259 (1722, [l0, l1, l2, some (.int x)], [.ref k2, .ref k1, .int i0], h) Q = Tr sc d 259 (1723, [l0, l1, l2, some (.int x)], [.int x, .ref k2, .ref k1, .int i0], h) Q := t_iload_n k_259_1722 rfl
theorem k_259_1723 : lk 259 1723 = some (.iconst 1, 1724, 0, 0, .int 1) := by decide +kernel
theorem x_259_1723 : Tr sc d 259 (1723, [l0, l1, l2, l3], [.int i3, .ref k2, .ref k1, .int i0], h) Q = Tr sc d 259 (1724, [l0, l1, l2, l3], [.int 1, .int i3, .ref k2, .ref k1, .int i0], h) Q := t_go k_259_1723 rfl
theorem k_259_1724 : lk 259 1724 = some (.iadd, 1725, 0, 0, .null) := by decide +kernel
theorem x_259_1724 : Tr sc d 259 (1724, [l0, l1, l2, l3], [.int i4, .int i3, .ref k2, .ref k1, .int i0], h) Q = Tr sc d 259 (1725, [l0, l1, l2, l3], [.int (i3 + i4), .ref k2, .ref k1, .int i0], h) Q := t_go k_259_1724 rfl
theorem k_259_1725 : lk 259 1725 = some (.iaload, 1726, 0, 0, .null) := by decide +kernel
theorem x_259_1725 : Tr sc d 259 (1725, [l0, l1, l2, l3], [.int i3, .ref k2, .ref k1, .int i0], h) Q = (iOk sc h k2 i3 ∧ Tr sc d 259 (1726, [l0, l1, l2, l3], [.int (iRd sc h k2 i3), .ref k1, .int i0], h) Q) := t_iald k_259_1725
theorem k_259_1726 : lk 259 1726 = some (.invokevirtual 194, 1729, 248, 1, .null) := by decide +kernel
theorem x_259_1726 : Tr sc (d + 1) 259 (1726, [l0, l1, l2, l3], [.int i2, .ref k1, .int i0], h) Q = (okp h k1 10 = true ∧ Tr sc d 248 (ent0 248 [.ref k1, .int i2] h) (fun z => Tr sc (d + 1) 259 (1729, [l0, l1, l2, l3], z.1.toList ++ [.int i0], z.2) Q)) := t_cv (as := [.int i2]) (r := [.int i0]) k_259_1726 rfl rfl (Nat.le_of_ble_eq_true rfl) (Nat.le_of_ble_eq_true rfl) (Nat.le_of_ble_eq_true rfl)
theorem k_259_1729 : lk 259 1729 = some (.if_icmp .eq 19, 1732, 1748, 0, .null) := by decide +kernel
theorem x_259_1729 : Tr sc d 259 (1729, [l0, l1, l2, l3], [.int i1, .int i0], h) Q = if i0 = i1 then Tr sc d 259 (1748, [l0, l1, l2, l3], [], h) Q else Tr sc d 259 (1732, [l0, l1, l2, l3], [], h) Q := t_if k_259_1729 rfl
theorem k_259_1732 : lk 259 1732 = some (.iconst 0, 1733, 0, 0, .int 0) := by decide +kernel
theorem x_259_1732 : Tr sc d 259 (1732, [l0, l1, l2, l3], [], h) Q = Tr sc d 259 (1733, [l0, l1, l2, l3], [.int 0], h) Q := t_go k_259_1732 rfl
theorem k_259_1733 : lk 259 1733 = some (.ireturn, 1734, 0, 0, .null) := by decide +kernel
theorem x_259_1733 : Tr sc d 259 (1733, [l0, l1, l2, l3], [.int i0], h) Q = (vp_nar .boolean i0 = i0 ∧ Q (some (.int i0), h)) := t_zret k_259_1733 r_259
theorem k_259_1734 : lk 259 1734 = some (.aload_n 1, 1735, 1, 0, .null) := by decide +kernel
theorem x_259_1734 : Tr sc d 259 (1734, [l0, some (.ref xk), l2, l3], [], h) Q = Tr sc d 259 (1735, [l0, some (.ref xk), l2, l3], [.ref xk], h) Q := t_aload_n k_259_1734 rfl
theorem k_259_1735 : lk 259 1735 = some (.invokevirtual 195, 1738, 140, 0, .null) := by decide +kernel
theorem x_259_1735 : Tr sc (d + 1) 259 (1735, [l0, l1, l2, l3], [.ref k0], h) Q = (okp h k0 9 = true ∧ Tr sc d 140 (ent0 140 [.ref k0] h) (fun z => Tr sc (d + 1) 259 (1738, [l0, l1, l2, l3], z.1.toList ++ [], z.2) Q)) := t_cv (as := []) (r := []) k_259_1735 rfl rfl (Nat.le_of_ble_eq_true rfl) (Nat.le_of_ble_eq_true rfl) (Nat.le_of_ble_eq_true rfl)
theorem k_259_1738 : lk 259 1738 = some (.aload_n 2, 1739, 2, 0, .null) := by decide +kernel
theorem x_259_1738 : Tr sc d 259 (1738, [l0, l1, some (.ref xk), l3], [.long j0], h) Q = Tr sc d 259 (1739, [l0, l1, some (.ref xk), l3], [.ref xk, .long j0], h) Q := t_aload_n k_259_1738 rfl
theorem k_259_1739 : lk 259 1739 = some (.invokevirtual 198, 1742, 251, 0, .null) := by decide +kernel
theorem x_259_1739 : Tr sc (d + 1) 259 (1739, [l0, l1, l2, l3], [.ref k1, .long j0], h) Q = (okp h k1 10 = true ∧ Tr sc d 251 (ent0 251 [.ref k1] h) (fun z => Tr sc (d + 1) 259 (1742, [l0, l1, l2, l3], z.1.toList ++ [.long j0], z.2) Q)) := t_cv (as := []) (r := [.long j0]) k_259_1739 rfl rfl (Nat.le_of_ble_eq_true rfl) (Nat.le_of_ble_eq_true rfl) (Nat.le_of_ble_eq_true rfl)
theorem k_259_1742 : lk 259 1742 = some (.lcmp, 1743, 0, 0, .null) := by decide +kernel
theorem x_259_1742 : Tr sc d 259 (1742, [l0, l1, l2, l3], [.long j1, .long j0], h) Q = Tr sc d 259 (1743, [l0, l1, l2, l3], [.int (lg_cmp j0 j1)], h) Q := t_go k_259_1742 rfl
theorem k_259_1743 : lk 259 1743 = some (.ifCond .eq 5, 1746, 1748, 0, .null) := by decide +kernel
theorem x_259_1743 : Tr sc d 259 (1743, [l0, l1, l2, l3], [.int i0], h) Q = if i0 = 0 then Tr sc d 259 (1748, [l0, l1, l2, l3], [], h) Q else Tr sc d 259 (1746, [l0, l1, l2, l3], [], h) Q := t_if k_259_1743 rfl
theorem k_259_1746 : lk 259 1746 = some (.iconst 0, 1747, 0, 0, .int 0) := by decide +kernel
theorem x_259_1746 : Tr sc d 259 (1746, [l0, l1, l2, l3], [], h) Q = Tr sc d 259 (1747, [l0, l1, l2, l3], [.int 0], h) Q := t_go k_259_1746 rfl
theorem k_259_1747 : lk 259 1747 = some (.ireturn, 1748, 0, 0, .null) := by decide +kernel
theorem x_259_1747 : Tr sc d 259 (1747, [l0, l1, l2, l3], [.int i0], h) Q = (vp_nar .boolean i0 = i0 ∧ Q (some (.int i0), h)) := t_zret k_259_1747 r_259
theorem k_259_1748 : lk 259 1748 = some (.iinc 3 6, 1751, 3, 0, .int 6) := by decide +kernel
theorem x_259_1748 : Tr sc d 259 (1748, [l0, l1, l2, some (.int x)], [], h) Q = Tr sc d 259 (1751, [l0, l1, cl2 l2, some (.int (x + 6))], [], h) Q := t_inc k_259_1748 rfl (Nat.le_of_ble_eq_true rfl)
theorem k_259_1751 : lk 259 1751 = some (.goto (-1733), 1754, 18, 0, .null) := by decide +kernel
theorem x_259_1751 : Tr sc d 259 (1751, [l0, l1, l2, l3], [], h) Q = Tr sc d 259 (18, [l0, l1, l2, l3], [], h) Q := t_go k_259_1751 rfl
theorem k_259_1754 : lk 259 1754 = some (.iconst 1, 1755, 0, 0, .int 1) := by decide +kernel
theorem x_259_1754 : Tr sc d 259 (1754, [l0, l1, l2, l3], [], h) Q = Tr sc d 259 (1755, [l0, l1, l2, l3], [.int 1], h) Q := t_go k_259_1754 rfl
theorem k_259_1755 : lk 259 1755 = some (.ireturn, 1756, 0, 0, .null) := by decide +kernel
theorem x_259_1755 : Tr sc d 259 (1755, [l0, l1, l2, l3], [.int i0], h) Q = (vp_nar .boolean i0 = i0 ∧ Q (some (.int i0), h)) := t_zret k_259_1755 r_259
theorem e_259 : Tr sc d 259 (ent0 259 [.ref k0] h) Q = Tr sc d 259 (0, [some (.ref k0), none, none, none], [], h) Q := by
  have e : mL 259 = 4 := by decide +kernel
  unfold ent0
  rw [e]
  rfl
end XX
